def waysV (n k : Nat) : Int64 := fo (fun i x => (x * (nI n - nI i).toInt64) / (nI (i + 1)).toInt64) 0 k 1
def powV (b : Int64) (k : Nat) : Int64 := fo (fun _ x => x * b) 0 k 1
def wayM (n k p : Nat) : Int64 := fo (fun i x => x * (if k ≤ i then ((12 : Int32) - nI p).toInt64 else (nI p).toInt64)) 0 n (waysV n k)
theorem l1ne (j : Nat) (h : j < 100) : ¬ (nI (j + 1)).toInt64 = 0 := by
  rw [nI_l (show j + 1 < 2 ^ 31 by omega), lNeq0 (show j + 1 < 2 ^ 62 by omega)]
  omega
theorem X5_ways_v {n k : Nat} (hn : n < 10) (hk : k < 10) : f_X5_ways (nI n) (nI k) = some (waysV n k) := by
  unfold f_X5_ways waysV
  refine loopP (fun N j x => l_X5_ways_5 (nI n) (nI k) (fun x => some x) N x (nI j)) (fun x => some x) (fun i x => (x * (nI n - nI i).toInt64) / (nI (i + 1)).toInt64) k ?_ ?_ k 0 FU 1 (by omega) (lt_FU (by omega))
  · intro N x
    show l_X5_ways_5 (nI n) (nI k) _ (N + 1) x (nI k) = _
    unfold l_X5_ways_5
    rw [if_pos (nI_le (Nat.le_refl _) (by omega))]
  · intro N j x hj
    show l_X5_ways_5 (nI n) (nI k) _ (N + 1) x (nI j) = _
    conv => lhs; unfold l_X5_ways_5
    rw [if_neg (nI_ge hj (by omega)), nI_1, decide_eq_true (l1ne j (by omega)), ckT, nmE, nmE]
theorem X5_power_v {k : Nat} (b : Int64) (hk : k < 10) : f_X5_power b (nI k) = some (powV b k) := by
  unfold f_X5_power powV
  refine loopP (fun N j x => l_X5_power_5 b (nI k) (fun x => some x) N x (nI j)) (fun x => some x) (fun _ x => x * b) k ?_ ?_ k 0 FU 1 (by omega) (lt_FU (by omega))
  · intro N x
    show l_X5_power_5 b (nI k) _ (N + 1) x (nI k) = _
    unfold l_X5_power_5
    rw [if_pos (nI_le (Nat.le_refl _) (by omega))]
  · intro N j x hj
    show l_X5_power_5 b (nI k) _ (N + 1) x (nI j) = _
    conv => lhs; unfold l_X5_power_5
    rw [if_neg (nI_ge hj (by omega)), nI_1, nmE, nmE]
def chN : Nat → Nat → Nat
  | _, 0 => 1
  | 0, _ + 1 => 0
  | n + 1, k + 1 => chN n k + chN n (k + 1)
def wN (n k p : Nat) : Nat := chN n k * p ^ k * (12 - p) ^ (n - k)
theorem wCh : ∀ n < 9, ∀ k < 9, k ≤ n → ∀ p < 13, (waysV n k * powV (nI p).toInt64 k) * powV ((12 : Int32) - nI p).toInt64 (n - k) = lN (wN n k p) ∧ wayM n k p = lN (wN n k p) ∧ wN n k p < 2 ^ 30 := by decide +kernel
theorem low12 : ∀ n < 9, powV 12 n = lN (12 ^ n) ∧ 12 ^ n < 2 ^ 32 := by decide +kernel
theorem X5_weight_v {n k p : Nat} (hn : n < 9) (hk : k ≤ n) (hp : p < 13) : f_X5_weight (nI n) (nI k) (nI p) = some (lN (wN n k p)) := by
  unfold f_X5_weight
  rw [X5_ways_v (by omega) (by omega), bndS, X5_power_v _ (by omega), bndS, nIsub hk, X5_power_v _ (by omega), bndS, (wCh n hn k (by omega) hk p hp).1]
theorem fo_lN (g : Nat → Nat) : ∀ m j a, fo (fun k x => x + lN (g k)) j m (lN a) = lN (fo (fun k x => x + g k) j m a) := by
  intro m
  induction m with
  | zero => intro j a; rfl
  | succ m ih =>
    intro j a
    rw [fo_succ, fo_succ, lN_add, ih]
theorem fo_bd (g : Nat → Nat) (c : Nat) : ∀ m j a, (∀ k, j ≤ k → k < j + m → g k ≤ c) → fo (fun k x => x + g k) j m a ≤ a + m * c := by
  intro m
  induction m with
  | zero => intro j a _; simp [fo]
  | succ m ih =>
    intro j a h
    rw [fo_succ]
    have h1 := ih (j + 1) (a + g j) (fun k h1 h2 => h k (by omega) (by omega))
    have h2 := h j (Nat.le_refl _) (by omega)
    rw [Nat.succ_mul]
    omega
theorem X5_isTry_v {n : Nat} {v : Nat → Int32} {s : Nat} {σ : Sg} (hc : HC n v (gR σ 0) σ) {i : Nat} (hi : i < n) (a2 a3 : Int32) : f_X5_isTry (nI i) a2 a3 σ = some (inV a2 0 8 && inV a3 0 12) := by
  unfold f_X5_isTry
  rw [X4_isHouse_i hc hi, bndS, bfT, X5_within_v, bndS, X5_within_v]
  cases inV a2 0 8
  · rfl
  · cases inV a3 0 12 <;> rfl
theorem oddsC {σ : Sg} {n p x : Nat} {K : Int64 → Option (Int32 × Sg)} (hn : n < 9) (hp : p < 13) : l_X5_odds_28 (nI n) (nI p) (nI x) σ K FU 0 0 = K (lN (fo (fun k z => z + (if k < x then 0 else wN n k p)) 0 (n + 1) 0)) ∨ ¬ x < 100 := by
  by_cases hx : x < 100
  · refine Or.inl ?_
    have := loopP (fun N j z => l_X5_odds_28 (nI n) (nI p) (nI x) σ K N z (nI j)) K (fun k z => z + lN (if k < x then 0 else wN n k p)) (n + 1)
      (fun N z => by
        show l_X5_odds_28 (nI n) (nI p) (nI x) σ K (N + 1) z (nI (n + 1)) = _
        unfold l_X5_odds_28
        rw [if_pos (nI_lt (by omega) (by omega))])
      (fun N j z hj => by
        show l_X5_odds_28 (nI n) (nI p) (nI x) σ K (N + 1) z (nI j) = _
        conv => lhs; unfold l_X5_odds_28
        rw [if_neg (nI_nlt (by omega) (by omega)), if_neg (nI9 (by omega)), X5_weight_v hn (by omega) hp]
        simp only [nIlt (show j < 2 ^ 31 by omega) (show x < 2 ^ 31 by omega), ckT, bfT, bfF, bndS, bnd2S, nmE, nI_1]
        split <;> rfl) (n + 1) 0 FU 0 (by omega) (lt_FU (by omega))
    refine this.trans (congrArg K ?_)
    exact fo_lN _ _ _ 0
  · exact Or.inr hx
theorem oddsC9 {σ : Sg} {n p : Nat} {K : Int64 → Option (Int32 × Sg)} : l_X5_odds_28 (nI n) (nI p) (-9) σ K FU 0 0 = K 0 := by
  obtain ⟨N, hN⟩ : ∃ N, FU = N + 1 := ⟨FU - 1, by decide⟩
  rw [hN]
  unfold l_X5_odds_28
  split
  · rfl
  · rw [if_pos rfl]
theorem midC {σ : Sg} {n p x : Nat} {K : Int64 → Option (Int32 × Sg)} (hn : n < 9) (hp : p < 13) (hx : x < 100) : l_X5_mid_41 (nI n) (nI p) (nI x) σ K FU 0 0 = K (lN (fo (fun k z => z + wN n k p * (x - k)) 0 (n + 1) 0)) := by
  have := loopP (fun N j z => l_X5_mid_41 (nI n) (nI p) (nI x) σ K N z (nI j)) K (fun k z => z + lN (wN n k p * (x - k))) (n + 1)
    (fun N z => by
      show l_X5_mid_41 (nI n) (nI p) (nI x) σ K (N + 1) z (nI (n + 1)) = _
      unfold l_X5_mid_41
      rw [if_pos (nI_lt (by omega) (by omega))])
    (fun N j z hj => by
      show l_X5_mid_41 (nI n) (nI p) (nI x) σ K (N + 1) z (nI j) = _
      conv => lhs; unfold l_X5_mid_41
      have e : mmax 0 (nI x - nI j) = nI (x - j) := by
        by_cases h : j ≤ x
        · rw [nIsub h, mx0 (by omega)]
        · rw [show x - j = 0 by omega]
          refine mxn ?_
          rw [Int32.lt_iff_toInt_lt, nI_sub_toInt (by omega) (by omega)]
          have e0 : (0 : Int32).toInt = 0 := by decide
          omega
      rw [if_neg (nI_nlt (by omega) (by omega)), X5_weight_v hn (by omega) hp, bndS, nmE, nmE, nI_1, e, nI_l (show x - j < 2 ^ 31 by omega), lN_mul]) (n + 1) 0 FU 0 (by omega) (lt_FU (by omega))
  refine this.trans (congrArg K ?_)
  exact fo_lN _ _ _ 0
theorem X4_isSet_i {n : Nat} {v : Nat → Int32} {t : Nat} {σ : Sg} (h : HC n v t σ) {s : Nat} (hs : s < 2 ^ n) : f_X4_isSet t (nI s) σ = some true := by
  have h64 := p64 h.1
  have := h.1
  unfold f_X4_isSet
  rw [h.2.2.1, shl1 n (by omega), if_neg (nI_pos (by omega)), if_neg (nI_ge hs (by omega))]
theorem X4_isSet_o {n : Nat} {v : Nat → Int32} {t : Nat} {σ : Sg} (h : HC n v t σ) {x : Int32} (hx : x < 0 ∨ (¬ x < 0 ∧ nI (2 ^ n) ≤ x)) : f_X4_isSet t x σ = some false := by
  have := h.1
  unfold f_X4_isSet
  rw [h.2.2.1, shl1 n (by omega)]
  rcases hx with h1 | ⟨h1, h2⟩
  · rw [if_pos h1]
  · rw [if_neg h1, if_pos h2]
def wakB (v : Nat → Int32) (i : Nat) : Bool := decide (0 < moreV v i)
theorem hoB : ∀ s < 64, ∀ i < 6, hoV (nI s) i = s.testBit i := by decide +kernel
theorem subB : ∀ s < 64, ∀ t < 64, decide ((nI s &&& (nI t ^^^ (-1 : Int32))) = 0) = al (fun i => !(s.testBit i) || t.testBit i) 0 6 := by decide +kernel
theorem outB : ∀ n < 7, ∀ s < 64, s < 2 ^ n → ∀ i < 6, n ≤ i → s.testBit i = false := by decide +kernel
theorem al_ext (Pq : Nat → Bool) : ∀ d m j, (∀ i, j + m ≤ i → i < j + m + d → Pq i = true) → al Pq j (m + d) = al Pq j m := by
  intro d m
  induction m with
  | zero =>
    intro j h
    rw [Nat.zero_add]
    show al Pq j d = true
    have : ∀ d j, (∀ i, j ≤ i → i < j + d → Pq i = true) → al Pq j d = true := by
      intro d
      induction d with
      | zero => intro j _; rfl
      | succ d ih =>
        intro j hh
        rw [al_succ, hh j (Nat.le_refl _) (by omega), ih (j + 1) (fun i h1 h2 => hh i (by omega) (by omega))]
        rfl
    exact this d j (fun i h1 h2 => h i (by omega) (by omega))
  | succ m ih =>
    intro j h
    rw [show m + 1 + d = (m + d) + 1 by omega, al_succ, al_succ, ih (j + 1) (fun i h1 h2 => h i (by omega) (by omega))]
/-- all can be woken, by the reference's own test -/
theorem can_eq {n : Nat} {v : Nat → Int32} (hn : n ≤ 6) {s : Nat} (hs : s < 2 ^ n) : canV v (nI s) n = decide ((nI s &&& (nI (bsN (wakB v) n) ^^^ (-1 : Int32))) = 0) := by
  have h64 := p64 hn
  rw [subB s (by omega) _ (bsN_64 _ hn)]
  have := al_ext (fun i => !(s.testBit i) || (bsN (wakB v) n).testBit i) (6 - n) n 0 (fun i h1 h2 => by
    rw [outB n (by omega) s (by omega) hs i (by omega) (by omega)]; rfl)
  rw [show n + (6 - n) = 6 by omega] at this
  rw [this]
  unfold canV
  refine al_congr _ _ (fun i _ hi => ?_)
  rw [hoB s (by omega) i (by omega), bsN_bit _ n hn i (by omega)]
  rfl
theorem can_at {n : Nat} {v : Nat → Int32} {a : Int32} (h : canV v a n = true) {i : Nat} (hi : i < n) (ha : hoV a i = true) : 0 < moreV v i := by
  have : ∀ m j, al (fun i => !(hoV a i) || decide (0 < moreV v i)) j m = true → ∀ i, j ≤ i → i < j + m → (!(hoV a i) || decide (0 < moreV v i)) = true := by
    intro m
    induction m with
    | zero => intro j _ i h1 h2; omega
    | succ m ih =>
      intro j hh i h1 h2
      rw [al_succ, Bool.and_eq_true] at hh
      by_cases e : i = j
      · subst e; exact hh.1
      · exact ih (j + 1) hh.2 i (by omega) (by omega)
  have := this n 0 h i (Nat.zero_le _) (by omega)
  rw [ha] at this
  exact of_decide_eq_true this
/-! the soonest round -/
def wlG (a : Int32) : Nat → Int32 × Int32 → Int32 × Int32 := fun i b => if hoV a i then (mmin b.1 (nI i), nI i) else b
def wlV (a : Int32) : Int32 × Int32 := fo (wlG a) 0 6 (6, 0)
def walkO (a p : Int32) : Int32 := if a = 0 then 0 else ((wlV a).2 - (wlV a).1) + mmin (mabs (p - (wlV a).1)) (mabs (p - (wlV a).2))
theorem X3_walkOver_v (a p : Int32) : f_X3_walkOver a p = some (walkO a p) := by
  unfold f_X3_walkOver walkO wlV
  have := loopP (fun N j (b : Int32 × Int32) => l_X3_walkOver_8 a p (fun (v2_40 : Int32) (v3_40 : Int32) => (nm (mmin (mabs (p - v2_40)) (mabs (p - v3_40))) (fun y4 => (if a = 0 then (some (0 : Int32)) else (some ((v3_40 - v2_40) + y4)))))) N b.1 b.2 (nI j)) (fun b => if a = 0 then (some (0 : Int32)) else (some ((b.2 - b.1) + mmin (mabs (p - b.1)) (mabs (p - b.2))))) (wlG a) 6
    (fun N b => by
      show l_X3_walkOver_8 a p _ (N + 1) b.1 b.2 (nI 6) = _
      unfold l_X3_walkOver_8
      rw [if_pos (by decide)]
      rfl)
    (fun N j b hj => by
      show l_X3_walkOver_8 a p _ (N + 1) b.1 b.2 (nI j) = _
      conv => lhs; unfold l_X3_walkOver_8
      rw [show (6 : Int32) = nI 6 from rfl, if_neg (nI_ge hj (by omega)), X5_holds_v]
      simp only [ckT, bfT, bfF, bndS, bnd2S, nmE, nI_1]
      unfold wlG
      cases hoV a j <;> rfl) 6 0 FU (6, 0) (by omega) (lt_FU (by omega))
  refine this.trans ?_
  split <;> rfl
def flG (a : Int32) : Nat → Int32 × Int32 → Int32 × Int32 := fun i b => if hoV a i then (if b.1 ≤ nI i then b.1 else nI i, nI i) else b
theorem fo_pair {α β : Type} {g : Nat → α × β → α × β} {g1 : Nat → α → α} {g2 : Nat → β → β} : ∀ m j a b, (∀ i a b, j ≤ i → i < j + m → g i (a, b) = (g1 i a, g2 i b)) → fo g j m (a, b) = (fo g1 j m a, fo g2 j m b) := by
  intro m
  induction m with
  | zero => intro j a b _; rfl
  | succ m ih =>
    intro j a b h
    rw [fo_succ, h j a b (Nat.le_refl _) (by omega), ih (j + 1) _ _ (fun i a b h1 h2 => h i a b (by omega) (by omega))]
    rfl
theorem fo_ext {α : Type} {g : Nat → α → α} (d : Nat) : ∀ m j a, (∀ i a, j + m ≤ i → i < j + m + d → g i a = a) → fo g j (m + d) a = fo g j m a := by
  intro m
  induction m with
  | zero =>
    intro j a h
    rw [Nat.zero_add]
    show fo g j d a = a
    have : ∀ d j, (∀ i a, j ≤ i → i < j + d → g i a = a) → ∀ a, fo g j d a = a := by
      intro d
      induction d with
      | zero => intro j _ a; rfl
      | succ d ih =>
        intro j hh a
        rw [fo_succ, hh j a (Nat.le_refl _) (by omega), ih (j + 1) (fun i a h1 h2 => hh i a (by omega) (by omega))]
    exact this d j (fun i a h1 h2 => h i a (by omega) (by omega)) a
  | succ m ih =>
    intro j a h
    rw [show m + 1 + d = (m + d) + 1 by omega, fo_succ, fo_succ, ih (j + 1) _ (fun i a h1 h2 => h i a (by omega) (by omega))]
theorem i3 (t l f x : Int32) : ((t + l) - f) + x = t + ((l - f) + x) := by
  rw [Int32.sub_eq_add_neg, Int32.sub_eq_add_neg, Int32.add_assoc, Int32.add_assoc, Int32.add_assoc]
