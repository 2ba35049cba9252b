def waysV (n k : Nat) : Int64 := fo (fun i x => (x * (nI n - nI i).toInt64) / (nI (i + 1)).toInt64) 0 k 1
def powV (b : Int64) (k : Nat) : Int64 := fo (fun _ x => x * b) 0 k 1
def wayM (n k p : Nat) : Int64 := fo (fun i x => x * (if k ≤ i then ((12 : Int32) - nI p).toInt64 else (nI p).toInt64)) 0 n (waysV n k)
theorem l1ne (j : Nat) (h : j < 100) : ¬ (nI (j + 1)).toInt64 = 0 := by
  rw [nI_l (show j + 1 < 2 ^ 31 by omega), lNeq0 (show j + 1 < 2 ^ 62 by omega)]
  omega
theorem X5_ways_v {n k : Nat} (hn : n < 10) (hk : k < 10) : f_X5_ways (nI n) (nI k) = some (waysV n k) := by
  unfold f_X5_ways waysV
  refine loopP (fun N j x => l_X5_ways_5 (nI n) (nI k) (fun x => some x) N x (nI j)) (fun x => some x) (fun i x => (x * (nI n - nI i).toInt64) / (nI (i + 1)).toInt64) k ?_ ?_ k 0 FU 1 (by omega) (lt_FU (by omega))
  · intro N x
    show l_X5_ways_5 (nI n) (nI k) _ (N + 1) x (nI k) = _
    unfold l_X5_ways_5
    rw [if_pos (nI_le (Nat.le_refl _) (by omega))]
  · intro N j x hj
    show l_X5_ways_5 (nI n) (nI k) _ (N + 1) x (nI j) = _
    conv => lhs; unfold l_X5_ways_5
    rw [if_neg (nI_ge hj (by omega)), nI_1, decide_eq_true (l1ne j (by omega)), ckT, nmE, nmE]
theorem X5_power_v {k : Nat} (b : Int64) (hk : k < 10) : f_X5_power b (nI k) = some (powV b k) := by
  unfold f_X5_power powV
  refine loopP (fun N j x => l_X5_power_5 b (nI k) (fun x => some x) N x (nI j)) (fun x => some x) (fun _ x => x * b) k ?_ ?_ k 0 FU 1 (by omega) (lt_FU (by omega))
  · intro N x
    show l_X5_power_5 b (nI k) _ (N + 1) x (nI k) = _
    unfold l_X5_power_5
    rw [if_pos (nI_le (Nat.le_refl _) (by omega))]
  · intro N j x hj
    show l_X5_power_5 b (nI k) _ (N + 1) x (nI j) = _
    conv => lhs; unfold l_X5_power_5
    rw [if_neg (nI_ge hj (by omega)), nI_1, nmE, nmE]
theorem X6_whole_v {k : Nat} (hk : k < 10) : f_X6_whole (nI k) = some (powV 12 k) := by
  unfold f_X6_whole powV
  refine loopP (fun N j x => l_X6_whole_4 (nI k) (fun x => some x) N x (nI j)) (fun x => some x) (fun _ x => x * 12) k ?_ ?_ k 0 FU 1 (by omega) (lt_FU (by omega))
  · intro N x
    show l_X6_whole_4 (nI k) _ (N + 1) x (nI k) = _
    unfold l_X6_whole_4
    rw [if_pos (nI_le (Nat.le_refl _) (by omega))]
  · intro N j x hj
    show l_X6_whole_4 (nI k) _ (N + 1) x (nI j) = _
    conv => lhs; unfold l_X6_whole_4
    rw [if_neg (nI_ge hj (by omega)), nI_1, nmE, nmE]
theorem X6_waysOf_v {n k p : Nat} (hn : n < 10) (hk : k < 10) : f_X6_waysOf (nI n) (nI k) (nI p) = some (wayM n k p) := by
  have L1 : ∀ K : Int64 → Option Int64, l_X6_waysOf_5 (nI n) (nI k) (nI p) K FU 1 0 = K (waysV n k) := fun K => loopP (fun N j x => l_X6_waysOf_5 (nI n) (nI k) (nI p) K N x (nI j)) K (fun i x => (x * (nI n - nI i).toInt64) / (nI (i + 1)).toInt64) k
    (fun N x => by
      show l_X6_waysOf_5 (nI n) (nI k) (nI p) _ (N + 1) x (nI k) = _
      unfold l_X6_waysOf_5
      rw [if_pos (nI_le (Nat.le_refl _) (by omega))])
    (fun N j x hj => by
      show l_X6_waysOf_5 (nI n) (nI k) (nI p) _ (N + 1) x (nI j) = _
      conv => lhs; unfold l_X6_waysOf_5
      rw [if_neg (nI_ge hj (by omega)), nI_1, decide_eq_true (l1ne j (by omega)), ckT, nmE, nmE]) k 0 FU 1 (by omega) (lt_FU (by omega))
  unfold f_X6_waysOf wayM
  rw [L1]
  refine loopP (fun N j x => l_X6_waysOf_34 (nI n) (nI k) (nI p) (fun x => some x) N x (nI j)) (fun x => some x) (fun i x => x * (if k ≤ i then ((12 : Int32) - nI p).toInt64 else (nI p).toInt64)) n ?_ ?_ n 0 FU (waysV n k) (by omega) (lt_FU (by omega))
  · intro N x
    show l_X6_waysOf_34 (nI n) (nI k) (nI p) _ (N + 1) x (nI n) = _
    unfold l_X6_waysOf_34
    rw [if_pos (nI_le (Nat.le_refl _) (by omega))]
  · intro N j x hj
    show l_X6_waysOf_34 (nI n) (nI k) (nI p) _ (N + 1) x (nI j) = _
    conv => lhs; unfold l_X6_waysOf_34
    rw [if_neg (nI_ge hj (by omega))]
    simp only [nIle (show k < 2 ^ 31 by omega) (show j < 2 ^ 31 by omega), nmE, nI_1]
    split <;> rfl
def chN : Nat → Nat → Nat
  | _, 0 => 1
  | 0, _ + 1 => 0
  | n + 1, k + 1 => chN n k + chN n (k + 1)
def wN (n k p : Nat) : Nat := chN n k * p ^ k * (12 - p) ^ (n - k)
theorem wCh : ∀ n < 9, ∀ k < 9, k ≤ n → ∀ p < 13, (waysV n k * powV (nI p).toInt64 k) * powV ((12 : Int32) - nI p).toInt64 (n - k) = lN (wN n k p) ∧ wayM n k p = lN (wN n k p) ∧ wN n k p < 2 ^ 30 := by decide +kernel
theorem low12 : ∀ n < 9, powV 12 n = lN (12 ^ n) ∧ 12 ^ n < 2 ^ 32 := by decide +kernel
theorem X5_weight_v {n k p : Nat} (hn : n < 9) (hk : k ≤ n) (hp : p < 13) : f_X5_weight (nI n) (nI k) (nI p) = some (lN (wN n k p)) := by
  unfold f_X5_weight
  rw [X5_ways_v (by omega) (by omega), bndS, X5_power_v _ (by omega), bndS, nIsub hk, X5_power_v _ (by omega), bndS, (wCh n hn k (by omega) hk p hp).1]
theorem fo_lN (g : Nat → Nat) : ∀ m j a, fo (fun k x => x + lN (g k)) j m (lN a) = lN (fo (fun k x => x + g k) j m a) := by
  intro m
  induction m with
  | zero => intro j a; rfl
  | succ m ih =>
    intro j a
    rw [fo_succ, fo_succ, lN_add, ih]
theorem fo_bd (g : Nat → Nat) (c : Nat) : ∀ m j a, (∀ k, j ≤ k → k < j + m → g k ≤ c) → fo (fun k x => x + g k) j m a ≤ a + m * c := by
  intro m
  induction m with
  | zero => intro j a _; simp [fo]
  | succ m ih =>
    intro j a h
    rw [fo_succ]
    have h1 := ih (j + 1) (a + g j) (fun k h1 h2 => h k (by omega) (by omega))
    have h2 := h j (Nat.le_refl _) (by omega)
    rw [Nat.succ_mul]
    omega
theorem X5_isTry_v {n : Nat} {v : Nat → Int32} {s : Nat} {σ : Sg} (hc : HC n v (gR σ 0) σ) {i : Nat} (hi : i < n) (a2 a3 : Int32) : f_X5_isTry (nI i) a2 a3 σ = some (inV a2 0 8 && inV a3 0 12) := by
  unfold f_X5_isTry
  rw [X4_isHouse_i hc hi, bndS, bfT, X5_within_v, bndS, X5_within_v]
  cases inV a2 0 8
  · rfl
  · cases inV a3 0 12 <;> rfl
theorem oddsC {σ : Sg} {n p x : Nat} {K : Int64 → Option (Int32 × Sg)} (hn : n < 9) (hp : p < 13) : l_X5_odds_28 (nI n) (nI p) (nI x) σ K FU 0 0 = K (lN (fo (fun k z => z + (if k < x then 0 else wN n k p)) 0 (n + 1) 0)) ∨ ¬ x < 100 := by
  by_cases hx : x < 100
  · refine Or.inl ?_
    have := loopP (fun N j z => l_X5_odds_28 (nI n) (nI p) (nI x) σ K N z (nI j)) K (fun k z => z + lN (if k < x then 0 else wN n k p)) (n + 1)
      (fun N z => by
        show l_X5_odds_28 (nI n) (nI p) (nI x) σ K (N + 1) z (nI (n + 1)) = _
        unfold l_X5_odds_28
        rw [if_pos (nI_lt (by omega) (by omega))])
      (fun N j z hj => by
        show l_X5_odds_28 (nI n) (nI p) (nI x) σ K (N + 1) z (nI j) = _
        conv => lhs; unfold l_X5_odds_28
        rw [if_neg (nI_nlt (by omega) (by omega)), if_neg (nI9 (by omega)), X5_weight_v hn (by omega) hp]
        simp only [nIlt (show j < 2 ^ 31 by omega) (show x < 2 ^ 31 by omega), ckT, bfT, bfF, bndS, bnd2S, nmE, nI_1]
        split <;> rfl) (n + 1) 0 FU 0 (by omega) (lt_FU (by omega))
    refine this.trans (congrArg K ?_)
    exact fo_lN _ _ _ 0
  · exact Or.inr hx
theorem oddsM {τ : Sg} {n p x : Nat} {K : Int64 → Option (Int32 × Sg)} (hn : n < 9) (hp : p < 13) (hx : x < 100) : l_X6_odds_43 (nI n) (nI p) (nI x) τ K FU 0 0 = K (lN (fo (fun k z => z + (if k < x then 0 else wN n k p)) 0 (n + 1) 0)) := by
  have := loopP (fun N j z => l_X6_odds_43 (nI n) (nI p) (nI x) τ K N z (nI j)) K (fun k z => z + lN (if k < x then 0 else wN n k p)) (n + 1)
    (fun N z => by
      show l_X6_odds_43 (nI n) (nI p) (nI x) τ K (N + 1) z (nI (n + 1)) = _
      unfold l_X6_odds_43
      rw [if_pos (nI_lt (by omega) (by omega))])
    (fun N j z hj => by
      show l_X6_odds_43 (nI n) (nI p) (nI x) τ K (N + 1) z (nI j) = _
      conv => lhs; unfold l_X6_odds_43
      rw [if_neg (nI_nlt (by omega) (by omega))]
      simp only [nmE]
      rw [if_neg (nI9 (by omega)), X6_waysOf_v (by omega) (by omega), (wCh n hn j (by omega) (by omega) p hp).2.1]
      simp only [nIlt (show j < 2 ^ 31 by omega) (show x < 2 ^ 31 by omega), ckT, bfT, bfF, bndS, bnd2S, nmE, nI_1]
      split <;> rfl) (n + 1) 0 FU 0 (by omega) (lt_FU (by omega))
  refine this.trans (congrArg K ?_)
  exact fo_lN _ _ _ 0
theorem oddsC9 {σ : Sg} {n p : Nat} {K : Int64 → Option (Int32 × Sg)} : l_X5_odds_28 (nI n) (nI p) (-9) σ K FU 0 0 = K 0 := by
  obtain ⟨N, hN⟩ : ∃ N, FU = N + 1 := ⟨FU - 1, by decide⟩
  rw [hN]
  unfold l_X5_odds_28
  split
  · rfl
  · rw [if_pos rfl]
theorem oddsM9 {τ : Sg} {n p : Nat} {K : Int64 → Option (Int32 × Sg)} (hn : n < 9) : l_X6_odds_43 (nI n) (nI p) (-9) τ K FU 0 0 = K 0 := by
  have := loopP (fun N j z => l_X6_odds_43 (nI n) (nI p) (-9) τ K N z (nI j)) K (fun _ z => z + 0) (n + 1)
    (fun N z => by
      show l_X6_odds_43 (nI n) (nI p) (-9) τ K (N + 1) z (nI (n + 1)) = _
      unfold l_X6_odds_43
      rw [if_pos (nI_lt (by omega) (by omega))])
    (fun N j z hj => by
      show l_X6_odds_43 (nI n) (nI p) (-9) τ K (N + 1) z (nI j) = _
      conv => lhs; unfold l_X6_odds_43
      rw [if_neg (nI_nlt (by omega) (by omega))]
      simp only [nmE]
      rw [if_pos trivial, nI_1]) (n + 1) 0 FU 0 (by omega) (lt_FU (by omega))
  refine this.trans (congrArg K ?_)
  have e : ∀ m j, fo (fun (_ : Nat) (z : Int64) => z + 0) j m 0 = 0 := by
    intro m
    induction m with
    | zero => intro j; rfl
    | succ m ih => intro j; rw [fo_succ, Int64.add_zero, ih]
  exact e _ _
/-- both tell the same part of twelves -/
theorem tellR {σ τ : Sg} (h : Rel σ τ) {a n : Nat} (ha : a < 2 ^ 48) (hn : n < 9) : ∃ σ' τ', (bnd (f_X5_power (12 : Int64) (nI n)) (fun r7 => (bnd (f_X5_tellRatio (lN a) r7 σ) (fun σ8 => (some ((1 : Int32), σ8)))))) = some (1, σ') ∧ (bnd (f_X6_whole (nI n)) (fun r8 => (bnd (f_X6_tellsPart (lN a) r8 τ) (fun σ9 => (some ((1 : Int32), σ9)))))) = some (1, τ') ∧ Rel σ' τ' := by
  obtain ⟨e1, e2⟩ := low12 n hn
  rw [X5_power_v _ (by omega), X6_whole_v (by omega), bndS, bndS, e1, tellRatio_v ha (Nat.pow_pos (by decide)) e2, tellsPart_v ha (Nat.pow_pos (by decide)) e2]
  exact ⟨_, _, rfl, rfl, ratio_R h _ _⟩
theorem st_odds : S_odds Rel := by
  intro σ τ a1 a2 a3 h
  obtain ⟨h1, h2, h3, h4, h5, n, w, cs, t1, t2, t3, t4, t5⟩ := id h
  have c1 := t3.1
  have m1 := t4.1
  have hv := run_VW t1 t2
  have hn := c1.1
  have hlen := t2.1
  generalize run n (iniV w) cs = v at c1 m1 hv
  unfold f_X5_odds f_X6_odds
  rcases i32c a1 (show n < 2 ^ 31 by omega) with ⟨i, hi, rfl⟩ | ho
  · rw [X5_isTry_v (s := gR σ 0) c1 hi, X6_isOne_i m1 hi, X4_more_v c1 hi, X6_moreOf_v m1 hv hi, bndS, bndS, bndS, bfT, X6_in_v, bndS, X6_in_v, bndS, bndS]
    rcases inV_c a2 (b := 8) (by decide) with ⟨m, hm, rfl, em⟩ | ⟨-, em⟩
    · rw [show (8 : Int32) = nI 8 from rfl, em, bfT, Bool.true_and]
      rcases inV_c a3 (b := 12) (by decide) with ⟨p, hp, rfl, ep⟩ | ⟨-, ep⟩
      · rw [show inV (nI p) 0 12 = true from ep, bfT, bfT]
        rcases more_rg hv hi with e | ⟨x, hx, e⟩
        · rw [e, oddsC9, oddsM9 (by omega)]
          obtain ⟨σ', τ', g1, g2, g3⟩ := tellR h (a := 0) (n := m) (by decide) (by omega)
          exact ⟨_, _, _, g1, g2, g3⟩
        · rw [e, (oddsC (by omega) (by omega)).resolve_right (by omega), oddsM (by omega) (by omega) (by omega)]
          have hb := fo_bd (fun k => if k < x then 0 else wN m k p) (2 ^ 30) (m + 1) 0 0 (fun k _ h2 => by
            split
            · omega
            · have := (wCh m (by omega) k (by omega) (by omega) p (by omega)).2.2
              omega)
          have hb2 : (m + 1) * 2 ^ 30 ≤ 9 * 2 ^ 30 := Nat.mul_le_mul_right _ (by omega)
          obtain ⟨σ', τ', g1, g2, g3⟩ := tellR h (a := fo (fun k z => z + (if k < x then 0 else wN m k p)) 0 (m + 1) 0) (n := m) (by omega) (by omega)
          exact ⟨_, _, _, g1, g2, g3⟩
      · rw [show inV a3 0 12 = false from ep, bfF, bfF]
        exact ⟨_, _, _, rfl, rfl, h⟩
    · rw [show (8 : Int32) = nI 8 from rfl, em, bfF, Bool.false_and, bfF]
      exact ⟨_, _, _, rfl, rfl, h⟩
  · have : f_X5_isTry a1 a2 a3 σ = some false := by
      unfold f_X5_isTry
      rw [X4_isHouse_o c1 ho]
      rfl
    rw [this, X6_isOne_o m1 ho]
    exact ⟨_, _, _, rfl, rfl, h⟩
theorem midC {σ : Sg} {n p x : Nat} {K : Int64 → Option (Int32 × Sg)} (hn : n < 9) (hp : p < 13) (hx : x < 100) : l_X5_mid_41 (nI n) (nI p) (nI x) σ K FU 0 0 = K (lN (fo (fun k z => z + wN n k p * (x - k)) 0 (n + 1) 0)) := by
  have := loopP (fun N j z => l_X5_mid_41 (nI n) (nI p) (nI x) σ K N z (nI j)) K (fun k z => z + lN (wN n k p * (x - k))) (n + 1)
    (fun N z => by
      show l_X5_mid_41 (nI n) (nI p) (nI x) σ K (N + 1) z (nI (n + 1)) = _
      unfold l_X5_mid_41
      rw [if_pos (nI_lt (by omega) (by omega))])
    (fun N j z hj => by
      show l_X5_mid_41 (nI n) (nI p) (nI x) σ K (N + 1) z (nI j) = _
      conv => lhs; unfold l_X5_mid_41
      have e : mmax 0 (nI x - nI j) = nI (x - j) := by
        by_cases h : j ≤ x
        · rw [nIsub h, mx0 (by omega)]
        · rw [show x - j = 0 by omega]
          refine mxn ?_
          rw [Int32.lt_iff_toInt_lt, nI_sub_toInt (by omega) (by omega)]
          have e0 : (0 : Int32).toInt = 0 := by decide
          omega
      rw [if_neg (nI_nlt (by omega) (by omega)), X5_weight_v hn (by omega) hp, bndS, nmE, nmE, nI_1, e, nI_l (show x - j < 2 ^ 31 by omega), lN_mul]) (n + 1) 0 FU 0 (by omega) (lt_FU (by omega))
  refine this.trans (congrArg K ?_)
  exact fo_lN _ _ _ 0
theorem midM {τ : Sg} {n p x : Nat} {K : Int64 → Option (Int32 × Sg)} (hn : n < 9) (hp : p < 13) (hx : x < 100) : l_X6_mid_56 (nI n) (nI p) (nI x) τ K FU 0 0 = K (lN (fo (fun k z => z + wN n k p * (x - k)) 0 (n + 1) 0)) := by
  have := loopP (fun N j z => l_X6_mid_56 (nI n) (nI p) (nI x) τ K N z (nI j)) K (fun k z => z + lN (wN n k p * (x - k))) (n + 1)
    (fun N z => by
      show l_X6_mid_56 (nI n) (nI p) (nI x) τ K (N + 1) z (nI (n + 1)) = _
      unfold l_X6_mid_56
      rw [if_pos (nI_lt (by omega) (by omega))])
    (fun N j z hj => by
      show l_X6_mid_56 (nI n) (nI p) (nI x) τ K (N + 1) z (nI j) = _
      conv => lhs; unfold l_X6_mid_56
      rw [if_neg (nI_nlt (by omega) (by omega)), X6_waysOf_v (by omega) (by omega), (wCh n hn j (by omega) (by omega) p hp).2.1]
      simp only [nIle (show x < 2 ^ 31 by omega) (show j < 2 ^ 31 by omega), ckT, bfT, bfF, bndS, bnd2S, nmE, nI_1]
      by_cases e : x ≤ j
      · rw [if_pos e, show x - j = 0 by omega, Nat.mul_zero]
        rfl
      · rw [if_neg e, nIsub (show j ≤ x by omega), nI_l (show x - j < 2 ^ 31 by omega), lN_mul]) (n + 1) 0 FU 0 (by omega) (lt_FU (by omega))
  refine this.trans (congrArg K ?_)
  exact fo_lN _ _ _ 0
theorem st_mid : S_mid Rel := by
  intro σ τ a1 a2 a3 h
  obtain ⟨h1, h2, h3, h4, h5, n, w, cs, t1, t2, t3, t4, t5⟩ := id h
  have c1 := t3.1
  have m1 := t4.1
  have hv := run_VW t1 t2
  have hn := c1.1
  have hlen := t2.1
  generalize run n (iniV w) cs = v at c1 m1 hv
  unfold f_X5_mid f_X6_mid
  rcases i32c a1 (show n < 2 ^ 31 by omega) with ⟨i, hi, rfl⟩ | ho
  · rw [X5_isTry_v (s := gR σ 0) c1 hi, X6_isOne_i m1 hi, X4_more_v c1 hi, X6_moreOf_v m1 hv hi, bndS, bndS, bndS, bfT, X6_in_v, bndS, X6_in_v, bndS, bndS]
    rcases inV_c a2 (b := 8) (by decide) with ⟨m, hm, rfl, em⟩ | ⟨-, em⟩
    · rw [show (8 : Int32) = nI 8 from rfl, em, bfT, Bool.true_and]
      rcases inV_c a3 (b := 12) (by decide) with ⟨p, hp, rfl, ep⟩ | ⟨-, ep⟩
      · rw [show inV (nI p) 0 12 = true from ep, bfT, bfT]
        rcases more_rg hv hi with e | ⟨x, hx, e⟩
        · obtain ⟨σ', τ', g1, g2, g3⟩ := found_R h (f := 4) (by decide)
          rw [e, if_pos rfl, if_pos rfl, show (4 : Int32) = nI 4 from rfl, g1, g2]
          exact ⟨_, _, _, rfl, rfl, g3⟩
        · rw [e, if_neg (nI9 (by omega)), if_neg (nI9 (by omega)), midC (by omega) (by omega) (by omega), midM (by omega) (by omega) (by omega)]
          have hb := fo_bd (fun k => wN m k p * (x - k)) (2 ^ 30 * 6) (m + 1) 0 0 (fun k _ h2 => by
            have := (wCh m (by omega) k (by omega) (by omega) p (by omega)).2.2
            exact Nat.mul_le_mul (by omega) (by omega))
          have hb2 : (m + 1) * (2 ^ 30 * 6) ≤ 9 * (2 ^ 30 * 6) := Nat.mul_le_mul_right _ (by omega)
          obtain ⟨σ', τ', g1, g2, g3⟩ := tellR h (a := fo (fun k z => z + wN m k p * (x - k)) 0 (m + 1) 0) (n := m) (by omega) (by omega)
          exact ⟨_, _, _, g1, g2, g3⟩
      · rw [show inV a3 0 12 = false from ep, bfF, bfF]
        exact ⟨_, _, _, rfl, rfl, h⟩
    · rw [show (8 : Int32) = nI 8 from rfl, em, bfF, Bool.false_and, bfF]
      exact ⟨_, _, _, rfl, rfl, h⟩
  · have : f_X5_isTry a1 a2 a3 σ = some false := by
      unfold f_X5_isTry
      rw [X4_isHouse_o c1 ho]
      rfl
    rw [this, X6_isOne_o m1 ho]
    exact ⟨_, _, _, rfl, rfl, h⟩
/-! sets that can be woken -/
theorem X4_isSet_i {n : Nat} {v : Nat → Int32} {t : Nat} {σ : Sg} (h : HC n v t σ) {s : Nat} (hs : s < 2 ^ n) : f_X4_isSet t (nI s) σ = some true := by
  have h64 := p64 h.1
  have := h.1
  unfold f_X4_isSet
  rw [h.2.2.1, shl1 n (by omega), if_neg (nI_pos (by omega)), if_neg (nI_ge hs (by omega))]
theorem X4_isSet_o {n : Nat} {v : Nat → Int32} {t : Nat} {σ : Sg} (h : HC n v t σ) {x : Int32} (hx : x < 0 ∨ (¬ x < 0 ∧ nI (2 ^ n) ≤ x)) : f_X4_isSet t x σ = some false := by
  have := h.1
  unfold f_X4_isSet
  rw [h.2.2.1, shl1 n (by omega)]
  rcases hx with h1 | ⟨h1, h2⟩
  · rw [if_pos h1]
  · rw [if_neg h1, if_pos h2]
theorem X6_isSet_i {n : Nat} {v : Nat → Int32} {τ : Sg} (h : HM n v τ) {s : Nat} (hs : s < 2 ^ n) : f_X6_isSet (nI s) τ = some true := by
  have h64 := p64 h.1
  have := h.1
  unfold f_X6_isSet
  rw [h.2.1, sub1 n (by omega), X6_in_v, inV_t (by omega) (by omega), bndS]
theorem X6_isSet_o {n : Nat} {v : Nat → Int32} {τ : Sg} (h : HM n v τ) {x : Int32} (hx : x < 0 ∨ (¬ x < 0 ∧ nI (2 ^ n) ≤ x)) : f_X6_isSet x τ = some false := by
  have h64 := p64 h.1
  have := h.1
  have hp : 1 ≤ 2 ^ n := Nat.one_le_two_pow
  unfold f_X6_isSet
  rw [h.2.1, sub1 n (by omega), X6_in_v, inV_f (by omega) (by rwa [show 2 ^ n - 1 + 1 = 2 ^ n by omega]), bndS]
def wakB (v : Nat → Int32) (i : Nat) : Bool := decide (0 < moreV v i)
theorem X6_wakable_v {n : Nat} {v : Nat → Int32} {τ : Sg} (h : HM n v τ) (hv : VW n v) : f_X6_wakable τ = some (nI (bsN (wakB v) n)) := by
  have hn := h.1
  unfold f_X6_wakable
  have := loopP (fun N j x => l_X6_wakable_4 τ (fun x => some x) N x (nI j)) (fun x => some x) (fun i x => if wakB v i then x ||| ((1 : Int32) <<< (nI i &&& 31)) else x) n
    (fun N x => by
      show l_X6_wakable_4 τ _ (N + 1) x (nI n) = _
      unfold l_X6_wakable_4
      rw [h.2.1, if_pos (nI_le (Nat.le_refl _) (by omega))])
    (fun N j x hj => by
      show l_X6_wakable_4 τ _ (N + 1) x (nI j) = _
      conv => lhs; unfold l_X6_wakable_4
      rw [h.2.1, if_neg (nI_ge hj (by omega)), X6_moreOf_v h hv hj]
      simp only [ckT, bfT, bfF, bndS, bnd2S, nmE, nI_1]
      unfold wakB
      by_cases e : moreV v j ≤ 0
      · rw [if_pos e, decide_eq_false (Int32.not_lt.mpr e), Int32.or_zero, if_neg (by decide)]
      · rw [if_neg e, decide_eq_true (Int32.not_le.mp e), if_pos rfl]) n 0 FU 0 (by omega) (lt_FU (by omega))
  refine this.trans ?_
  rw [fo_bs (wakB v) n hn]
theorem hoB : ∀ s < 64, ∀ i < 6, hoV (nI s) i = s.testBit i := by decide +kernel
theorem subB : ∀ s < 64, ∀ t < 64, decide ((nI s &&& (nI t ^^^ (-1 : Int32))) = 0) = al (fun i => !(s.testBit i) || t.testBit i) 0 6 := by decide +kernel
theorem outB : ∀ n < 7, ∀ s < 64, s < 2 ^ n → ∀ i < 6, n ≤ i → s.testBit i = false := by decide +kernel
theorem al_ext (Pq : Nat → Bool) : ∀ d m j, (∀ i, j + m ≤ i → i < j + m + d → Pq i = true) → al Pq j (m + d) = al Pq j m := by
  intro d m
  induction m with
  | zero =>
    intro j h
    rw [Nat.zero_add]
    show al Pq j d = true
    have : ∀ d j, (∀ i, j ≤ i → i < j + d → Pq i = true) → al Pq j d = true := by
      intro d
      induction d with
      | zero => intro j _; rfl
      | succ d ih =>
        intro j hh
        rw [al_succ, hh j (Nat.le_refl _) (by omega), ih (j + 1) (fun i h1 h2 => hh i (by omega) (by omega))]
        rfl
    exact this d j (fun i h1 h2 => h i (by omega) (by omega))
  | succ m ih =>
    intro j h
    rw [show m + 1 + d = (m + d) + 1 by omega, al_succ, al_succ, ih (j + 1) (fun i h1 h2 => h i (by omega) (by omega))]
/-- all can be woken, by the reference's own test -/
theorem can_eq {n : Nat} {v : Nat → Int32} (hn : n ≤ 6) {s : Nat} (hs : s < 2 ^ n) : canV v (nI s) n = decide ((nI s &&& (nI (bsN (wakB v) n) ^^^ (-1 : Int32))) = 0) := by
  have h64 := p64 hn
  rw [subB s (by omega) _ (bsN_64 _ hn)]
  have := al_ext (fun i => !(s.testBit i) || (bsN (wakB v) n).testBit i) (6 - n) n 0 (fun i h1 h2 => by
    rw [outB n (by omega) s (by omega) hs i (by omega) (by omega)]; rfl)
  rw [show n + (6 - n) = 6 by omega] at this
  rw [this]
  unfold canV
  refine al_congr _ _ (fun i _ hi => ?_)
  rw [hoB s (by omega) i (by omega), bsN_bit _ n hn i (by omega)]
  rfl
theorem can_at {n : Nat} {v : Nat → Int32} {a : Int32} (h : canV v a n = true) {i : Nat} (hi : i < n) (ha : hoV a i = true) : 0 < moreV v i := by
  have : ∀ m j, al (fun i => !(hoV a i) || decide (0 < moreV v i)) j m = true → ∀ i, j ≤ i → i < j + m → (!(hoV a i) || decide (0 < moreV v i)) = true := by
    intro m
    induction m with
    | zero => intro j _ i h1 h2; omega
    | succ m ih =>
      intro j hh i h1 h2
      rw [al_succ, Bool.and_eq_true] at hh
      by_cases e : i = j
      · subst e; exact hh.1
      · exact ih (j + 1) hh.2 i (by omega) (by omega)
  have := this n 0 h i (Nat.zero_le _) (by omega)
  rw [ha] at this
  exact of_decide_eq_true this
/-! the soonest round -/
def wlG (a : Int32) : Nat → Int32 × Int32 → Int32 × Int32 := fun i b => if hoV a i then (mmin b.1 (nI i), nI i) else b
def wlV (a : Int32) : Int32 × Int32 := fo (wlG a) 0 6 (6, 0)
def walkO (a p : Int32) : Int32 := if a = 0 then 0 else ((wlV a).2 - (wlV a).1) + mmin (mabs (p - (wlV a).1)) (mabs (p - (wlV a).2))
theorem X3_walkOver_v (a p : Int32) : f_X3_walkOver a p = some (walkO a p) := by
  unfold f_X3_walkOver walkO wlV
  have := loopP (fun N j (b : Int32 × Int32) => l_X3_walkOver_8 a p (fun (v2_40 : Int32) (v3_40 : Int32) => (nm (mmin (mabs (p - v2_40)) (mabs (p - v3_40))) (fun y4 => (if a = 0 then (some (0 : Int32)) else (some ((v3_40 - v2_40) + y4)))))) N b.1 b.2 (nI j)) (fun b => if a = 0 then (some (0 : Int32)) else (some ((b.2 - b.1) + mmin (mabs (p - b.1)) (mabs (p - b.2))))) (wlG a) 6
    (fun N b => by
      show l_X3_walkOver_8 a p _ (N + 1) b.1 b.2 (nI 6) = _
      unfold l_X3_walkOver_8
      rw [if_pos (by decide)]
      rfl)
    (fun N j b hj => by
      show l_X3_walkOver_8 a p _ (N + 1) b.1 b.2 (nI j) = _
      conv => lhs; unfold l_X3_walkOver_8
      rw [show (6 : Int32) = nI 6 from rfl, if_neg (nI_ge hj (by omega)), X5_holds_v]
      simp only [ckT, bfT, bfF, bndS, bnd2S, nmE, nI_1]
      unfold wlG
      cases hoV a j <;> rfl) 6 0 FU (6, 0) (by omega) (lt_FU (by omega))
  refine this.trans ?_
  split <;> rfl
def flG (a : Int32) : Nat → Int32 × Int32 → Int32 × Int32 := fun i b => if hoV a i then (if b.1 ≤ nI i then b.1 else nI i, nI i) else b
theorem soonM {n : Nat} {v : Nat → Int32} {τ : Sg} {K : Int32 → Int32 → Int32 → Option Int32} (hM : HM n v τ) (hv : VW n v) {s : Nat} (hs : s < 64) : l_X6_soonest_41 (nI s) τ K FU 0 6 (-1) 0 = K (fo (fun i (b : Int32 × Int32 × Int32) => if hoV (nI s) i then (b.1 + moreV v i, flG (nI s) i b.2) else b) 0 n (0, 6, -1)).1 (fo (fun i (b : Int32 × Int32 × Int32) => if hoV (nI s) i then (b.1 + moreV v i, flG (nI s) i b.2) else b) 0 n (0, 6, -1)).2.1 (fo (fun i (b : Int32 × Int32 × Int32) => if hoV (nI s) i then (b.1 + moreV v i, flG (nI s) i b.2) else b) 0 n (0, 6, -1)).2.2 := by
  have hn := hM.1
  exact loopP (fun N j (b : Int32 × Int32 × Int32) => l_X6_soonest_41 (nI s) τ K N b.1 b.2.1 b.2.2 (nI j)) (fun b => K b.1 b.2.1 b.2.2) _ n
    (fun N b => by
      show l_X6_soonest_41 (nI s) τ K (N + 1) b.1 b.2.1 b.2.2 (nI n) = _
      unfold l_X6_soonest_41
      rw [hM.2.1, if_pos (nI_le (Nat.le_refl _) (by omega))])
    (fun N j b hj => by
      show l_X6_soonest_41 (nI s) τ K (N + 1) b.1 b.2.1 b.2.2 (nI j) = _
      conv => lhs; unfold l_X6_soonest_41
      rw [hM.2.1, if_neg (nI_ge hj (by omega)), hasV s hs j (by omega), X6_moreOf_v hM hv hj]
      simp only [ckT, bfT, bfF, bndS, bnd2S, nmE, nI_1]
      unfold flG
      cases hoV (nI s) j
      · rfl
      · simp only [bfT, if_true]
        split <;> rfl) n 0 FU (0, 6, -1) (by omega) (lt_FU (by omega))
theorem fo_pair {α β : Type} {g : Nat → α × β → α × β} {g1 : Nat → α → α} {g2 : Nat → β → β} : ∀ m j a b, (∀ i a b, j ≤ i → i < j + m → g i (a, b) = (g1 i a, g2 i b)) → fo g j m (a, b) = (fo g1 j m a, fo g2 j m b) := by
  intro m
  induction m with
  | zero => intro j a b _; rfl
  | succ m ih =>
    intro j a b h
    rw [fo_succ, h j a b (Nat.le_refl _) (by omega), ih (j + 1) _ _ (fun i a b h1 h2 => h i a b (by omega) (by omega))]
    rfl
theorem fo_ext {α : Type} {g : Nat → α → α} (d : Nat) : ∀ m j a, (∀ i a, j + m ≤ i → i < j + m + d → g i a = a) → fo g j (m + d) a = fo g j m a := by
  intro m
  induction m with
  | zero =>
    intro j a h
    rw [Nat.zero_add]
    show fo g j d a = a
    have : ∀ d j, (∀ i a, j ≤ i → i < j + d → g i a = a) → ∀ a, fo g j d a = a := by
      intro d
      induction d with
      | zero => intro j _ a; rfl
      | succ d ih =>
        intro j hh a
        rw [fo_succ, hh j a (Nat.le_refl _) (by omega), ih (j + 1) (fun i a h1 h2 => hh i a (by omega) (by omega))]
    exact this d j (fun i a h1 h2 => h i a (by omega) (by omega)) a
  | succ m ih =>
    intro j a h
    rw [show m + 1 + d = (m + d) + 1 by omega, fo_succ, fo_succ, ih (j + 1) _ (fun i a h1 h2 => h i a (by omega) (by omega))]
theorem soonF : ∀ s < 64, 0 < s → ∀ p < 6, ((bnd (f_X6_far (nI p) (fo (flG (nI s)) 0 6 (6, -1)).1) (fun r7 => bnd (f_X6_far (nI p) (fo (flG (nI s)) 0 6 (6, -1)).2) (fun r8 => some (((fo (flG (nI s)) 0 6 (6, -1)).2 - (fo (flG (nI s)) 0 6 (6, -1)).1) + (if r8 ≤ r7 then r8 else r7))))) = some (walkO (nI s) (nI p))) := by decide +kernel
theorem i3 (t l f x : Int32) : ((t + l) - f) + x = t + ((l - f) + x) := by
  rw [Int32.sub_eq_add_neg, Int32.sub_eq_add_neg, Int32.add_assoc, Int32.add_assoc, Int32.add_assoc]
theorem st_soonest : S_soonest Rel := by
  intro σ τ a1 h
  obtain ⟨h1, h2, h3, h4, h5, n, w, cs, t1, t2, t3, t4, t5⟩ := id h
  have c1 := t3.1
  have m1 := t4.1
  have hv := run_VW t1 t2
  have hn := c1.1
  have hlen := t2.1
  generalize run n (iniV w) cs = v at c1 m1 hv
  have h64 := p64 hn
  unfold f_X5_soonest f_X6_soonest
  rcases i32c a1 (show 2 ^ n < 2 ^ 31 by omega) with ⟨s, hs, rfl⟩ | ho
  · rw [X4_isSet_i c1 hs, X6_isSet_i m1 hs, X4_canWake_v c1, X6_wakable_v m1 hv, X4_tapsLeft_v c1, X3_walkOver_v, can_eq hn hs, c1.2.2.2.1.2.2.2.2.2.1]
    simp only [ckT, bfT, bfF, bndS, bnd2S, nmE, eq0 (show s < 2 ^ 31 by omega)]
    by_cases e : (nI s &&& (nI (bsN (wakB v) n) ^^^ (-1 : Int32))) = 0
    · rw [if_pos e, decide_eq_true e, bfT]
      have hcan : canV v (nI s) n = true := (can_eq hn hs).trans (decide_eq_true e)
      by_cases e0 : s = 0
      · subst e0
        rw [if_pos rfl]
        refine ⟨_, rfl, ?_⟩
        have z : tapsLeftV v (nI 0) n = 0 := by
          unfold tapsLeftV
          have : ∀ m j, j + m ≤ 6 → fo (fun i x => x + (if hoV (nI 0) i then mmax 0 (moreV v i) else 0)) j m 0 = 0 := by
            intro m
            induction m with
            | zero => intro j _; rfl
            | succ m ih =>
              intro j hj
              rw [fo_succ, hoB 0 (by decide) j (by omega), Nat.zero_testBit, if_neg (by decide), Int32.add_zero]
              exact ih (j + 1) (by omega)
          exact this n 0 (by omega)
        rw [z]
        rfl
      · rw [if_neg e0]
        obtain ⟨p, hp, ep⟩ := hv.2.2.1
        have hp6 : p < 6 := by
          rcases hp with q | q
          · omega
          · omega
        have hpair := fo_pair (g := fun i (b : Int32 × Int32 × Int32) => if hoV (nI s) i then (b.1 + moreV v i, flG (nI s) i b.2) else b) (g1 := fun i x => x + (if hoV (nI s) i then mmax 0 (moreV v i) else 0)) (g2 := flG (nI s)) n 0 0 ((6 : Int32), (-1 : Int32)) (fun i a b _ hi => by
          dsimp only
          unfold flG
          cases hh : hoV (nI s) i
          · simp only [Bool.false_eq_true, if_false, Int32.add_zero]
          · simp only [if_true]
            have hpos := can_at hcan (show i < n by omega) hh
            rcases more_rg hv (show i < n by omega) with q | ⟨x, hx, q⟩
            · rw [q] at hpos
              exact absurd hpos (by decide)
            · rw [q, mx0 (by omega)])
        have hext : fo (flG (nI s)) 0 n ((6 : Int32), (-1 : Int32)) = fo (flG (nI s)) 0 6 (6, -1) := by
          have := fo_ext (g := flG (nI s)) (6 - n) n 0 ((6 : Int32), (-1 : Int32)) (fun i a h1 h2 => by
            unfold flG
            rw [hoB s (by omega) i (by omega), outB n (by omega) s (by omega) hs i (by omega) (by omega), if_neg (by decide)])
          rw [show n + (6 - n) = 6 by omega] at this
          exact this.symm
        rw [soonM m1 hv (by omega), hpair, hext]
        have hF := soonF s (by omega) (by omega) p hp6
        rw [show inB (2 : Int32) (mLen 9) = true from by decide, ckT, cl2, m1.now (by decide), ep]
        obtain ⟨r7, e7, hF⟩ := bnd_of hF
        obtain ⟨r8, e8, hF⟩ := bnd_of hF
        rw [e7, bndS, ckT, e8, bndS]
        have hF := Option.some.inj hF
        rw [← hF, i3, i3]
        refine ⟨_, rfl, ?_⟩
        unfold tapsLeftV
        split <;> rfl
    · rw [if_neg e, decide_eq_false e, bfF]
      exact ⟨_, rfl, rfl⟩
  · rw [X4_isSet_o c1 ho, X6_isSet_o m1 ho]
    exact ⟨_, rfl, rfl⟩
