/-! rounds: what stands after the first houses of a row: those woken, the place, the minutes, the walk -/
def dif (a b : Nat) : Nat := (a - b) + (b - a)
theorem difV : ∀ a < 6, ∀ b < 6, mabs (nI a - nI b) = nI (dif a b) := by decide +kernel
theorem dif5 : ∀ a < 6, ∀ b < 6, dif a b ≤ 5 := by decide +kernel
theorem dif_c (a b : Nat) : dif a b = dif b a := by unfold dif; omega
def adv (t : Nat) (mo wa : Nat → Nat) (s : Nat × Nat × Nat × Nat) (i : Nat) : Option (Nat × Nat × Nat × Nat) :=
  if s.1.testBit i = false ∧ t + (s.2.2.1 + (dif s.2.1 i + mo i)) ≤ wa i then some (s.1 ||| 2 ^ i, i, s.2.2.1 + (dif s.2.1 i + mo i), s.2.2.2 + dif s.2.1 i) else none
def FS (t p : Nat) (mo wa : Nat → Nat) : Nat → Nat → Option (Nat × Nat × Nat × Nat)
  | 0, _ => some (0, p, 0, 0)
  | k + 1, c => match FS t p mo wa k (c / 6) with
    | none => none
    | some s => adv t mo wa s (c % 6)
theorem FS_n {t p : Nat} {mo wa : Nat → Nat} {k c : Nat} (h : FS t p mo wa k (c / 6) = none) : FS t p mo wa (k + 1) c = none := by
  show (match FS t p mo wa k (c / 6) with | none => none | some s => adv t mo wa s (c % 6)) = none
  rw [h]
theorem FS_s {t p : Nat} {mo wa : Nat → Nat} {k c : Nat} {s : Nat × Nat × Nat × Nat} (h : FS t p mo wa k (c / 6) = some s) : FS t p mo wa (k + 1) c = adv t mo wa s (c % 6) := by
  show (match FS t p mo wa k (c / 6) with | none => none | some s => adv t mo wa s (c % 6)) = _
  rw [h]
theorem adv_i {t : Nat} {mo wa : Nat → Nat} {s s' : Nat × Nat × Nat × Nat} {i : Nat} (h : adv t mo wa s i = some s') : s.1.testBit i = false ∧ t + (s.2.2.1 + (dif s.2.1 i + mo i)) ≤ wa i ∧ s' = (s.1 ||| 2 ^ i, i, s.2.2.1 + (dif s.2.1 i + mo i), s.2.2.2 + dif s.2.1 i) := by
  unfold adv at h
  by_cases e : s.1.testBit i = false ∧ t + (s.2.2.1 + (dif s.2.1 i + mo i)) ≤ wa i
  · rw [if_pos e] at h
    exact ⟨e.1, e.2, (Option.some.inj h).symm⟩
  · rw [if_neg e] at h
    cases h
theorem FS_i {t p : Nat} {mo wa : Nat → Nat} {k c : Nat} {s' : Nat × Nat × Nat × Nat} (h : FS t p mo wa (k + 1) c = some s') : ∃ s, FS t p mo wa k (c / 6) = some s ∧ adv t mo wa s (c % 6) = some s' := by
  cases e : FS t p mo wa k (c / 6) with
  | none => rw [FS_n e] at h; cases h
  | some s => rw [FS_s e] at h; exact ⟨s, rfl, h⟩
def tapsN (mo : Nat → Nat) (s : Nat) : Nat := (if s.testBit 0 then mo 0 else 0) + ((if s.testBit 1 then mo 1 else 0) + ((if s.testBit 2 then mo 2 else 0) + ((if s.testBit 3 then mo 3 else 0) + ((if s.testBit 4 then mo 4 else 0) + (if s.testBit 5 then mo 5 else 0)))))
theorem tapsN_or (mo : Nat → Nat) {a i : Nat} (ha : a < 64) (hi : i < 6) (h : a.testBit i = false) : tapsN mo (a ||| 2 ^ i) = tapsN mo a + mo i := by
  unfold tapsN
  rw [orPb a ha i hi 0 (by decide), orPb a ha i hi 1 (by decide), orPb a ha i hi 2 (by decide), orPb a ha i hi 3 (by decide), orPb a ha i hi 4 (by decide), orPb a ha i hi 5 (by decide)]
  rcases (show i = 0 ∨ i = 1 ∨ i = 2 ∨ i = 3 ∨ i = 4 ∨ i = 5 by omega) with z | z | z | z | z | z <;> subst z <;> simp [h] <;> omega
/-- what every beginning keeps -/
theorem FS_all {t p : Nat} {mo wa : Nat → Nat} (hp : p < 6) (hmo : ∀ i, mo i ≤ 5) : ∀ k c s, FS t p mo wa k c = some s → s.1 = orD k c ∧ pcN s.1 = k ∧ s.2.1 < 6 ∧ s.2.2.1 ≤ 10 * k ∧ s.2.2.2 ≤ 5 * k ∧ s.2.2.1 = s.2.2.2 + tapsN mo s.1 := by
  intro k
  induction k with
  | zero =>
    intro c s h
    obtain rfl : (0, p, 0, 0) = s := Option.some.inj h
    exact ⟨rfl, (by show pcN 0 = 0; decide), hp, (by show 0 ≤ 10 * 0; decide), (by show 0 ≤ 5 * 0; decide), (by show 0 = 0 + tapsN mo 0; unfold tapsN; simp)⟩
  | succ k ih =>
    intro c s' h
    obtain ⟨s, h1, h2⟩ := FS_i h
    obtain ⟨a1, a2, a3⟩ := adv_i h2
    obtain ⟨i1, i2, i3, i4, i5, i6⟩ := ih _ _ h1
    have hd : c % 6 < 6 := Nat.mod_lt _ (by decide)
    have h64 : s.1 < 64 := by rw [i1]; exact orD64 _ _
    have hdf := dif5 s.2.1 i3 _ hd
    have hm := hmo (c % 6)
    rw [a3]
    dsimp only
    refine ⟨?_, ?_, hd, by omega, by omega, ?_⟩
    · show s.1 ||| 2 ^ (c % 6) = orD k (c / 6) ||| 2 ^ (c % 6)
      rw [i1]
    · rw [orPc _ h64 _ hd, a1, if_neg (by decide), i2]
    · rw [tapsN_or mo h64 hd a1]; omega
theorem FS_pre {t p : Nat} {mo wa : Nat → Nat} {k c : Nat} : ∀ r x, x + r = k → FS t p mo wa x (c / 6 ^ r) = none → FS t p mo wa k c = none := by
  intro r
  induction r with
  | zero =>
    intro x hx h
    obtain rfl : x = k := hx
    rwa [Nat.pow_zero, Nat.div_one] at h
  | succ r ih =>
    intro x hx h
    rw [← divP] at h
    exact ih (x + 1) (by omega) (FS_n h)
/-! the numbers of the town that the rounds need -/
def moN (v : Nat → Int32) (n i : Nat) : Nat := if i < n then (moreV v i).toNatClampNeg else 0
def waN (v : Nat → Int32) (n i : Nat) : Nat := if i < n then (v (29 + i)).toNatClampNeg else 0
def tN (v : Nat → Int32) : Nat := (v 0).toNatClampNeg
def pN (v : Nat → Int32) : Nat := (v 2).toNatClampNeg
theorem tN_v {n : Nat} {v : Nat → Int32} (hv : VW n v) : v 0 = nI (tN v) ∧ tN v ≤ 200 := by
  obtain ⟨-, -, -, -, ⟨m, hm, e⟩, -⟩ := hv
  unfold tN
  rw [e, nI_clamp (by omega)]
  exact ⟨rfl, by omega⟩
theorem pN_v {n : Nat} {v : Nat → Int32} (hn : n ≤ 6) (hv : VW n v) : v 2 = nI (pN v) ∧ pN v < 6 := by
  obtain ⟨-, -, ⟨m, hm, e⟩, -⟩ := hv
  unfold pN
  rw [e, nI_clamp (by omega)]
  exact ⟨rfl, by omega⟩
theorem waN_v {n : Nat} {v : Nat → Int32} (hv : VW n v) {i : Nat} (hi : i < n) : v (29 + i) = nI (waN v n i) ∧ waN v n i < 100 := by
  obtain ⟨-, -, -, -, -, -, h⟩ := hv
  obtain ⟨-, ⟨m, hm, e⟩, -⟩ := h i hi
  unfold waN
  rw [if_pos hi, e, nI_clamp (by omega)]
  exact ⟨rfl, hm⟩
theorem moN_v {n : Nat} {v : Nat → Int32} (hv : VW n v) {i : Nat} (hi : i < n) (h : 0 < moreV v i) : moreV v i = nI (moN v n i) ∧ 0 < moN v n i := by
  unfold moN
  rw [if_pos hi]
  rcases more_rg hv hi with e | ⟨x, hx, e⟩
  · rw [e] at h; exact absurd h (by decide)
  · rw [e] at h ⊢
    rw [nI_clamp (by omega)]
    refine ⟨rfl, ?_⟩
    rw [show (0 : Int32) = nI 0 from rfl, nIlt (by decide) (by omega)] at h
    exact h
theorem moN5 {n : Nat} {v : Nat → Int32} (hv : VW n v) (i : Nat) : moN v n i ≤ 5 := by
  unfold moN
  split
  · next hi =>
    rcases more_rg hv hi with e | ⟨x, hx, e⟩
    · rw [e]; decide
    · rw [e, nI_clamp (by omega)]; omega
  · omega
/-- a set of which each house can be woken -/
def GSet (n : Nat) (v : Nat → Int32) (S : Nat) : Prop := S < 64 ∧ ∀ i, i < 6 → S.testBit i = true → i < n ∧ 0 < moreV v i
theorem GSet_can {n : Nat} {v : Nat → Int32} (hn : n ≤ 6) {S : Nat} (hS : S < 2 ^ n) (h : canV v (nI S) n = true) : GSet n v S := by
  have h64 := p64 hn
  refine ⟨by omega, fun i hi hb => ?_⟩
  have hin : i < n := by
    by_cases e : i < n
    · exact e
    · rw [outB n (by omega) S (by omega) hS i hi (by omega)] at hb; cases hb
  exact ⟨hin, can_at h hin (by rw [hoB S (by omega) i hi]; exact hb)⟩
def FV (n : Nat) (v : Nat → Int32) (k c : Nat) : Option (Nat × Nat × Nat × Nat) := FS (tN v) (pN v) (moN v n) (waN v n) k c
def encM (o : Option (Nat × Nat × Nat × Nat)) : Int32 := match o with
  | none => -9
  | some s => nI s.2.2.1
theorem minL {n : Nat} {v : Nat → Int32} {τ : Sg} (hM : HM n v τ) (hv : VW n v) {S k c : Nat} (hG : GSet n v S) (hk : k ≤ 6) (h14 : ∀ x, x < k → gA τ 14 x = nI (dgt k c x)) (hor : orD k c = S) (hpc : pcN S = k) :
    ∀ r x N s, x + r = k → r < N → FV n v x (c / 6 ^ r) = some s → l_X6_minutesOf_12 (nI k) τ N (nI s.2.2.1) (nI s.2.1) (nI x) = some (encM (FV n v k c)) := by
  have hn := hM.1
  intro r
  induction r with
  | zero =>
    intro x N s hx hN h
    obtain ⟨N, rfl⟩ : ∃ z, N = z + 1 := ⟨N - 1, by omega⟩
    obtain rfl : x = k := hx
    rw [Nat.pow_zero, Nat.div_one] at h
    unfold l_X6_minutesOf_12
    rw [if_pos (nI_le (Nat.le_refl _) (by omega)), h]
    rfl
  | succ r ih =>
    intro x N s hx hN h
    obtain ⟨N, rfl⟩ : ∃ z, N = z + 1 := ⟨N - 1, by omega⟩
    obtain ⟨f1, f2, f3, f4, f5, f6⟩ := FS_all (pN_v hn hv).2 (moN5 hv) _ _ _ h
    obtain ⟨i, ei⟩ : ∃ i, i = c / 6 ^ r % 6 := ⟨_, rfl⟩
    have hi : i < 6 := by rw [ei]; exact Nat.mod_lt _ (by decide)
    have hx14 : gA τ 14 x = nI i := by
      rw [h14 x (by omega), ei]
      unfold dgt
      rw [show k - 1 - x = r by omega]
    have hiS : S.testBit i = true := by rw [← hor, ei]; exact orDd r x (by omega)
    obtain ⟨hin, hpos⟩ := hG.2 i hi hiS
    obtain ⟨m1, m2⟩ := moN_v hv hin hpos
    obtain ⟨w1, w2⟩ := waN_v hv hin
    obtain ⟨t1, t2⟩ := tN_v hv
    have hbit : s.1.testBit i = false := by
      have := pcDx (k := k) (c := c) (by rw [hor]; exact hpc) r (x + 1) (by omega)
      have := (pcD1 this).2
      rw [divP, ← f1, ← ei] at this
      exact this
    have hadv : FV n v (x + 1) (c / 6 ^ r) = adv (tN v) (moN v n) (waN v n) s i := by
      rw [ei]
      exact FS_s (by rw [divP]; exact h)
    have hdf := dif5 s.2.1 f3 i hi
    have hm5 := moN5 hv (n := n) i
    unfold l_X6_minutesOf_12
    rw [if_neg (nI_ge (show x < k by omega) (by omega)), inB_nI (by rw [mL14]; omega) (by rw [mL14]; decide), show inB (0 : Int32) (mLen 9) = true from by decide, nI_clamp (by omega), hx14, inB_nI (k := i) (N := mLen 8) (by rw [mL8]; omega) (by rw [mL8]; decide), far6 _ f3 _ hi, difV _ f3 _ hi, X6_moreOf_v hM hv hin, m1, cl0, hM.now (by decide), nI_clamp (show i < 2 ^ 31 by omega), hM.w hin, t1, w1]
    simp only [ckT, bfT, bfF, bndS, bnd2S, nmE, nI_add, nI_1, nIle (show tN v + (s.2.2.1 + (dif s.2.1 i + moN v n i)) < 2 ^ 31 by omega) (show waN v n i < 2 ^ 31 by omega)]
    unfold adv at hadv
    by_cases e : tN v + (s.2.2.1 + (dif s.2.1 i + moN v n i)) ≤ waN v n i
    · rw [if_pos ⟨hbit, e⟩] at hadv
      rw [if_pos e]
      exact ih (x + 1) N _ (by omega) (by omega) hadv
    · rw [if_neg (fun z => e z.2)] at hadv
      rw [if_neg e, show FV n v k c = none from FS_pre r (x + 1) (by omega) hadv]
      rfl
theorem min_v {n : Nat} {v : Nat → Int32} {τ : Sg} (hM : HM n v τ) (hv : VW n v) {S k c : Nat} (hc : c < 6 ^ k) (hG : GSet n v S) (hk : k ≤ 6) (h14 : ∀ x, x < k → gA τ 14 x = nI (dgt k c x)) (hor : orD k c = S) (hpc : pcN S = k) : f_X6_minutesOf (nI k) τ = some (encM (FV n v k c)) := by
  have hn := hM.1
  unfold f_X6_minutesOf
  rw [show inB (2 : Int32) (mLen 9) = true from by decide, ckT, nmE, cl2, hM.now (by decide), (pN_v hn hv).1]
  exact minL hM hv hG hk h14 hor hpc k 0 FU (0, pN v, 0, 0) (by omega) (lt_FU (by omega)) rfl
/-- the best of the rows so far: what it walks and its number -/
def Mst (n : Nat) (v : Nat → Int32) (k S : Nat) (c : Nat) (st : Option (Nat × Nat)) : Option (Nat × Nat) := match FV n v k c with
  | none => st
  | some s => if s.1 = S then (match st with
    | none => some (s.2.2.2, c)
    | some b => if b.1 ≤ s.2.2.2 then some b else some (s.2.2.2, c)) else st
def encB (T : Nat) (st : Option (Nat × Nat)) : Int32 := match st with
  | none => -9
  | some b => nI (b.1 + T)
def RB (k T : Nat) (τ0 : Sg) (st : Option (Nat × Nat)) (x : Int32) (τ : Sg) : Prop := x = encB T st ∧ (∀ b, st = some b → b.1 ≤ 30 ∧ ∀ x, x < k → gA τ 15 x = nI (dgt k b.2 x)) ∧ (∀ k, gS τ k = gS τ0 k) ∧ (∀ a, a ≠ 14 → a ≠ 15 → gA τ a = gA τ0 a) ∧ ∀ k, gL τ k = gL τ0 k
theorem Mst_n {n : Nat} {v : Nat → Int32} {k S c : Nat} {st : Option (Nat × Nat)} (h : FV n v k c = none) : Mst n v k S c st = st := by
  unfold Mst; rw [h]
theorem Mst_o {n : Nat} {v : Nat → Int32} {k S c : Nat} {st : Option (Nat × Nat)} (hn : n ≤ 6) (hv : VW n v) (h : ¬ orD k c = S) : Mst n v k S c st = st := by
  cases e : FV n v k c with
  | none => exact Mst_n e
  | some s =>
    unfold Mst; rw [e]
    have := (FS_all (pN_v hn hv).2 (moN5 hv) _ _ _ e).1
    dsimp only
    rw [if_neg (by rw [this]; exact h)]
theorem tapsN30 {mo : Nat → Nat} (h : ∀ i, mo i ≤ 5) (s : Nat) : tapsN mo s ≤ 30 := by
  unfold tapsN
  have h0 := h 0
  have h1 := h 1
  have h2 := h 2
  have h3 := h 3
  have h4 := h 4
  have h5 := h 5
  repeat' split
  all_goals omega
theorem bestL {n : Nat} {v : Nat → Int32} {τ0 : Sg} (hM : HM n v τ0) (hv : VW n v) {S k : Nat} (hG : GSet n v S) (hk : k ≤ 6) (hpc : pcN S = k) {K : Int32 → Sg → Option (Int32 × Sg)} :
    ∀ m c N x τ st, c + m = 6 ^ k → m < N → RB k (tapsN (moN v n) S) τ0 st x τ → ∃ x' τ', l_X6_bestOf_11 (nI S) (nI k) K N x (nI c) τ = K x' τ' ∧ RB k (tapsN (moN v n) S) τ0 (fo (Mst n v k S) c m st) x' τ' := by
  have hn := hM.1
  have h6 := p6 hk
  have hT := tapsN30 (moN5 hv (n := n)) S
  intro m
  induction m with
  | zero =>
    intro c N x τ st hc hN h
    obtain ⟨N, rfl⟩ : ∃ z, N = z + 1 := ⟨N - 1, by omega⟩
    refine ⟨x, τ, ?_, h⟩
    unfold l_X6_bestOf_11
    rw [rowsOf_v hk, bndS, if_pos (nI_le (by omega) (by omega))]
  | succ m ih =>
    intro c N x τ st hc hN h
    obtain ⟨N, rfl⟩ : ∃ z, N = z + 1 := ⟨N - 1, by omega⟩
    obtain ⟨h1, h2, h3, h4, h5⟩ := id h
    unfold l_X6_bestOf_11
    rw [rowsOf_v hk, bndS, if_neg (nI_ge (show c < 6 ^ k by omega) (by omega)), layRow_v hk (by omega) hG.1, bnd2S, fo_succ]
    obtain ⟨τ3, e3⟩ : ∃ y, y = pA τ 14 (fun x => if x < k then nI (dgt k c x) else gA τ 14 x) := ⟨_, rfl⟩
    rw [← e3]
    have k14 : ∀ x, x < k → gA τ3 14 x = nI (dgt k c x) := fun x hx => by rw [e3, gA_same]; exact if_pos hx
    have kA : ∀ a, a ≠ 14 → gA τ3 a = gA τ a := fun a ha => by rw [e3, gA_ne _ _ ha]
    have kS : ∀ k, gS τ3 k = gS τ k := fun k => by rw [e3]; rfl
    have kL : ∀ k, gL τ3 k = gL τ k := fun k => by rw [e3]; rfl
    clear e3
    have hR3 : RB k (tapsN (moN v n) S) τ0 st x τ3 := ⟨h1, fun b hb => ⟨(h2 b hb).1, fun x hx => by rw [kA _ (by decide)]; exact (h2 b hb).2 x hx⟩, fun k => (kS k).trans (h3 k), fun a a1 a2 => (kA a a1).trans (h4 a a1 a2), fun k => (kL k).trans (h5 k)⟩
    have hM3 : HM n v τ3 := hM.out (hR3.2.2.1 17) (hR3.2.2.1 16) (hR3.2.2.2.1 7 (by decide) (by decide)) (hR3.2.2.2.1 8 (by decide) (by decide)) (hR3.2.2.2.1 9 (by decide) (by decide))
    have next : ∀ x' τ' st', RB k (tapsN (moN v n) S) τ0 st' x' τ' → ∃ x'' τ'', (nm (nI c + (1 : Int32)) (fun y4 => (l_X6_bestOf_11 (nI S) (nI k) K N x' y4 τ'))) = K x'' τ'' ∧ RB k (tapsN (moN v n) S) τ0 (fo (Mst n v k S) (c + 1) m st') x'' τ'' := fun x' τ' st' hR => by
      rw [nmE, nI_1]
      exact ih (c + 1) N x' τ' st' (by omega) (by omega) hR
    rw [nmE]
    by_cases hor : orD k c = S
    · rw [decide_eq_true hor, bfT, min_v hM3 hv (by omega) hG hk k14 hor hpc, bndS]
      cases hF : FV n v k c with
      | none =>
        rw [Mst_n hF, show encM none = -9 from rfl, if_pos rfl]
        exact next x τ3 st hR3
      | some s =>
        obtain ⟨f1, f2, f3, f4, f5, f6⟩ := FS_all (pN_v hn hv).2 (moN5 hv) _ _ _ hF
        have hs1 : s.1 = S := f1.trans hor
        rw [show encM (some s) = nI s.2.2.1 from rfl, if_neg (nI9 (by omega)), keep6, nmE, bndS]
        have hR6 : RB k (tapsN (moN v n) S) τ0 (some (s.2.2.2, c)) (nI s.2.2.1) (pA τ3 15 (fun x => if x < 6 then gA τ3 14 x else gA τ3 15 x)) := by
          refine ⟨?_, fun b hb => ?_, fun k => hR3.2.2.1 k, fun a a1 a2 => (gA_ne _ _ a2).trans (hR3.2.2.2.1 a a1 a2), fun k => hR3.2.2.2.2 k⟩
          · rw [f6, hs1]; rfl
          · obtain rfl := Option.some.inj hb
            refine ⟨by dsimp only; omega, fun x hx => ?_⟩
            rw [gA_same]
            dsimp only
            rw [if_pos (by omega)]
            exact k14 x hx
        cases hst : st with
        | none =>
          rw [hst] at h1
          rw [h1, show encB (tapsN (moN v n) S) none = -9 from rfl, if_pos rfl]
          have : Mst n v k S c none = some (s.2.2.2, c) := by unfold Mst; rw [hF]; dsimp only; rw [if_pos hs1]
          rw [this]
          exact next _ _ _ hR6
        | some b =>
          rw [hst] at h1 hR3
          have hb30 := (h2 b hst).1
          have hle : (x ≤ nI s.2.2.1) = (b.1 ≤ s.2.2.2) := by
            rw [h1, show encB (tapsN (moN v n) S) (some b) = nI (b.1 + tapsN (moN v n) S) from rfl, nIle (by omega) (by omega), f6, hs1]
            exact propext ⟨fun z => by omega, fun z => by omega⟩
          have hx9 : ¬ x = -9 := by rw [h1]; exact nI9 (by omega)
          rw [if_neg hx9]
          simp only [hle]
          have hMst : Mst n v k S c (some b) = if b.1 ≤ s.2.2.2 then some b else some (s.2.2.2, c) := by unfold Mst; rw [hF]; dsimp only; rw [if_pos hs1]
          rw [hMst]
          by_cases e : b.1 ≤ s.2.2.2
          · rw [if_pos e, if_pos e]
            exact next x τ3 _ hR3
          · rw [if_neg e, if_neg e]
            exact next _ _ _ hR6
    · rw [decide_eq_false hor, bfF, Mst_o hn hv hor]
      exact next x τ3 st hR3
/-- the best row of a set -/
def bestN (n : Nat) (v : Nat → Int32) (S : Nat) : Option (Nat × Nat) := fo (Mst n v (pcN S) S) 0 (6 ^ pcN S) none
theorem bestOf_v {n : Nat} {v : Nat → Int32} {τ : Sg} (hM : HM n v τ) (hv : VW n v) {S : Nat} (hG : GSet n v S) : ∃ x τ', f_X6_bestOf (nI S) τ = some (x, τ') ∧ RB (pcN S) (tapsN (moN v n) S) τ (bestN n v S) x τ' := by
  have hk := pcN6 S hG.1
  have h6 := p6 hk
  unfold f_X6_bestOf
  rw [X6_bits_v, bitsN S hG.1, bndS]
  exact bestL hM hv hG hk rfl (6 ^ pcN S) 0 FU (-9) τ none (by omega) (lt_FU (by omega)) ⟨rfl, (fun b hb => by cases hb), fun _ => rfl, fun _ _ _ => rfl, fun _ => rfl⟩
