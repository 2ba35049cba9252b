/-! rounds: what stands after the first houses of a row: those woken, the place, the minutes, the walk -/
def dif (a b : Nat) : Nat := (a - b) + (b - a)
theorem difV : ∀ a < 6, ∀ b < 6, mabs (nI a - nI b) = nI (dif a b) := by decide +kernel
theorem dif5 : ∀ a < 6, ∀ b < 6, dif a b ≤ 5 := by decide +kernel
theorem dif_c (a b : Nat) : dif a b = dif b a := by unfold dif; omega
def adv (t : Nat) (mo wa : Nat → Nat) (s : Nat × Nat × Nat × Nat) (i : Nat) : Option (Nat × Nat × Nat × Nat) :=
  if s.1.testBit i = false ∧ t + (s.2.2.1 + (dif s.2.1 i + mo i)) ≤ wa i then some (s.1 ||| 2 ^ i, i, s.2.2.1 + (dif s.2.1 i + mo i), s.2.2.2 + dif s.2.1 i) else none
def FS (t p : Nat) (mo wa : Nat → Nat) : Nat → Nat → Option (Nat × Nat × Nat × Nat)
  | 0, _ => some (0, p, 0, 0)
  | k + 1, c => match FS t p mo wa k (c / 6) with
    | none => none
    | some s => adv t mo wa s (c % 6)
theorem FS_n {t p : Nat} {mo wa : Nat → Nat} {k c : Nat} (h : FS t p mo wa k (c / 6) = none) : FS t p mo wa (k + 1) c = none := by
  show (match FS t p mo wa k (c / 6) with | none => none | some s => adv t mo wa s (c % 6)) = none
  rw [h]
theorem FS_s {t p : Nat} {mo wa : Nat → Nat} {k c : Nat} {s : Nat × Nat × Nat × Nat} (h : FS t p mo wa k (c / 6) = some s) : FS t p mo wa (k + 1) c = adv t mo wa s (c % 6) := by
  show (match FS t p mo wa k (c / 6) with | none => none | some s => adv t mo wa s (c % 6)) = _
  rw [h]
theorem adv_i {t : Nat} {mo wa : Nat → Nat} {s s' : Nat × Nat × Nat × Nat} {i : Nat} (h : adv t mo wa s i = some s') : s.1.testBit i = false ∧ t + (s.2.2.1 + (dif s.2.1 i + mo i)) ≤ wa i ∧ s' = (s.1 ||| 2 ^ i, i, s.2.2.1 + (dif s.2.1 i + mo i), s.2.2.2 + dif s.2.1 i) := by
  unfold adv at h
  by_cases e : s.1.testBit i = false ∧ t + (s.2.2.1 + (dif s.2.1 i + mo i)) ≤ wa i
  · rw [if_pos e] at h
    exact ⟨e.1, e.2, (Option.some.inj h).symm⟩
  · rw [if_neg e] at h
    cases h
theorem FS_i {t p : Nat} {mo wa : Nat → Nat} {k c : Nat} {s' : Nat × Nat × Nat × Nat} (h : FS t p mo wa (k + 1) c = some s') : ∃ s, FS t p mo wa k (c / 6) = some s ∧ adv t mo wa s (c % 6) = some s' := by
  cases e : FS t p mo wa k (c / 6) with
  | none => rw [FS_n e] at h; cases h
  | some s => rw [FS_s e] at h; exact ⟨s, rfl, h⟩
def tapsN (mo : Nat → Nat) (s : Nat) : Nat := (if s.testBit 0 then mo 0 else 0) + ((if s.testBit 1 then mo 1 else 0) + ((if s.testBit 2 then mo 2 else 0) + ((if s.testBit 3 then mo 3 else 0) + ((if s.testBit 4 then mo 4 else 0) + (if s.testBit 5 then mo 5 else 0)))))
theorem tapsN_or (mo : Nat → Nat) {a i : Nat} (ha : a < 64) (hi : i < 6) (h : a.testBit i = false) : tapsN mo (a ||| 2 ^ i) = tapsN mo a + mo i := by
  unfold tapsN
  rw [orPb a ha i hi 0 (by decide), orPb a ha i hi 1 (by decide), orPb a ha i hi 2 (by decide), orPb a ha i hi 3 (by decide), orPb a ha i hi 4 (by decide), orPb a ha i hi 5 (by decide)]
  rcases (show i = 0 ∨ i = 1 ∨ i = 2 ∨ i = 3 ∨ i = 4 ∨ i = 5 by omega) with z | z | z | z | z | z <;> subst z <;> simp [h] <;> omega
/-- what every beginning keeps -/
theorem FS_all {t p : Nat} {mo wa : Nat → Nat} (hp : p < 6) (hmo : ∀ i, mo i ≤ 5) : ∀ k c s, FS t p mo wa k c = some s → s.1 = orD k c ∧ pcN s.1 = k ∧ s.2.1 < 6 ∧ s.2.2.1 ≤ 10 * k ∧ s.2.2.2 ≤ 5 * k ∧ s.2.2.1 = s.2.2.2 + tapsN mo s.1 := by
  intro k
  induction k with
  | zero =>
    intro c s h
    obtain rfl : (0, p, 0, 0) = s := Option.some.inj h
    exact ⟨rfl, (by show pcN 0 = 0; decide), hp, (by show 0 ≤ 10 * 0; decide), (by show 0 ≤ 5 * 0; decide), (by show 0 = 0 + tapsN mo 0; unfold tapsN; simp)⟩
  | succ k ih =>
    intro c s' h
    obtain ⟨s, h1, h2⟩ := FS_i h
    obtain ⟨a1, a2, a3⟩ := adv_i h2
    obtain ⟨i1, i2, i3, i4, i5, i6⟩ := ih _ _ h1
    have hd : c % 6 < 6 := Nat.mod_lt _ (by decide)
    have h64 : s.1 < 64 := by rw [i1]; exact orD64 _ _
    have hdf := dif5 s.2.1 i3 _ hd
    have hm := hmo (c % 6)
    rw [a3]
    dsimp only
    refine ⟨?_, ?_, hd, by omega, by omega, ?_⟩
    · show s.1 ||| 2 ^ (c % 6) = orD k (c / 6) ||| 2 ^ (c % 6)
      rw [i1]
    · rw [orPc _ h64 _ hd, a1, if_neg (by decide), i2]
    · rw [tapsN_or mo h64 hd a1]; omega
theorem FS_pre {t p : Nat} {mo wa : Nat → Nat} {k c : Nat} : ∀ r x, x + r = k → FS t p mo wa x (c / 6 ^ r) = none → FS t p mo wa k c = none := by
  intro r
  induction r with
  | zero =>
    intro x hx h
    obtain rfl : x = k := hx
    rwa [Nat.pow_zero, Nat.div_one] at h
  | succ r ih =>
    intro x hx h
    rw [← divP] at h
    exact ih (x + 1) (by omega) (FS_n h)
/-! the numbers of the town that the rounds need -/
def moN (v : Nat → Int32) (n i : Nat) : Nat := if i < n then (moreV v i).toNatClampNeg else 0
def waN (v : Nat → Int32) (n i : Nat) : Nat := if i < n then (v (29 + i)).toNatClampNeg else 0
def tN (v : Nat → Int32) : Nat := (v 0).toNatClampNeg
def pN (v : Nat → Int32) : Nat := (v 2).toNatClampNeg
theorem tN_v {n : Nat} {v : Nat → Int32} (hv : VW n v) : v 0 = nI (tN v) ∧ tN v ≤ 200 := by
  obtain ⟨-, -, -, -, ⟨m, hm, e⟩, -⟩ := hv
  unfold tN
  rw [e, nI_clamp (by omega)]
  exact ⟨rfl, by omega⟩
theorem pN_v {n : Nat} {v : Nat → Int32} (hn : n ≤ 6) (hv : VW n v) : v 2 = nI (pN v) ∧ pN v < 6 := by
  obtain ⟨-, -, ⟨m, hm, e⟩, -⟩ := hv
  unfold pN
  rw [e, nI_clamp (by omega)]
  exact ⟨rfl, by omega⟩
theorem waN_v {n : Nat} {v : Nat → Int32} (hv : VW n v) {i : Nat} (hi : i < n) : v (29 + i) = nI (waN v n i) ∧ waN v n i < 100 := by
  obtain ⟨-, -, -, -, -, -, h⟩ := hv
  obtain ⟨-, ⟨m, hm, e⟩, -⟩ := h i hi
  unfold waN
  rw [if_pos hi, e, nI_clamp (by omega)]
  exact ⟨rfl, hm⟩
theorem moN_v {n : Nat} {v : Nat → Int32} (hv : VW n v) {i : Nat} (hi : i < n) (h : 0 < moreV v i) : moreV v i = nI (moN v n i) ∧ 0 < moN v n i := by
  unfold moN
  rw [if_pos hi]
  rcases more_rg hv hi with e | ⟨x, hx, e⟩
  · rw [e] at h; exact absurd h (by decide)
  · rw [e] at h ⊢
    rw [nI_clamp (by omega)]
    refine ⟨rfl, ?_⟩
    rw [show (0 : Int32) = nI 0 from rfl, nIlt (by decide) (by omega)] at h
    exact h
theorem moN5 {n : Nat} {v : Nat → Int32} (hv : VW n v) (i : Nat) : moN v n i ≤ 5 := by
  unfold moN
  split
  · next hi =>
    rcases more_rg hv hi with e | ⟨x, hx, e⟩
    · rw [e]; decide
    · rw [e, nI_clamp (by omega)]; omega
  · omega
/-- a set of which each house can be woken -/
def GSet (n : Nat) (v : Nat → Int32) (S : Nat) : Prop := S < 64 ∧ ∀ i, i < 6 → S.testBit i = true → i < n ∧ 0 < moreV v i
theorem GSet_can {n : Nat} {v : Nat → Int32} (hn : n ≤ 6) {S : Nat} (hS : S < 2 ^ n) (h : canV v (nI S) n = true) : GSet n v S := by
  have h64 := p64 hn
  refine ⟨by omega, fun i hi hb => ?_⟩
  have hin : i < n := by
    by_cases e : i < n
    · exact e
    · rw [outB n (by omega) S (by omega) hS i hi (by omega)] at hb; cases hb
  exact ⟨hin, can_at h hin (by rw [hoB S (by omega) i hi]; exact hb)⟩
def FV (n : Nat) (v : Nat → Int32) (k c : Nat) : Option (Nat × Nat × Nat × Nat) := FS (tN v) (pN v) (moN v n) (waN v n) k c
def encM (o : Option (Nat × Nat × Nat × Nat)) : Int32 := match o with
  | none => -9
  | some s => nI s.2.2.1
/-- the best of the rows so far: what it walks and its number -/
def Mst (n : Nat) (v : Nat → Int32) (k S : Nat) (c : Nat) (st : Option (Nat × Nat)) : Option (Nat × Nat) := match FV n v k c with
  | none => st
  | some s => if s.1 = S then (match st with
    | none => some (s.2.2.2, c)
    | some b => if b.1 ≤ s.2.2.2 then some b else some (s.2.2.2, c)) else st
def encB (T : Nat) (st : Option (Nat × Nat)) : Int32 := match st with
  | none => -9
  | some b => nI (b.1 + T)
def RB (k T : Nat) (τ0 : Sg) (st : Option (Nat × Nat)) (x : Int32) (τ : Sg) : Prop := x = encB T st ∧ (∀ b, st = some b → b.1 ≤ 30 ∧ ∀ x, x < k → gA τ 15 x = nI (dgt k b.2 x)) ∧ (∀ k, gS τ k = gS τ0 k) ∧ (∀ a, a ≠ 14 → a ≠ 15 → gA τ a = gA τ0 a) ∧ ∀ k, gL τ k = gL τ0 k
theorem Mst_n {n : Nat} {v : Nat → Int32} {k S c : Nat} {st : Option (Nat × Nat)} (h : FV n v k c = none) : Mst n v k S c st = st := by
  unfold Mst; rw [h]
theorem Mst_o {n : Nat} {v : Nat → Int32} {k S c : Nat} {st : Option (Nat × Nat)} (hn : n ≤ 6) (hv : VW n v) (h : ¬ orD k c = S) : Mst n v k S c st = st := by
  cases e : FV n v k c with
  | none => exact Mst_n e
  | some s =>
    unfold Mst; rw [e]
    have := (FS_all (pN_v hn hv).2 (moN5 hv) _ _ _ e).1
    dsimp only
    rw [if_neg (by rw [this]; exact h)]
theorem tapsN30 {mo : Nat → Nat} (h : ∀ i, mo i ≤ 5) (s : Nat) : tapsN mo s ≤ 30 := by
  unfold tapsN
  have h0 := h 0
  have h1 := h 1
  have h2 := h 2
  have h3 := h 3
  have h4 := h 4
  have h5 := h 5
  repeat' split
  all_goals omega
/-- the best row of a set -/
def bestN (n : Nat) (v : Nat → Int32) (S : Nat) : Option (Nat × Nat) := fo (Mst n v (pcN S) S) 0 (6 ^ pcN S) none
