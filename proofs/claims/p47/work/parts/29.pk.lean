/-! rows told by a number: the places of a row of k, first the heaviest -/
def dgt (k c x : Nat) : Nat := c / 6 ^ (k - 1 - x) % 6
def orD : Nat → Nat → Nat
  | 0, _ => 0
  | k + 1, c => orD k (c / 6) ||| 2 ^ (c % 6)
theorem orP : ∀ a < 64, ∀ d < 6, nI a ||| ((1 : Int32) <<< (nI d &&& 31)) = nI (a ||| 2 ^ d) := by decide +kernel
theorem orP64 : ∀ a < 64, ∀ d < 6, a ||| 2 ^ d < 64 := by decide +kernel
theorem orPc : ∀ a < 64, ∀ d < 6, pcN (a ||| 2 ^ d) = if a.testBit d then pcN a else pcN a + 1 := by decide +kernel
theorem orPb : ∀ a < 64, ∀ d < 6, ∀ i < 6, (a ||| 2 ^ d).testBit i = (a.testBit i || decide (i = d)) := by decide +kernel
theorem orD64 : ∀ k c, orD k c < 64 := by
  intro k
  induction k with
  | zero => intro c; show 0 < 64; decide
  | succ k ih => intro c; exact orP64 _ (ih _) _ (Nat.mod_lt _ (by decide))
theorem pcD : ∀ k c, pcN (orD k c) ≤ k := by
  intro k
  induction k with
  | zero => intro c; show pcN 0 ≤ 0; decide
  | succ k ih =>
    intro c
    show pcN (orD k (c / 6) ||| 2 ^ (c % 6)) ≤ k + 1
    rw [orPc _ (orD64 _ _) _ (Nat.mod_lt _ (by decide))]
    have := ih (c / 6)
    split <;> omega
/-- where no place comes twice -/
theorem pcD1 {k c : Nat} (h : pcN (orD (k + 1) c) = k + 1) : pcN (orD k (c / 6)) = k ∧ (orD k (c / 6)).testBit (c % 6) = false := by
  have h2 : pcN (orD k (c / 6) ||| 2 ^ (c % 6)) = k + 1 := h
  rw [orPc _ (orD64 _ _) _ (Nat.mod_lt _ (by decide))] at h2
  have := pcD k (c / 6)
  cases e : (orD k (c / 6)).testBit (c % 6) with
  | true => rw [e, if_pos rfl] at h2; omega
  | false => rw [e, if_neg (by decide)] at h2; exact ⟨by omega, rfl⟩
theorem divP (c a : Nat) : c / 6 ^ a / 6 = c / 6 ^ (a + 1) := by rw [Nat.div_div_eq_div_mul, Nat.pow_succ]
theorem divQ (c a : Nat) : c / 6 / 6 ^ a = c / 6 ^ (a + 1) := by rw [Nat.div_div_eq_div_mul, Nat.pow_succ, Nat.mul_comm]
theorem dgt_s {k c x : Nat} (hx : x < k) : dgt (k + 1) c x = dgt k (c / 6) x := by
  unfold dgt
  rw [divQ, show k + 1 - 1 - x = k - 1 - x + 1 by omega]
theorem dgt_l (k c : Nat) : dgt (k + 1) c k = c % 6 := by
  unfold dgt
  rw [show k + 1 - 1 - k = 0 by omega, Nat.pow_zero, Nat.div_one]
theorem dgt6 (k c x : Nat) : dgt k c x < 6 := Nat.mod_lt _ (by decide)
/-- all first ones of a row without a place twice -/
theorem pcDx {k c : Nat} (h : pcN (orD k c) = k) : ∀ r x, x + r = k → pcN (orD x (c / 6 ^ r)) = x := by
  intro r
  induction r with
  | zero =>
    intro x hx
    obtain rfl : x = k := hx
    rw [Nat.pow_zero, Nat.div_one]; exact h
  | succ r ih =>
    intro x hx
    have := (pcD1 (ih (x + 1) (by omega))).1
    rwa [divP] at this
theorem orDx {k c : Nat} {i : Nat} (hi : i < 6) : ∀ r x, x + r = k → (orD x (c / 6 ^ r)).testBit i = true → (orD k c).testBit i = true := by
  intro r
  induction r with
  | zero =>
    intro x hx h
    obtain rfl : x = k := hx
    rwa [Nat.pow_zero, Nat.div_one] at h
  | succ r ih =>
    intro x hx h
    refine ih (x + 1) (by omega) ?_
    show (orD x (c / 6 ^ r / 6) ||| 2 ^ (c / 6 ^ r % 6)).testBit i = true
    rw [orPb _ (orD64 _ _) _ (Nat.mod_lt _ (by decide)) i hi, divP, h]; rfl
theorem orDd {k c : Nat} : ∀ r x, x + 1 + r = k → (orD k c).testBit (c / 6 ^ r % 6) = true := fun r x hx => by
  refine orDx (Nat.mod_lt _ (by decide)) r (x + 1) hx ?_
  show (orD x (c / 6 ^ r / 6) ||| 2 ^ (c / 6 ^ r % 6)).testBit (c / 6 ^ r % 6) = true
  rw [orPb _ (orD64 _ _) _ (Nat.mod_lt _ (by decide)) _ (Nat.mod_lt _ (by decide)), decide_eq_true rfl, Bool.or_true]
/-- each place of the set stands somewhere -/
theorem orD_ex : ∀ k c i, i < 6 → (orD k c).testBit i = true → ∃ x, x < k ∧ dgt k c x = i := by
  intro k
  induction k with
  | zero => intro c i hi h; rw [show orD 0 c = 0 from rfl, Nat.zero_testBit] at h; cases h
  | succ k ih =>
    intro c i hi h
    have h2 : (orD k (c / 6) ||| 2 ^ (c % 6)).testBit i = true := h
    rw [orPb _ (orD64 _ _) _ (Nat.mod_lt _ (by decide)) i hi, Bool.or_eq_true] at h2
    rcases h2 with h2 | h2
    · obtain ⟨x, hx, e⟩ := ih (c / 6) i hi h2
      exact ⟨x, by omega, by rw [dgt_s hx]; exact e⟩
    · exact ⟨k, by omega, by rw [dgt_l]; exact (of_decide_eq_true h2).symm⟩
theorem p6 {k : Nat} (h : k ≤ 6) : 6 ^ k ≤ 46656 := Nat.pow_le_pow_right (by decide) h
