/-! rows told by a number: the places of a row of k, first the heaviest -/
def dgt (k c x : Nat) : Nat := c / 6 ^ (k - 1 - x) % 6
def orD : Nat → Nat → Nat
  | 0, _ => 0
  | k + 1, c => orD k (c / 6) ||| 2 ^ (c % 6)
theorem orP : ∀ a < 64, ∀ d < 6, nI a ||| ((1 : Int32) <<< (nI d &&& 31)) = nI (a ||| 2 ^ d) := by decide +kernel
theorem orP64 : ∀ a < 64, ∀ d < 6, a ||| 2 ^ d < 64 := by decide +kernel
theorem orPc : ∀ a < 64, ∀ d < 6, pcN (a ||| 2 ^ d) = if a.testBit d then pcN a else pcN a + 1 := by decide +kernel
theorem orPb : ∀ a < 64, ∀ d < 6, ∀ i < 6, (a ||| 2 ^ d).testBit i = (a.testBit i || decide (i = d)) := by decide +kernel
theorem orD64 : ∀ k c, orD k c < 64 := by
  intro k
  induction k with
  | zero => intro c; show 0 < 64; decide
  | succ k ih => intro c; exact orP64 _ (ih _) _ (Nat.mod_lt _ (by decide))
theorem pcD : ∀ k c, pcN (orD k c) ≤ k := by
  intro k
  induction k with
  | zero => intro c; show pcN 0 ≤ 0; decide
  | succ k ih =>
    intro c
    show pcN (orD k (c / 6) ||| 2 ^ (c % 6)) ≤ k + 1
    rw [orPc _ (orD64 _ _) _ (Nat.mod_lt _ (by decide))]
    have := ih (c / 6)
    split <;> omega
/-- where no place comes twice -/
theorem pcD1 {k c : Nat} (h : pcN (orD (k + 1) c) = k + 1) : pcN (orD k (c / 6)) = k ∧ (orD k (c / 6)).testBit (c % 6) = false := by
  have h2 : pcN (orD k (c / 6) ||| 2 ^ (c % 6)) = k + 1 := h
  rw [orPc _ (orD64 _ _) _ (Nat.mod_lt _ (by decide))] at h2
  have := pcD k (c / 6)
  cases e : (orD k (c / 6)).testBit (c % 6) with
  | true => rw [e, if_pos rfl] at h2; omega
  | false => rw [e, if_neg (by decide)] at h2; exact ⟨by omega, rfl⟩
theorem divP (c a : Nat) : c / 6 ^ a / 6 = c / 6 ^ (a + 1) := by rw [Nat.div_div_eq_div_mul, Nat.pow_succ]
theorem divQ (c a : Nat) : c / 6 / 6 ^ a = c / 6 ^ (a + 1) := by rw [Nat.div_div_eq_div_mul, Nat.pow_succ, Nat.mul_comm]
theorem dgt_s {k c x : Nat} (hx : x < k) : dgt (k + 1) c x = dgt k (c / 6) x := by
  unfold dgt
  rw [divQ, show k + 1 - 1 - x = k - 1 - x + 1 by omega]
theorem dgt_l (k c : Nat) : dgt (k + 1) c k = c % 6 := by
  unfold dgt
  rw [show k + 1 - 1 - k = 0 by omega, Nat.pow_zero, Nat.div_one]
theorem dgt6 (k c x : Nat) : dgt k c x < 6 := Nat.mod_lt _ (by decide)
/-- all first ones of a row without a place twice -/
theorem pcDx {k c : Nat} (h : pcN (orD k c) = k) : ∀ r x, x + r = k → pcN (orD x (c / 6 ^ r)) = x := by
  intro r
  induction r with
  | zero =>
    intro x hx
    obtain rfl : x = k := hx
    rw [Nat.pow_zero, Nat.div_one]; exact h
  | succ r ih =>
    intro x hx
    have := (pcD1 (ih (x + 1) (by omega))).1
    rwa [divP] at this
theorem orDx {k c : Nat} {i : Nat} (hi : i < 6) : ∀ r x, x + r = k → (orD x (c / 6 ^ r)).testBit i = true → (orD k c).testBit i = true := by
  intro r
  induction r with
  | zero =>
    intro x hx h
    obtain rfl : x = k := hx
    rwa [Nat.pow_zero, Nat.div_one] at h
  | succ r ih =>
    intro x hx h
    refine ih (x + 1) (by omega) ?_
    show (orD x (c / 6 ^ r / 6) ||| 2 ^ (c / 6 ^ r % 6)).testBit i = true
    rw [orPb _ (orD64 _ _) _ (Nat.mod_lt _ (by decide)) i hi, divP, h]; rfl
theorem orDd {k c : Nat} : ∀ r x, x + 1 + r = k → (orD k c).testBit (c / 6 ^ r % 6) = true := fun r x hx => by
  refine orDx (Nat.mod_lt _ (by decide)) r (x + 1) hx ?_
  show (orD x (c / 6 ^ r / 6) ||| 2 ^ (c / 6 ^ r % 6)).testBit (c / 6 ^ r % 6) = true
  rw [orPb _ (orD64 _ _) _ (Nat.mod_lt _ (by decide)) _ (Nat.mod_lt _ (by decide)), decide_eq_true rfl, Bool.or_true]
/-- each place of the set stands somewhere -/
theorem orD_ex : ∀ k c i, i < 6 → (orD k c).testBit i = true → ∃ x, x < k ∧ dgt k c x = i := by
  intro k
  induction k with
  | zero => intro c i hi h; rw [show orD 0 c = 0 from rfl, Nat.zero_testBit] at h; cases h
  | succ k ih =>
    intro c i hi h
    have h2 : (orD k (c / 6) ||| 2 ^ (c % 6)).testBit i = true := h
    rw [orPb _ (orD64 _ _) _ (Nat.mod_lt _ (by decide)) i hi, Bool.or_eq_true] at h2
    rcases h2 with h2 | h2
    · obtain ⟨x, hx, e⟩ := ih (c / 6) i hi h2
      exact ⟨x, by omega, by rw [dgt_s hx]; exact e⟩
    · exact ⟨k, by omega, by rw [dgt_l]; exact (of_decide_eq_true h2).symm⟩
theorem p6 {k : Nat} (h : k ≤ 6) : 6 ^ k ≤ 46656 := Nat.pow_le_pow_right (by decide) h
theorem rowsOf_v {k : Nat} (hk : k ≤ 6) : f_X6_rowsOf (nI k) = some (nI (6 ^ k)) := by
  unfold f_X6_rowsOf
  have := loopP (fun N j (x : Nat) => l_X6_rowsOf_4 (nI k) (fun (v1_20 : Int32) => (some v1_20)) N (nI x) (nI j)) (fun x => some (nI x)) (fun _ x => x * 6) k
    (fun N x => by
      show l_X6_rowsOf_4 (nI k) _ (N + 1) (nI x) (nI k) = _
      unfold l_X6_rowsOf_4
      rw [if_pos (nI_le (Nat.le_refl _) (by omega))])
    (fun N j x hj => by
      show l_X6_rowsOf_4 (nI k) _ (N + 1) (nI x) (nI j) = _
      conv => lhs; unfold l_X6_rowsOf_4
      rw [if_neg (nI_ge hj (by omega)), nmE, nmE, nI_1, show (6 : Int32) = nI 6 from rfl, nImul]) k 0 FU 1 (by omega) (lt_FU (by omega))
  refine this.trans ?_
  have e : ∀ m j a, fo (fun _ x => x * 6) j m a = a * 6 ^ m := by
    intro m
    induction m with
    | zero => intro j a; show a = a * 6 ^ 0; rw [Nat.pow_zero, Nat.mul_one]
    | succ m ih => intro j a; rw [fo_succ, ih, Nat.pow_succ, Nat.mul_assoc, Nat.mul_comm 6]
  rw [e, Nat.one_mul]
theorem layL {S : Int32} {K : Int32 → Sg → Option (Bool × Sg)} : ∀ (j N c a : Nat) (τ : Sg), j ≤ 6 → j < N → c < 2 ^ 31 → a < 64 → l_X6_layRow_11 S K N (nI c) (nI a) (nI j - 1) τ = K (nI (a ||| orD j c)) (pA τ 14 (fun x => if x < j then nI (dgt j c x) else gA τ 14 x)) := by
  intro j
  induction j with
  | zero =>
    intro N c a τ _ hN hc ha
    obtain ⟨N, rfl⟩ : ∃ z, N = z + 1 := ⟨N - 1, by omega⟩
    unfold l_X6_layRow_11
    rw [if_pos (by decide), show a ||| orD 0 c = a from Nat.or_zero a, show (fun x => if x < 0 then nI (dgt 0 c x) else gA τ 14 x) = gA τ 14 from funext fun x => by rw [if_neg (by omega)], pA_self]
  | succ j ih =>
    intro N c a τ hj hN hc ha
    obtain ⟨N, rfl⟩ : ∃ z, N = z + 1 := ⟨N - 1, by omega⟩
    unfold l_X6_layRow_11
    have e1 : nI (j + 1) - (1 : Int32) = nI j := by rw [show (1 : Int32) = nI 1 from rfl, nIsub (by omega)]; rfl
    have e2 : nI c - nI c / (6 : Int32) * (6 : Int32) = nI (c % 6) := nIrem (b := 6) hc (by decide)
    have e3 : nI c / (6 : Int32) = nI (c / 6) := nIdiv (b := 6) hc (by decide)
    have e4 : nI j + (-1 : Int32) = nI j - 1 := by rw [Int32.sub_eq_add_neg]
    have hd : c % 6 < 6 := Nat.mod_lt _ (by decide)
    have h14 : inB (nI j) (mLen 14) = true := inB_nI (by rw [mL14]; omega) (by rw [mL14]; decide)
    rw [e1, if_neg (by rw [nIlt0 (by omega)]; exact not_false), h14, e2, e3, e4]
    simp only [ckT, bfT, bfF, bndS, bnd2S, nmE, nI_clamp (show j < 2 ^ 31 by omega), gA_same]
    rw [show upd (gA τ 14) j (nI (c % 6)) j = nI (c % 6) from if_pos rfl, orP a ha _ hd, ih N (c / 6) (a ||| 2 ^ (c % 6)) _ (by omega) (by omega) (by omega) (orP64 a ha _ hd), pA_pA, gA_same]
    rw [show a ||| orD (j + 1) c = a ||| 2 ^ (c % 6) ||| orD j (c / 6) from by
      show a ||| (orD j (c / 6) ||| 2 ^ (c % 6)) = _
      rw [Nat.or_comm (orD j (c / 6)), Nat.or_assoc]]
    rw [show (fun x => if x < j then nI (dgt j (c / 6) x) else upd (gA τ 14) j (nI (c % 6)) x) = (fun x => if x < j + 1 then nI (dgt (j + 1) c x) else gA τ 14 x) from funext fun x => by
      unfold upd
      by_cases h1 : x < j
      · rw [if_pos h1, if_pos (by omega), dgt_s h1]
      · rw [if_neg h1]
        by_cases h2 : x = j
        · subst h2; rw [if_pos rfl, if_pos (by omega), dgt_l]
        · rw [if_neg h2, if_neg (by omega)]]
theorem layRow_v {S k c : Nat} {τ : Sg} (hk : k ≤ 6) (hc : c < 2 ^ 31) (hS : S < 64) : f_X6_layRow (nI c) (nI k) (nI S) τ = some (decide (orD k c = S), pA τ 14 (fun x => if x < k then nI (dgt k c x) else gA τ 14 x)) := by
  unfold f_X6_layRow
  rw [nmE, show (0 : Int32) = nI 0 from rfl, layL k FU c 0 τ hk (lt_FU (by omega)) hc (by decide), Nat.zero_or]
  have h64 := orD64 k c
  simp only [nIeq (show orD k c < 2 ^ 31 by omega) (show S < 2 ^ 31 by omega)]
  by_cases e : orD k c = S
  · rw [if_pos e, decide_eq_true e]
  · rw [if_neg e, decide_eq_false e]
theorem anew_v {r k : Nat} {τ : Sg} (hr : r < 6) (hk : k ≤ 6) : f_X6_anew (nI r) (nI k) τ = some (pA (pA τ 1 (upd (gA τ 1) r (nI k))) 2 (fun y => if 40 * r ≤ y ∧ y < 40 * r + 40 then (if y - 40 * r < k then gA τ 15 (y - 40 * r) else 0) else gA τ 2 y)) := by
  unfold f_X6_anew
  rw [inB_nI (by rw [mL1]; omega) (by rw [mL1]; decide), ckT, nmE, nI_clamp (by omega)]
  obtain ⟨τ1, e1⟩ : ∃ x, x = pA τ 1 (upd (gA τ 1) r (nI k)) := ⟨_, rfl⟩
  rw [← e1]
  have e15 : gA τ1 15 = gA τ 15 := by rw [e1, gA_ne _ _ (by decide)]
  have e2 : gA τ1 2 = gA τ 2 := by rw [e1, gA_ne _ _ (by decide)]
  clear e1
  rw [← e15, ← e2]
  have := loopL (fun N j τ => l_X6_anew_9 (nI r) (nI k) (fun (σv47 : Sg) => (some σv47)) N (nI j) τ) (fun τ => some τ) (fun j τ => pA τ 2 (upd (gA τ 2) (40 * r + j) (if j < k then gA τ 15 j else 0))) 40 (fun j τ' => τ' = pA τ1 2 (fun y => if 40 * r ≤ y ∧ y < 40 * r + j then (if y - 40 * r < k then gA τ1 15 (y - 40 * r) else 0) else gA τ1 2 y))
    (fun N τ' _ => by
      show l_X6_anew_9 (nI r) (nI k) _ (N + 1) (nI 40) τ' = _
      unfold l_X6_anew_9
      rw [if_pos (by decide)])
    (fun N j τ' hj hI => by
      refine ⟨?_, ?_⟩
      · show l_X6_anew_9 (nI r) (nI k) _ (N + 1) (nI j) τ' = _
        conv => lhs; unfold l_X6_anew_9
        have g40 : ¬ ((40 : Int32) ≤ nI j) := by rw [show (40 : Int32) = nI 40 from rfl]; exact nI_ge hj (by omega)
        rw [if_neg g40, ml40, nI_add, inB_nI (by rw [mL2]; omega) (by rw [mL2]; decide), nI_clamp (by omega), nI_clamp (by omega), nI_1]
        simp only [ckT, bfT, bfF, bndS, bnd2S, nmE, nIle (show k < 2 ^ 31 by omega) (show j < 2 ^ 31 by omega)]
        by_cases e : k ≤ j
        · rw [if_pos e, if_neg (by omega)]
        · rw [if_neg e, if_pos (show j < k by omega), inB_nI (by rw [mL15]; omega) (by rw [mL15]; decide), ckT]
      · rw [hI, pA_pA, gA_same, gA_ne _ _ (show (15 : Nat) ≠ 2 by decide)]
        congr 1
        funext y
        unfold upd
        dsimp only
        by_cases e : y = 40 * r + j
        · subst e
          rw [if_pos rfl, if_pos (show 40 * r ≤ 40 * r + j ∧ 40 * r + j < 40 * r + (j + 1) by omega), show 40 * r + j - 40 * r = j by omega]
        · rw [if_neg e]
          by_cases e2 : 40 * r ≤ y ∧ y < 40 * r + j
          · rw [if_pos e2, if_pos (show 40 * r ≤ y ∧ y < 40 * r + (j + 1) by omega)]
          · rw [if_neg e2, if_neg (show ¬ (40 * r ≤ y ∧ y < 40 * r + (j + 1)) by omega)])
    40 0 FU τ1 (by omega) (lt_FU (by omega)) (by
      rw [show (fun y => if 40 * r ≤ y ∧ y < 40 * r + 0 then (if y - 40 * r < k then gA τ1 15 (y - 40 * r) else 0) else gA τ1 2 y) = gA τ1 2 from funext fun y => by rw [if_neg (by omega)], pA_self])
  refine this.1.trans ?_
  rw [this.2]
theorem keep6 {τ : Sg} : f_X6_bring 14 (0 : Int32) 15 (0 : Int32) (6 : Int32) τ = some (pA τ 15 (fun x => if x < 6 then gA τ 14 x else gA τ 15 x)) := by
  rw [show (0 : Int32) = nI 0 from rfl, show (6 : Int32) = nI 6 from rfl, X6_bring_v (by decide) (by decide) (by decide)]
  rw [show (fun x => if 0 ≤ x ∧ x < 0 + 6 then gA τ 14 (0 + (x - 0)) else gA τ 15 x) = (fun x => if x < 6 then gA τ 14 x else gA τ 15 x) from funext fun x => by
    by_cases e : x < 6
    · rw [if_pos (by omega), if_pos e, Nat.zero_add, Nat.sub_zero]
    · rw [if_neg (by omega), if_neg e]]
