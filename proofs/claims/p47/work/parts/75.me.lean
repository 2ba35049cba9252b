/-! what they pay, by turns -/
section MEE
variable {n : Nat} {w : Nat → Int32} {cs : List Nat} {kc : Option (List Nat)} {RS : Nat → Int32} {RA : Nat → Nat → Int32} {A : Int32} {U V : Int64} {T X Y : Nat → Int32} {σ : Sg}
theorem fees_rg {v : Nat → Int32} (hv : VW n v) (a : Int32) : ∃ u, u ≤ 5 * n ∧ feesV v a n = nI u := by
  have := fo_ind (g := fun i x => x + (if hoV a i then feeV (v (23 + i)) else 0)) (I := fun j x => ∃ u, u ≤ 5 * j ∧ x = nI u) n 0 0 (fun i x _ h2 h => by
    obtain ⟨u, hu, e⟩ := h
    obtain ⟨k, hk, ek⟩ := (hv.2.2.2.2.2.2 i (by omega)).1
    obtain ⟨f, hf, ef⟩ := fee_rg (k := k)
    rw [e, ek, ef]
    split
    · exact ⟨u + f, by omega, nI_add u f⟩
    · exact ⟨u, by omega, Int32.add_zero _⟩) ⟨0, by omega, rfl⟩
  rw [Nat.zero_add] at this
  exact this
theorem pays_l {L : Nat} {xs : Nat → Int32} {a5 : Int32} {K : Int32 → Option Bool} {R : Nat} (hR : R < 64) (h : IW n w cs kc RS RA A U V T X Y σ) (hT : TR n w T) : ∀ m j N x, j + m = n → m < N → l_L_law_1346 L xs a5 (nI R) σ K N x (nI j) = K (fo (fun i x => x + (if hoV (nI R) i then feeV (run n (iniV w) cs (23 + i)) else 0)) j m x) := by
  have hn := h.n6
  have r1 : gA σ 41 1 = nI n := by rw [h.t]; exact hT.2.1
  intro m
  induction m with
  | zero =>
    intro j N x hj hN
    obtain ⟨N, rfl⟩ : ∃ k, N = k + 1 := ⟨N - 1, by omega⟩
    unfold l_L_law_1346
    rw [show inB (1 : Int32) (cLen 41) = true by decide, ckT, cl1, r1, if_pos (nI_le (by omega) (by omega))]
    rfl
  | succ m ih =>
    intro j N x hj hN
    obtain ⟨N, rfl⟩ : ∃ k, N = k + 1 := ⟨N - 1, by omega⟩
    have hjn : j < n := by omega
    have qp := k_pays h hjn
    conv => lhs; unfold l_L_law_1346
    rw [show inB (1 : Int32) (cLen 41) = true by decide, ckT, cl1, r1, if_neg (nI_ge hjn (by omega)), has_v R hR j (by omega), bndS, nmE, qp]
    show _ = K (fo _ (j + 1) m (x + (if hoV (nI R) j then feeV (run n (iniV w) cs (23 + j)) else 0)))
    rw [← ih (j + 1) N _ (by omega) (by omega), hoB R hR j (by omega)]
    cases R.testBit j <;> simp only [bfT, bfF, bndS, nmE, nI_1, if_true, Bool.false_eq_true, if_false]
theorem cnsm (P : Nat → Bool) : ∀ m, (cn P 0 m = 0 → ∀ i, i < m → P i = false) ∧ (¬ cn P 0 m = 0 → ∃ f, f < m ∧ P f = true ∧ (∀ i, i < f → P i = false) ∧ sm P 0 m = nI f) := by
  intro m
  induction m with
  | zero => exact ⟨fun _ i hi => absurd hi (by omega), fun h => absurd rfl h⟩
  | succ m ih =>
    obtain ⟨i1, i2⟩ := ih
    rw [cn_snoc, sm_snoc, Nat.zero_add]
    by_cases e : cn P 0 m = 0
    · rw [e, if_pos rfl, Nat.zero_add]
      cases hp : P m
      · refine ⟨fun _ i hi => ?_, fun h => absurd rfl h⟩
        by_cases z : i = m
        · rw [z]; exact hp
        · exact i1 e i (by omega)
      · refine ⟨fun h => absurd h (by decide), fun _ => ⟨m, by omega, hp, i1 e, rfl⟩⟩
    · rw [if_neg e]
      obtain ⟨f, f1, f2, f3, f4⟩ := i2 e
      exact ⟨fun h => absurd (Nat.eq_zero_of_add_eq_zero_right h) e, fun _ => ⟨f, by omega, f2, f3, f4⟩⟩
theorem and_or_sub {i B j : Nat} (h : i &&& B = i) : i &&& (B ||| j) = i := by
  apply Nat.eq_of_testBit_eq
  intro k
  have := congrArg (fun z => z.testBit k) h
  simp only [Nat.testBit_and, Nat.testBit_or] at this ⊢
  cases hi : i.testBit k
  · rfl
  · rw [hi] at this
    rw [Bool.true_and] at this ⊢
    rw [this]
    rfl
theorem and_or_self (B j : Nat) : j &&& (B ||| j) = j := by
  apply Nat.eq_of_testBit_eq
  intro k
  simp only [Nat.testBit_and, Nat.testBit_or]
  cases j.testBit k <;> simp
theorem sure_ok {v : Nat → Int32} (hn : n ≤ 6) {a : Int32} : ∃ I B C, I < 64 ∧ B < 64 ∧ C ≤ 64 ∧ sureV v n a = (nI I, nI B, nI C) ∧ ∀ i, i < 2 ^ n → feesV v (nI i) n = a → I &&& i = I ∧ i &&& B = i ∧ 0 < C := by
  have h64 := p64 hn
  have := fo_ind (g := fun j (b : Int32 × Int32 × Int32) => if feesV v (nI j) n = a then (b.1 &&& nI j, b.2.1 ||| nI j, b.2.2 + 1) else b) (I := fun j b => ∃ I B C, I < 64 ∧ B < 64 ∧ C ≤ j ∧ b = (nI I, nI B, nI C) ∧ ∀ i, i < j → feesV v (nI i) n = a → I &&& i = I ∧ i &&& B = i ∧ 0 < C) (2 ^ n) 0 (nI (2 ^ n - 1), 0, 0) (fun j b _ h2 h => by
    obtain ⟨I, B, C, h3, h4, h5, e, h6⟩ := h
    by_cases z : feesV v (nI j) n = a
    · rw [if_pos z, e]
      have hle : I &&& j ≤ I := Nat.and_le_left
      refine ⟨I &&& j, B ||| j, C + 1, by omega, Nat.or_lt_two_pow (n := 6) h4 (show j < 2 ^ 6 by omega), by omega, ?_, fun i hi hP => ?_⟩
      · dsimp only
        rw [andN I h3 j (by omega), orN B h4 j (by omega), nI_1]
      · by_cases ij : i = j
        · subst ij
          exact ⟨by rw [Nat.and_assoc, Nat.and_self], and_or_self B i, by omega⟩
        · obtain ⟨g1, g2, g3⟩ := h6 i (by omega) hP
          exact ⟨by rw [Nat.and_assoc, Nat.and_comm j i, ← Nat.and_assoc, g1], and_or_sub g2, by omega⟩
    · rw [if_neg z]
      refine ⟨I, B, C, h3, h4, by omega, e, fun i hi hP => ?_⟩
      by_cases ij : i = j
      · subst ij; exact absurd hP z
      · exact h6 i (by omega) hP) ⟨2 ^ n - 1, 0, 0, by omega, by decide, by omega, rfl, fun i hi => absurd hi (by omega)⟩
  rw [Nat.zero_add] at this
  obtain ⟨I, B, C, h3, h4, h5, e, h6⟩ := this
  exact ⟨I, B, C, h3, h4, by omega, e, h6⟩
theorem notM : ∀ M < 64, ∀ b < 64, nI M &&& (nI b ^^^ (-1 : Int32)) = nI (M &&& (63 - b)) := by decide +kernel
theorem offB : ∀ b < 64, ∀ r < 64, r &&& b = r → (63 - b) &&& r = 0 := by decide +kernel
theorem duB : ∀ P < 2, ∀ T < 4, ∀ n < 6, ∀ a < 5, ∀ b < 5, ∀ c < 5, (duG (tri P a b c) ((n + 1 - P) / 2) P T).1 ≤ 3 := by decide +kernel
theorem duB_g (g : Nat → Int32) {P T n : Nat} (hP : P < 2) (hT : T < 4) (hn : n < 6) : (duG (duC g P) ((n + 1 - P) / 2) P T).1 ≤ 3 := by
  have b : duG (duC g P) ((n + 1 - P) / 2) P T = duG (tri P (duC g P P) (duC g P (P + 2)) (duC g P (P + 4))) ((n + 1 - P) / 2) P T := by
    unfold duG
    refine fo_congr _ _ _ (fun i b _ _ => ?_)
    unfold duG1
    refine fo_congr _ _ _ (fun k b _ hk => ?_)
    rw [duC_tri g P hP (show P + 2 * k < 6 by omega)]
  rw [b]
  exact duB P hP T hT n hn _ (duC_le g P P) _ (duC_le g P (P + 2)) _ (duC_le g P (P + 4))
theorem duel3 : ∀ a < 4, ∀ b < 4, ¬ (3 : Int32) < nI a - nI b ∧ ¬ nI a - nI b < -3 := by decide +kernel
end MEE
