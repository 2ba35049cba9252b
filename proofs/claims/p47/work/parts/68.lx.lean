section LXX
variable {n : Nat} {w : Nat → Int32} {cs : List Nat} {kc : Option (List Nat)} {RS : Nat → Int32} {RA : Nat → Nat → Int32} {A : Int32} {U V : Int64} {T X Y : Nat → Int32} {σ : Sg}
theorem takesF1 : ∀ k < 6, ∀ d < 100, ∀ f < 2, (¬ tapsV (nI k) (nI d) (nI f) = 0) ∧ (¬ tapsV (nI k) (nI d) (nI f) < -9) ∧ (¬ (5 : Int32) < tapsV (nI k) (nI d) (nI f)) := by decide +kernel
theorem takesF3 : ∀ d < 100, ∀ f < 2, tapsV (nI 3) (nI d) (nI f) = -9 := by decide +kernel
theorem takesF5 : ∀ d < 100, ∀ f < 2, tapsV (nI 5) (nI d) (nI f) = (if (50 : Int32) ≤ nI d then (1 : Int32) else 2) := by decide +kernel
theorem takesF4 : ∀ d < 100, ∀ f < 2, tapsV (nI 4) (nI d) (nI f) ≤ 0 ∨ ¬ tapsV (nI 4) (nI d) (nI f) < 3 := by decide +kernel
set_option maxHeartbeats 4000000 in
theorem takes_l {L : Nat} {xs : Nat → Int32} {a5 : Int32} {d : Nat} {K : Option Bool} (hd : d < 100) (h : IW n w cs kc RS RA A U V T X Y σ) (hT : TR n w T) : ∀ m j N, j + m = n → m < N → l_L_law_571 L xs a5 (nI d) σ K N (nI j) = K := by
  have hn := h.n6
  have hv := h.vw
  have hw : ∀ k, 23 ≤ k → run n (iniV w) cs k = w k := fun k hk => run_stat h.stw hk h.cok.1 h.cok.2
  have h41 := h.t
  have r1 : gA σ 41 1 = nI n := by rw [h41]; exact hT.2.1
  obtain ⟨f, hf, ef⟩ := f2 hv.1
  intro m
  induction m with
  | zero =>
    intro j N hj hN
    obtain ⟨N, rfl⟩ : ∃ k, N = k + 1 := ⟨N - 1, by omega⟩
    unfold l_L_law_571
    rw [show inB (1 : Int32) (cLen 41) = true by decide, ckT, cl1, r1, show j = n by omega, if_pos (nI_le (Nat.le_refl _) (by omega))]
  | succ m ih =>
    intro j N hj hN
    obtain ⟨N, rfl⟩ : ∃ k, N = k + 1 := ⟨N - 1, by omega⟩
    have hjn : j < n := by omega
    have r2 : gA σ 41 (2 + j) = run n (iniV w) cs (23 + j) := by rw [h41, (hT.2.2 j hjn).1, hw _ (by omega)]
    have n2 : (2 : Int32) + nI j = nI (2 + j) := nI_add 2 j
    have j2 : inB (nI (2 + j)) 14 = true := inB_nI (by omega) (by decide)
    have k2 : (nI (2 + j)).toNatClampNeg = 2 + j := nI_clamp (by omega)
    have qp := k_pays h hjn
    have qt := k_takes h hjn hd
    obtain ⟨k, hk, ek⟩ := (hv.2.2.2.2.2.2 j hjn).1
    obtain ⟨t1, t2, t3⟩ := takesF1 k hk d hd f hf
    have next := ih (j + 1) N (by omega) (by omega)
    have hwho : ¬ tapsV (nI k) (nI d) (nI f) ≤ 0 → ∃ q, f_X5_who (nI d) (tapsV (nI k) (nI d) (nI f)) σ = some q ∧ ¬ (q >>> (nI j &&& 31)) &&& (1 : Int32) = 0 := fun hp => by
      rcases duest k hk d hd f hf with e | ⟨x, hx, h0, e⟩
      · rw [e] at hp; exact absurd (by decide) hp
      · refine ⟨_, by rw [e]; exact k_who h hd hx h0, ?_⟩
        have hb := hoB _ (bsN_64 (fun i => decide (tapsV (run n (iniV w) cs (23 + i)) (nI d) (run n (iniV w) cs 3) = nI x)) hn) j (by omega)
        have hdt : decide (tapsV (run n (iniV w) cs (23 + j)) (nI d) (run n (iniV w) cs 3) = nI x) = true := by rw [ek, ef]; exact decide_eq_true e
        rw [bsN_bit _ n hn j hjn, hdt] at hb
        exact of_decide_eq_true hb
    conv => lhs; unfold l_L_law_571
    rw [show inB (1 : Int32) (cLen 41) = true by decide, ckT, cl1, r1, if_neg (nI_ge hjn (by omega))]
    rw [qt, qp, bndS, n2, c41, j2, ckT, k2, r2, ek, ef]
    simp only [nmE, bndS, t1, t2, t3, if_false, nI_1, next]
    by_cases hp : tapsV (nI k) (nI d) (nI f) ≤ 0
    · simp only [hp, if_true]
      rcases (show k = 0 ∨ k = 1 ∨ k = 2 ∨ k = 3 ∨ k = 4 ∨ k = 5 by omega) with e | e | e | e | e | e
      · subst e
        simp only [show (nI 0 = (3 : Int32)) = False from eq_false (by decide), show (nI 0 = (4 : Int32)) = False from eq_false (by decide), show (nI 0 = (5 : Int32)) = False from eq_false (by decide), show feeV (nI 0) = (1 : Int32) from by decide, show ((5 : Int32) < 1) = False from eq_false (by decide), show ((1 : Int32) = 0) = False from eq_false (by decide), if_true, if_false]
      · subst e
        simp only [show (nI 1 = (3 : Int32)) = False from eq_false (by decide), show (nI 1 = (4 : Int32)) = False from eq_false (by decide), show (nI 1 = (5 : Int32)) = False from eq_false (by decide), show feeV (nI 1) = (1 : Int32) from by decide, show ((5 : Int32) < 1) = False from eq_false (by decide), show ((1 : Int32) = 0) = False from eq_false (by decide), if_true, if_false]
      · subst e
        simp only [show (nI 2 = (3 : Int32)) = False from eq_false (by decide), show (nI 2 = (4 : Int32)) = False from eq_false (by decide), show (nI 2 = (5 : Int32)) = False from eq_false (by decide), show feeV (nI 2) = (2 : Int32) from by decide, show ((5 : Int32) < 2) = False from eq_false (by decide), show ((2 : Int32) = 0) = False from eq_false (by decide), if_true, if_false]
      · subst e
        simp only [show (nI 3 = (3 : Int32)) = True from eq_true (by decide), show (nI 3 = (4 : Int32)) = False from eq_false (by decide), show (nI 3 = (5 : Int32)) = False from eq_false (by decide), show feeV (nI 3) = (0 : Int32) from by decide, show ((5 : Int32) < 0) = False from eq_false (by decide), show ((0 : Int32) = 0) = True from eq_true (by decide), if_true, if_false]
        rw [if_pos (takesF3 d hd f hf)]
      · subst e
        simp only [show (nI 4 = (3 : Int32)) = False from eq_false (by decide), show (nI 4 = (4 : Int32)) = True from eq_true (by decide), show (nI 4 = (5 : Int32)) = False from eq_false (by decide), show feeV (nI 4) = (1 : Int32) from by decide, show ((5 : Int32) < 1) = False from eq_false (by decide), show ((1 : Int32) = 0) = False from eq_false (by decide), if_true, if_false]
      · subst e
        simp only [show (nI 5 = (3 : Int32)) = False from eq_false (by decide), show (nI 5 = (4 : Int32)) = False from eq_false (by decide), show (nI 5 = (5 : Int32)) = True from eq_true (by decide), show feeV (nI 5) = (5 : Int32) from by decide, show ((5 : Int32) < 5) = False from eq_false (by decide), show ((5 : Int32) = 0) = False from eq_false (by decide), if_true, if_false]
        have t5 := takesF5 d hd f hf
        by_cases e50 : (50 : Int32) ≤ nI d
        · rw [if_pos e50] at t5 ⊢
          rw [if_pos t5]
        · rw [if_neg e50] at t5 ⊢
          rw [if_pos t5]
    · obtain ⟨q, q1, q2⟩ := hwho hp
      simp only [hp, if_false, q1, bndS, q2]
      rcases (show k = 0 ∨ k = 1 ∨ k = 2 ∨ k = 3 ∨ k = 4 ∨ k = 5 by omega) with e | e | e | e | e | e
      · subst e
        simp only [show (nI 0 = (3 : Int32)) = False from eq_false (by decide), show (nI 0 = (4 : Int32)) = False from eq_false (by decide), show (nI 0 = (5 : Int32)) = False from eq_false (by decide), show feeV (nI 0) = (1 : Int32) from by decide, show ((5 : Int32) < 1) = False from eq_false (by decide), show ((1 : Int32) = 0) = False from eq_false (by decide), if_true, if_false]
      · subst e
        simp only [show (nI 1 = (3 : Int32)) = False from eq_false (by decide), show (nI 1 = (4 : Int32)) = False from eq_false (by decide), show (nI 1 = (5 : Int32)) = False from eq_false (by decide), show feeV (nI 1) = (1 : Int32) from by decide, show ((5 : Int32) < 1) = False from eq_false (by decide), show ((1 : Int32) = 0) = False from eq_false (by decide), if_true, if_false]
      · subst e
        simp only [show (nI 2 = (3 : Int32)) = False from eq_false (by decide), show (nI 2 = (4 : Int32)) = False from eq_false (by decide), show (nI 2 = (5 : Int32)) = False from eq_false (by decide), show feeV (nI 2) = (2 : Int32) from by decide, show ((5 : Int32) < 2) = False from eq_false (by decide), show ((2 : Int32) = 0) = False from eq_false (by decide), if_true, if_false]
      · subst e
        simp only [show (nI 3 = (3 : Int32)) = True from eq_true (by decide), show (nI 3 = (4 : Int32)) = False from eq_false (by decide), show (nI 3 = (5 : Int32)) = False from eq_false (by decide), show feeV (nI 3) = (0 : Int32) from by decide, show ((5 : Int32) < 0) = False from eq_false (by decide), show ((0 : Int32) = 0) = True from eq_true (by decide), if_true, if_false]
        rw [if_pos (takesF3 d hd f hf)]
      · subst e
        simp only [show (nI 4 = (3 : Int32)) = False from eq_false (by decide), show (nI 4 = (4 : Int32)) = True from eq_true (by decide), show (nI 4 = (5 : Int32)) = False from eq_false (by decide), show feeV (nI 4) = (1 : Int32) from by decide, show ((5 : Int32) < 1) = False from eq_false (by decide), show ((1 : Int32) = 0) = False from eq_false (by decide), if_true, if_false]
        rw [if_neg ((takesF4 d hd f hf).resolve_left hp)]
      · subst e
        simp only [show (nI 5 = (3 : Int32)) = False from eq_false (by decide), show (nI 5 = (4 : Int32)) = False from eq_false (by decide), show (nI 5 = (5 : Int32)) = True from eq_true (by decide), show feeV (nI 5) = (5 : Int32) from by decide, show ((5 : Int32) < 5) = False from eq_false (by decide), show ((5 : Int32) = 0) = False from eq_false (by decide), if_true, if_false]
        have t5 := takesF5 d hd f hf
        by_cases e50 : (50 : Int32) ≤ nI d
        · rw [if_pos e50] at t5 ⊢
          rw [if_pos t5]
        · rw [if_neg e50] at t5 ⊢
          rw [if_pos t5]
end LXX
