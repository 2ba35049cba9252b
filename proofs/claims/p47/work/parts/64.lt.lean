/-! a turn of the law: what is looked at behind a deed -/
section LTT
variable {n : Nat} {w : Nat → Int32} {cs : List Nat} {kc : Option (List Nat)} {RS : Nat → Int32} {RA : Nat → Nat → Int32} {A : Int32} {U V : Int64} {T X Y : Nat → Int32} {σ : Sg} {g : Nat}
theorem more0 {v : Nat → Int32} (hv : VW n v) {i : Nat} (hi : i < n) : (moreV v i = 0) = (awV v i = true) := by
  obtain ⟨-, -, -, ⟨t, ht, et⟩, -⟩ := hv.2.2.2.2.2.2 i hi
  unfold moreV
  cases ha : awV v i
  · rw [if_neg (by decide)]
    rcases due_rg hv hi with e | ⟨x, hx, h0, e⟩
    · rw [e, if_pos rfl]
      exact propext ⟨fun h => absurd h (by decide), fun h => absurd h (by decide)⟩
    · rw [e, if_neg (nI9 (by omega)), et, more_m x hx h0 t (by omega)]
      refine propext ⟨fun h => ?_, fun h => absurd h (by decide)⟩
      split at h
      · exact absurd h (by decide)
      · exact absurd h (nI_ne0 (by omega) (by omega))
  · rw [if_pos rfl]
    exact propext ⟨fun _ => rfl, fun _ => rfl⟩
theorem more5 {v : Nat → Int32} (hv : VW n v) {i : Nat} (hi : i < n) : (moreV v i ≤ (5 : Int32)) = True := by
  rcases more_rg hv hi with e | ⟨x, hx, e⟩
  · rw [e]; exact eq_true (by decide)
  · rw [e]; exact le_T (b := 5) (by decide) (by omega)
theorem year_lt {v : Nat → Int32} (hv : VW n v) {i : Nat} (hi : i < n) : (v (17 + i) < 0) = (awV v i = false) := by
  unfold awV
  rcases (hv.2.2.2.2.2.2 i hi).2.2.2.2 with e | ⟨d, hd, e⟩
  · rw [e]; exact propext ⟨fun _ => by decide, fun _ => by decide⟩
  · rw [e, decide_eq_true (nI9 (by omega))]
    exact propext ⟨fun h => absurd h (dlt d hd), fun h => absurd h (by decide)⟩
theorem hasB {v : Nat → Int32} (hn : n ≤ 6) {i : Nat} (hi : i < n) : f_L_has (nI (bsN (awV v) n)) (nI i) = some (awV v i) := by
  rw [has_v _ (bsN_64 _ hn) i (by omega), bsN_bit _ n hn i hi]
def payS (v v' : Nat → Int32) : Nat → Int32 → Int32 := fun i x => x + (if awV v' i = true ∧ awV v i = false then feeV (v' (23 + i)) else 0)
def StepOK (n : Nat) (w v v' : Nat → Int32) (s : Nat) (i : Nat) : Prop := (awV v' i = true → awV v i = false → ¬ s < 3 ∧ ¬ 8 < s ∧ v' (17 + i) = v (5 + i) ∧ v 2 = nI i) ∧ (w (23 + i) = 3 → awV v' i = false) ∧ (awV v i = true → awV v' i = true → v' (17 + i) = v (17 + i))
set_option maxHeartbeats 4000000 in
theorem turn_l {L : Nat} {xs : Nat → Int32} {a5 a6 a7 a9 : Int32} {v : Nat → Int32} {s : Nat} {K : Int32 → Sg → Option Bool} (hs : s < 14) (hT : TR n w T) (hY : XR n v Y) (hS : ∀ i, i < n → StepOK n w v (run n (iniV w) cs) s i) : ∀ m j N x12 A σ, j + m = n → m < N → IW n w cs kc RS RA A U V T X Y σ → ∃ A' σ', IW n w cs kc RS RA A' U V T X Y σ' ∧ l_L_law_119 L xs a5 a6 a7 (nI s) a9 (nI (bsN (awV v) n)) (nI (bsN (awV (run n (iniV w) cs)) n)) K N x12 (nI j) σ = K (fo (payS v (run n (iniV w) cs)) j m x12) σ' := by
  intro m
  induction m with
  | zero =>
    intro j N x12 A σ hj hN h
    obtain ⟨N, rfl⟩ : ∃ k, N = k + 1 := ⟨N - 1, by omega⟩
    have hn := h.n6
    refine ⟨A, σ, h, ?_⟩
    unfold l_L_law_119
    rw [show inB (1 : Int32) (cLen 41) = true by decide, ckT, cl1, h.t, hT.2.1, show j = n by omega, if_pos (nI_le (Nat.le_refl _) (by omega))]
    rfl
  | succ m ih =>
    intro j N x12 A σ hj hN h
    obtain ⟨N, rfl⟩ : ∃ k, N = k + 1 := ⟨N - 1, by omega⟩
    have hn := h.n6
    have hv := h.vw
    have hjn : j < n := by omega
    have hw : ∀ k, 23 ≤ k → run n (iniV w) cs k = w k := fun k hk => run_stat h.stw hk h.cok.1 h.cok.2
    have h41 := h.t
    have h43 := h.y
    have r1 : gA σ 41 1 = nI n := by rw [h41]; exact hT.2.1
    have r2 : gA σ 41 (2 + j) = w (23 + j) := by rw [h41]; exact (hT.2.2 j hjn).1
    have y2 : gA σ 43 2 = v 2 := by rw [h43]; exact hY.1 2 (by decide)
    have y5 : gA σ 43 (5 + j) = v (5 + j) := by rw [h43]; exact (hY.2.1 j hjn).1
    have y17 : gA σ 43 (17 + j) = v (17 + j) := by rw [h43]; exact (hY.2.1 j hjn).2.2
    have q4 : f_X5_house (nI j) (4 : Int32) σ = some (1, pS σ 9 (run n (iniV w) cs (17 + j))) := by have := k_house h hjn (c := 4) (by decide); rw [tell4] at this; exact this
    have q5 : ∀ a, f_X5_house (nI j) (5 : Int32) (pS σ 9 a) = some (1, pS σ 9 (moreV (run n (iniV w) cs) j)) := fun a => by have := hou h hjn (c := 5) (by decide) a; rw [tell5] at this; exact this
    have qp : ∀ a, f_X5_pays (nI j) (pS σ 9 a) = some (feeV (run n (iniV w) cs (23 + j))) := fun a => k_pays (h.tells a) hjn
    have b1 := hasB (v := run n (iniV w) cs) hn hjn
    have b0 := hasB (v := v) hn hjn
    have n2 : (2 : Int32) + nI j = nI (2 + j) := nI_add 2 j
    have n5 : (5 : Int32) + nI j = nI (5 + j) := nI_add 5 j
    have n17 : (17 : Int32) + nI j = nI (17 + j) := nI_add 17 j
    have j2 : inB (nI (2 + j)) 14 = true := inB_nI (by omega) (by decide)
    have j5 : inB (nI (5 + j)) 23 = true := inB_nI (by omega) (by decide)
    have j17 : inB (nI (17 + j)) 23 = true := inB_nI (by omega) (by decide)
    have k2 : (nI (2 + j)).toNatClampNeg = 2 + j := nI_clamp (by omega)
    have k5 : (nI (5 + j)).toNatClampNeg = 5 + j := nI_clamp (by omega)
    have k17 : (nI (17 + j)).toNatClampNeg = 17 + j := nI_clamp (by omega)
    obtain ⟨s1, s2, s3⟩ := hS j hjn
    have m0 := more0 hv hjn
    have m5 := more5 hv hjn
    have yl := year_lt hv hjn
    obtain ⟨A', σ', g1, g2⟩ := ih (j + 1) N (payS v (run n (iniV w) cs) j x12) _ (pS σ 9 (moreV (run n (iniV w) cs) j)) (by omega) (by omega) (h.tells _)
    refine ⟨A', σ', g1, ?_⟩
    conv => lhs; unfold l_L_law_119
    rw [show inB (1 : Int32) (cLen 41) = true by decide, ckT, cl1, r1, if_neg (nI_ge hjn (by omega))]
    simp only [c41, c43, n2, n5, n17, j2, j5, j17, k2, k5, k17, show inB (2 : Int32) 23 = true by decide, cl2, ckT, nmE, bndS, bnd2S, gA_pS, r2, y2, y5, y17, q4, q5, qp, asked_p, b1, b0, m0, m5, yl, if_true, nI_1]
    refine Eq.trans ?_ g2
    unfold payS
    cases ha : awV (run n (iniV w) cs) j
    · simp only [bfF, Bool.false_eq_true, if_false, if_true, false_and, Int32.add_zero]
      cases hb : awV v j
      · simp only [bfF]; by_cases z : w (23 + j) = 3 <;> simp [z]
      · simp only [bfT, bfF]; by_cases z : w (23 + j) = 3 <;> simp [z]
    · have z3 : ¬ w (23 + j) = 3 := fun z => by rw [s2 z] at ha; exact absurd ha (by decide)
      cases hb : awV v j
      · obtain ⟨t1, t2, t3, t4⟩ := s1 ha hb
        have u1 : (nI s < (3 : Int32)) = False := lt_F (b := 3) (by omega) (by omega)
        have u2 : ((8 : Int32) < nI s) = False := lt_F (a := 8) (by decide) (by omega)
        simp only [bfF, bfT, u1, u2, t3, t4, z3, if_true, if_false, Bool.true_eq_false, Bool.false_eq_true, and_self, reduceCtorEq]
      · have e17 := s3 hb ha
        simp only [bfF, bfT, e17, z3, if_true, if_false, Bool.true_eq_false, Bool.false_eq_true, and_false, Int32.add_zero, reduceCtorEq]
end LTT
