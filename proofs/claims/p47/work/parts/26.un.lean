/-- other deeds laid, and all done again -/
theorem again_C {n : Nat} {w : Nat → Int32} {cs cs' : List Nat} {s : Nat} {σ σ1 : Sg} (t1 : STW n w) (t2 : COK n cs) (h : CT n w cs s σ) (t2' : COK n cs') (f1 : ∀ k, k ≠ 16 * stI s 6 + 1 → gS σ1 k = gS σ k) (f2 : ∀ a, a ≠ stI s 6 → gA σ1 a = gA σ a) (f3 : ∀ k, gL σ1 k = gL σ k) (f4 : ∀ k, gR σ1 k = gR σ k) (hd : HD cs' s σ1) : ∃ σ', f_X4_replay s σ1 = some σ' ∧ CT n w cs' s σ' ∧ FrD s σ σ' := by
  have hs := h.1.2.1
  unfold isS at hs
  have e2 : stI s 2 = 7 * s - 2 + 2 := rfl
  have e6 : stI s 6 = 7 * s - 2 + 6 := rfl
  have k1 := h.1.out f1 f2
  have k3 : FD n s σ1 := by
    unfold FD
    rw [f1 _ (by omega)]
    exact h.2.2
  obtain ⟨σ', q1, q2, q3⟩ := X4_replay_v k1 (fun k hk => run_stat t1 hk t2.1 t2.2) t1 hd k3 t2'
  refine ⟨σ', q1, q2, FrD.tr ⟨fun k _ _ _ _ h5 => f1 k h5, fun a _ _ _ h4 => f2 a h4, f3, f4⟩ q3.d⟩
/-- what is missing is a finding -/
theorem refused_p {σ : Sg} {q m : Nat} (hs : gS σ (16 * q + 1) = nI m) (hm : m < 2 ^ 31) : f_X5_refused (some q) σ = some (0, σ) := by
  unfold f_X5_refused
  rw [ocS, hs, if_pos (nI_pos' hm)]
theorem refused_m {σ σ' : Sg} {q : Nat} (hs : gS σ (16 * q + 1) = -1) (hf : f_X5_found 1 σ = some (-3, σ')) : f_X5_refused (some q) σ = some (-3, σ') := by
  unfold f_X5_refused
  rw [ocS, hs, if_neg (by decide), hf]
  rfl
theorem nightM {n : Nat} {v : Nat → Int32} {τ : Sg} (h : HM n v τ) : HM n (nightV n v) (pA τ 9 (fun x => if 11 ≤ x ∧ x < 17 then (0 : Int32) else if 17 ≤ x ∧ x < 23 then -9 else upd (upd (upd (gA τ 9) 0 0) 1 (upd (gA τ 9) 0 0 1 + 1)) 2 0 x)) := by
  have hn := h.1
  refine h.nw rfl rfl (gA_ne _ _ (by decide)) (gA_ne _ _ (by decide)) (fun k hk => ?_) (fun j hj => ?_)
  · unfold nightV
    rw [slpV_o (by omega) (by omega) (by omega) (by omega), va_up_ne _ _ (by omega)]
  · rw [gA_same]
    unfold nightV
    by_cases z0 : j = 0
    · subst z0; rfl
    by_cases z2 : j = 2
    · subst z2; rfl
    by_cases z1 : j = 1
    · subst z1
      rw [slpV_o (by decide) (by decide) (by omega) (by omega), va_up_self, if_neg (by decide), if_neg (by decide)]
      unfold upd
      rw [if_neg (by decide), if_pos rfl, if_neg (by decide), h.now (by decide)]
    · by_cases z3 : 11 ≤ j ∧ j < 17
      · have : j < 11 + n := by rcases hj with e | e | e | e <;> omega
        have := slpV_t (n := n) (v := va_up v 1 (v 1 + 1)) (i := j - 11) (by omega)
        rw [show 11 + (j - 11) = j by omega] at this
        rw [if_pos z3, this]
      · by_cases z4 : 17 ≤ j ∧ j < 23
        · have : j < 17 + n := by rcases hj with e | e | e | e <;> omega
          have := slpV_y (n := n) (v := va_up v 1 (v 1 + 1)) (i := j - 17) hn (by omega)
          rw [show 17 + (j - 17) = j by omega] at this
          rw [if_neg z3, if_pos z4, this]
        · rw [if_neg z3, if_neg z4, slpV_o z0 z2 (by omega) (by omega), va_up_ne _ _ z1]
          unfold upd
          rw [if_neg z2, if_neg z1, if_neg z0, h.at hj]
theorem code4 : (4 : Int32) * 1000 + 0 * 100 + 0 = nI 4000 := by decide
