/-! a round told as in time, walked and tapped in truth -/
section LZZ
variable {n : Nat} {w : Nat → Int32} {kc : Option (List Nat)} {RS : Nat → Int32} {RA : Nat → Nat → Int32} {A : Int32} {U V : Int64} {T X Y : Nat → Int32}
theorem more_eq {v v' : Nat → Int32} {i : Nat} (e1 : v' (17 + i) = v (17 + i)) (e2 : v' (23 + i) = v (23 + i)) (e3 : v' (5 + i) = v (5 + i)) (e4 : v' 3 = v 3) (e5 : v' (11 + i) = v (11 + i)) : moreV v' i = moreV v i := by
  unfold moreV dueV awV
  rw [e1, e2, e3, e4, e5]
theorem walk_more {v : Nat → Int32} (d i : Nat) : moreV (walkV d v) i = moreV v i ∧ awV (walkV d v) i = awV v i := by
  have e : ∀ k, 2 < k → walkV d v k = v k := fun k hk => by
    unfold walkV
    rw [va_up_ne _ _ (by omega), va_up_ne _ _ (by omega)]
  exact ⟨more_eq (e _ (by omega)) (e _ (by omega)) (e _ (by omega)) (e _ (by omega)) (e _ (by omega)), awV_eq (e _ (by omega))⟩
theorem tap_more {v : Nat → Int32} (hv : VW n v) (hn : n ≤ 6) {p q : Nat} (hp : p < n) (hq : moreV v p = nI (q + 1)) (hq5 : q < 5) : (q = 0 → awV (tapV p v) p = true) ∧ (0 < q → awV (tapV p v) p = false ∧ moreV (tapV p v) p = nI q) := by
  obtain ⟨-, -, ⟨d, hd, ed⟩, ⟨t, ht, et⟩, -⟩ := hv.2.2.2.2.2.2 p hp
  have haw : awV v p = false := by
    cases ha : awV v p
    · rfl
    · have := (more0 hv hp).mpr ha
      rw [hq] at this
      exact absurd this (nI_ne0 (by omega) (by omega))
  have hdue : ∃ x, x < 6 ∧ 0 < x ∧ dueV v p = nI x ∧ mmax 1 (nI x - nI t) = nI (q + 1) := by
    unfold moreV at hq
    rw [haw, if_neg (by decide)] at hq
    rcases due_rg hv hp with e | ⟨x, hx, h0, e⟩
    · rw [e, if_pos rfl] at hq
      exact absurd hq.symm (nI9 (by omega))
    · rw [e, if_neg (nI9 (by omega)), et] at hq
      exact ⟨x, hx, h0, e, hq⟩
  obtain ⟨x, hx, h0, ex, em⟩ := hdue
  rw [more_m x hx h0 t (by omega)] at em
  have hx9 : ¬ dueV v p = -9 := by rw [ex]; exact nI9 (by omega)
  by_cases hxt : x ≤ t + 1
  · have hq0 : q = 0 := by
      by_cases e1 : x ≤ t
      · rw [if_pos e1, show (1 : Int32) = nI 1 from rfl, nIeq (by omega) (by omega)] at em
        omega
      · rw [if_neg e1, nIeq (by omega) (by omega)] at em
        omega
    have hwk : ¬ (awV v p = true ∨ dueV v p = -9 ∨ v (11 + p) + 1 < dueV v p) := by
      rw [haw, ex, et, nI_1]
      rintro (z | z | z)
      · exact absurd z (by decide)
      · exact nI9 (by omega) z
      · exact nI_nlt (by omega) (by omega) z
    refine ⟨fun _ => ?_, fun z => absurd hq0 (by omega)⟩
    unfold awV tapV
    rw [if_neg hwk, va_up_ne _ _ (by omega), va_up_self, ed]
    exact decide_eq_true (nI9 (by omega))
  · rw [if_neg (by omega), nIeq (by omega) (by omega)] at em
    have hwk : awV v p = true ∨ dueV v p = -9 ∨ v (11 + p) + 1 < dueV v p := by
      rw [ex, et, nI_1]
      exact Or.inr (Or.inr (nI_lt (by omega) (by omega)))
    refine ⟨fun z => absurd z (by omega), fun _ => ?_⟩
    have ea : awV (tapV p v) p = false := by
      rw [← haw]
      unfold tapV
      rw [if_pos hwk]
      exact awV_eq (by rw [va_up_ne _ _ (by omega), va_up_ne _ _ (by omega)])
    refine ⟨ea, ?_⟩
    have ed2 : dueV (tapV p v) p = nI x := by
      rw [← ex]
      unfold dueV tapV
      rw [if_pos hwk, va_up_ne _ _ (by omega), va_up_ne _ _ (by omega), va_up_ne _ _ (by omega), va_up_ne _ _ (by omega), va_up_ne _ _ (by omega), va_up_ne _ _ (by omega)]
    have et2 : tapV p v (11 + p) = nI (t + 1) := by
      unfold tapV
      rw [if_pos hwk, va_up_self, et, nI_1]
    unfold moreV
    rw [ea, if_neg (by decide), ed2, if_neg (nI9 (by omega)), et2, more_m x hx h0 (t + 1) (by omega), if_neg (by omega)]
    congr 1
    omega
theorem tap_else {v : Nat → Int32} {p i : Nat} (hip : ¬ i = p) (hp : p < 6) (hi : i < 6) : moreV (tapV p v) i = moreV v i ∧ awV (tapV p v) i = awV v i := by
  have e : ∀ k, k ≠ 0 → k ≠ 4 → k ≠ 11 + p → k ≠ 17 + p → tapV p v k = v k := fun k h0 h4 h11 h17 => by
    unfold tapV
    split
    · rw [va_up_ne _ _ h11, va_up_ne _ _ h0]
    · rw [va_up_ne _ _ h4, va_up_ne _ _ h17, va_up_ne _ _ h11, va_up_ne _ _ h0]
  exact ⟨more_eq (e _ (by omega) (by omega) (by omega) (by omega)) (e _ (by omega) (by omega) (by omega) (by omega)) (e _ (by omega) (by omega) (by omega) (by omega)) (e _ (by omega) (by omega) (by omega) (by omega)) (e _ (by omega) (by omega) (by omega) (by omega)), awV_eq (e _ (by omega) (by omega) (by omega) (by omega))⟩
theorem tap_at {v : Nat → Int32} {p : Nat} : tapV p v 0 = v 0 + 1 ∧ tapV p v 2 = v 2 := by
  unfold tapV
  split
  · exact ⟨by rw [va_up_ne _ _ (by omega), va_up_self], by rw [va_up_ne _ _ (by omega), va_up_ne _ _ (by omega)]⟩
  · exact ⟨by rw [va_up_ne _ _ (by omega), va_up_ne _ _ (by omega), va_up_ne _ _ (by omega), va_up_self], by rw [va_up_ne _ _ (by omega), va_up_ne _ _ (by omega), va_up_ne _ _ (by omega), va_up_ne _ _ (by omega)]⟩
/-- a house tapped till it is awake -/
theorem taps_l {L : Nat} {xs : Nat → Int32} {a5 a7 a9 a11 a12 a13 a15 a16 : Int32} {a8 : Bool} {K : Int32 → Sg → Option Bool} (h0 : 0 < n) {p : Nat} (hp : p < n) : ∀ q t N cs σ, q < 5 → t + q < 6 → q + 2 < N → IW n w cs kc RS RA A U V T X Y σ → cs.length + q < 40 → run n (iniV w) cs 2 = nI p → moreV (run n (iniV w) cs) p = nI (q + 1) → ∃ cs' σ', IW n w cs' kc RS RA A U V T X Y σ' ∧ cs'.length = cs.length + (q + 1) ∧ run n (iniV w) cs' 0 = run n (iniV w) cs 0 + nI (q + 1) ∧ run n (iniV w) cs' 2 = nI p ∧ awV (run n (iniV w) cs') p = true ∧ (∀ i, i < n → ¬ i = p → moreV (run n (iniV w) cs') i = moreV (run n (iniV w) cs) i ∧ awV (run n (iniV w) cs') i = awV (run n (iniV w) cs) i) ∧ l_L_law_982 L xs a5 a7 a8 a9 a11 a12 a13 a15 a16 K N 0 (nI t) σ = K 1 σ' := by
  intro q
  induction q with
  | zero =>
    intro t N cs σ hq ht hN h hl ep hm
    obtain ⟨N, rfl⟩ : ∃ k, N = k + 2 := ⟨N - 2, by omega⟩
    have hn := h.n6
    have hv := h.vw
    have er : run n (iniV w) (cs ++ [1000]) = tapV p (run n (iniV w) cs) := by rw [run_snoc, stp_tap (by omega) ep]
    have ea := (tap_more hv hn hp hm hq).1 rfl
    obtain ⟨σ', q1, q2⟩ := k_tap h h0 (by omega) hp (by rw [er, tap_at.2]; exact ep)
    rw [er, ea] at q1
    refine ⟨cs ++ [1000], σ', q2, len_snoc _ _, by rw [er, tap_at.1]; rfl, by rw [er, tap_at.2]; exact ep, by rw [er]; exact ea, fun i hi hip => by rw [er]; exact tap_else hip (by omega) (by omega), ?_⟩
    conv => lhs; unfold l_L_law_982
    rw [if_neg (show ¬ (6 : Int32) ≤ nI t from nI_ge (b := 6) (by omega) (by decide)), if_pos rfl, q1, bnd2S, if_pos (show (0 : Int32) ≤ b2i true by decide), nmE]
    unfold l_L_law_982
    rw [show b2i true = (1 : Int32) from rfl, if_neg (show ¬ (1 : Int32) = 0 by decide)]
    split <;> rfl
  | succ q ih =>
    intro t N cs σ hq ht hN h hl ep hm
    obtain ⟨N, rfl⟩ : ∃ k, N = k + 1 := ⟨N - 1, by omega⟩
    have hn := h.n6
    have hv := h.vw
    have er : run n (iniV w) (cs ++ [1000]) = tapV p (run n (iniV w) cs) := by rw [run_snoc, stp_tap (by omega) ep]
    obtain ⟨ea, em⟩ := (tap_more hv hn hp hm hq).2 (by omega)
    have ep2 : run n (iniV w) (cs ++ [1000]) 2 = nI p := by rw [er, tap_at.2]; exact ep
    obtain ⟨σ', q1, q2⟩ := k_tap h h0 (by omega) hp ep2
    rw [er, ea] at q1
    obtain ⟨cs2, σ2, g1, g2, g3, g4, g5, g6, g7⟩ := ih (t + 1) N (cs ++ [1000]) σ' (by omega) (by omega) (by omega) q2 (by rw [len_snoc]; omega) ep2 (by rw [er]; exact em)
    obtain ⟨m, hm0, em0⟩ := hv.2.2.2.2.1
    refine ⟨cs2, σ2, g1, by rw [g2, len_snoc]; omega, ?_, g4, g5, fun i hi hip => ?_, ?_⟩
    · rw [g3, er, tap_at.1, em0, nI_1, nI_add, nI_add]
      congr 1
      omega
    · obtain ⟨z1, z2⟩ := g6 i hi hip
      obtain ⟨y1, y2⟩ := tap_else (v := run n (iniV w) cs) hip (show p < 6 by omega) (show i < 6 by omega)
      rw [er] at z1 z2
      exact ⟨z1.trans y1, z2.trans y2⟩
    · conv => lhs; unfold l_L_law_982
      rw [if_neg (show ¬ (6 : Int32) ≤ nI t from nI_ge (b := 6) (by omega) (by decide)), if_pos rfl, q1, bnd2S, if_pos (show (0 : Int32) ≤ b2i false by decide), nmE, nI_1]
      exact g7
end LZZ
