def RW (h : Nat) (w : Nat → Int32) : Prop := ∀ i, i < h → (∃ k, k < 6 ∧ w (23 + i) = nI k) ∧ (∃ x, x < 100 ∧ w (29 + i) = nI x) ∧ ∃ d, d < 100 ∧ w (37 + i) = nI d
theorem RW.more {h : Nat} {w : Nat → Int32} (hR : RW h w) (hh : h < 6) {k d x : Nat} (hk : k < 6) (hd : d < 100) (hx : x < 100) : RW (h + 1) (w3 w h k d x) := by
  intro i hi
  rw [w3_k w k d x hh hi, w3_d w k d x hh hi, w3_x w k d x hh hi]
  by_cases e : i = h
  · rw [if_pos e, if_pos e, if_pos e]
    exact ⟨⟨k, hk, rfl⟩, ⟨x, hx, rfl⟩, ⟨d, hd, rfl⟩⟩
  · rw [if_neg e, if_neg e, if_neg e]
    exact hR i (by omega)
section RL
variable {t m g : Nat} {tx : Nat → Int32}
theorem endC {b1 b2 N : Nat} {x : Int32} {σ : Sg} (hg : gS σ 18 = 0) : l_X2_read_43 b1 b2 (N + 1) x σ = some (gS σ 17, σ) := by
  unfold l_X2_read_43
  by_cases e : (6 : Int32) < x
  · rw [if_pos e]
  · rw [if_neg e, if_pos hg]
theorem begin_C (hg : isS g) {σ : Sg} (f q : Int32) : ∃ σ', f_X4_begin g f q σ = some σ' ∧ FrG g σ σ' ∧ gS σ' 17 = gS σ 17 ∧ gS σ' 18 = gS σ 18 ∧ gR σ' 2 = gR σ 2 ∧ ∀ w : Nat → Int32, w 35 = q → w 36 = f → DS g 0 w σ' := by
  have hs := hg
  unfold isS at hs
  have e0 : stI g 0 = 7 * g - 2 + 0 := rfl
  have e1 : stI g 1 = 7 * g - 2 + 1 := rfl
  have e2 : stI g 2 = 7 * g - 2 + 2 := rfl
  unfold f_X4_begin
  simp only [nmE]
  rw [show f_X0_fill (stI g 0) 0 0 (pS (pS (pS σ (16 * g + 7) 0) (16 * g + 9) f) (16 * g + 8) q) = _ from X0_fill_i (k := 0) (Nat.zero_le _), bndS]
  generalize hσ1 : pA (pS (pS (pS (pS σ (16 * g + 7) 0) (16 * g + 9) f) (16 * g + 8) q) (16 * stI g 0 + 1) (nI 0)) (stI g 0) _ = σ1
  rw [show f_X0_fill (stI g 1) 0 0 σ1 = _ from X0_fill_i (k := 0) (Nat.zero_le _), bndS]
  generalize hσ2 : pA (pS σ1 (16 * stI g 1 + 1) (nI 0)) (stI g 1) _ = σ2
  rw [show f_X0_fill (stI g 2) 0 0 σ2 = _ from X0_fill_i (k := 0) (Nat.zero_le _), bndS]
  subst hσ2
  subst hσ1
  refine ⟨_, rfl, ?_, ?_, ?_, rfl, fun w hq hf => ⟨by decide, ?_, ?_, ?_, ?_, ?_, ?_, fun i hi => absurd hi (by omega)⟩⟩
  · exact ((((((FrG.s (by omega)).tr (FrG.s (by omega))).tr (FrG.s (by omega))).tr ((FrG.s (by omega)).tr (FrG.a (Or.inl rfl)))).tr ((FrG.s (by omega)).tr (FrG.a (Or.inr (Or.inl rfl)))))).tr ((FrG.s (by omega)).tr (FrG.a (Or.inr (Or.inr rfl))))
  · rw [gS_pA, gS_ne _ _ (by omega), gS_pA, gS_ne _ _ (by omega), gS_pA, gS_ne _ _ (by omega), gS_ne _ _ (by omega), gS_ne _ _ (by omega), gS_ne _ _ (by omega)]
  · rw [gS_pA, gS_ne _ _ (by omega), gS_pA, gS_ne _ _ (by omega), gS_pA, gS_ne _ _ (by omega), gS_ne _ _ (by omega), gS_ne _ _ (by omega), gS_ne _ _ (by omega)]
  · rw [gS_pA, gS_ne _ _ (by omega), gS_pA, gS_ne _ _ (by omega), gS_pA, gS_ne _ _ (by omega), gS_ne _ _ (by omega), gS_ne _ _ (by omega), gS_same]; rfl
  · rw [gS_pA, gS_ne _ _ (by omega), gS_pA, gS_ne _ _ (by omega), gS_pA, gS_ne _ _ (by omega), gS_same]; exact hq.symm
  · rw [gS_pA, gS_ne _ _ (by omega), gS_pA, gS_ne _ _ (by omega), gS_pA, gS_ne _ _ (by omega), gS_ne _ _ (by omega), gS_same]; exact hf.symm
  · rw [gS_pA, gS_ne _ _ (by omega), gS_pA, gS_ne _ _ (by omega), gS_pA, gS_same]
  · rw [gS_pA, gS_ne _ _ (by omega), gS_pA, gS_same]
  · rw [gS_pA, gS_same]
theorem s_C {σ : Sg} (hT : TC t m tx σ) {p : Nat} (hp : gS σ 17 = nI p) (hpm : p ≤ m) (hgd : gS σ 18 = b2i true) : f_X2_letter 115 σ = some (if p < m ∧ tx p = 115 then pS (pS σ 18 (b2i true)) 17 (nI (p + 1)) else pS (pS σ 18 (b2i false)) 17 (nI p)) := by
  unfold f_X2_letter
  rw [sign_v hT hp hpm, hgd]
  have zt : ¬ b2i true = 0 := by decide
  simp only [nmE, bndS]
  rw [if_neg zt]
  by_cases e : p < m
  · rw [if_pos e]
    by_cases e2 : tx p = 115
    · rw [if_pos e2, if_pos (show p < m ∧ tx p = 115 from ⟨e, e2⟩)]
      simp only [gS_pS, hp, if_true, show (17 = 18) = False from eq_false (by decide), show (18 = 17) = False from eq_false (by decide), if_false, zt, nI_1]
    · rw [if_neg e2, if_neg (show ¬ (p < m ∧ tx p = 115) from fun z => e2 z.2)]
      simp only [gS_pS, hp, if_true, show (17 = 18) = False from eq_false (by decide), show (18 = 17) = False from eq_false (by decide), if_false, show b2i false = 0 from rfl, Int32.add_zero]
  · rw [if_neg e, if_neg (show ¬ (0 : Int32) = 115 by decide), if_neg (show ¬ (p < m ∧ tx p = 115) from fun z => e z.1)]
    simp only [gS_pS, hp, if_true, show (17 = 18) = False from eq_false (by decide), show (18 = 17) = False from eq_false (by decide), if_false, show b2i false = 0 from rfl, Int32.add_zero]
end RL
