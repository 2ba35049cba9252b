def RW (h : Nat) (w : Nat → Int32) : Prop := ∀ i, i < h → (∃ k, k < 6 ∧ w (23 + i) = nI k) ∧ (∃ x, x < 100 ∧ w (29 + i) = nI x) ∧ ∃ d, d < 100 ∧ w (37 + i) = nI d
theorem RW.more {h : Nat} {w : Nat → Int32} (hR : RW h w) (hh : h < 6) {k d x : Nat} (hk : k < 6) (hd : d < 100) (hx : x < 100) : RW (h + 1) (w3 w h k d x) := by
  intro i hi
  rw [w3_k w k d x hh hi, w3_d w k d x hh hi, w3_x w k d x hh hi]
  by_cases e : i = h
  · rw [if_pos e, if_pos e, if_pos e]
    exact ⟨⟨k, hk, rfl⟩, ⟨x, hx, rfl⟩, ⟨d, hd, rfl⟩⟩
  · rw [if_neg e, if_neg e, if_neg e]
    exact hR i (by omega)
section RL
variable {t m g : Nat} {tx : Nat → Int32}
theorem endC {b1 b2 N : Nat} {x : Int32} {σ : Sg} (hg : gS σ 18 = 0) : l_X2_read_43 b1 b2 (N + 1) x σ = some (gS σ 17, σ) := by
  unfold l_X2_read_43
  by_cases e : (6 : Int32) < x
  · rw [if_pos e]
  · rw [if_neg e, if_pos hg]
theorem loop_R (hg : isS g) : ∀ (e h N N' p : Nat) (w : Nat → Int32) (σ τ : Sg), h + e = 6 → e + 2 < N → e + 2 < N' → TC t m tx σ → TM t m tx τ → gS σ 17 = nI p → p ≤ m → gS τ 9 = nI (sk m tx 60 p) → gS σ 18 = b2i true → DS g h w σ → MS h w τ → RW h w → (w 36 = 0 ∨ w 36 = 1) → (∃ q, q < 100 ∧ w 35 = nI q) →
    ∃ (r : Int32) (σ' τ' : Sg), l_X2_read_43 (11 + t) g N (nI h) σ = some (r, σ') ∧ l_X6_read_48 (fun σv => if gS σv 14 = 0 then some (gS σv 11, σv) else some (-9, σv)) N' τ = some (r, τ') ∧ FrG g σ σ' ∧ gR σ' 2 = gR σ 2 ∧ FrR τ τ' ∧ (r = -9 → ∃ n w', 0 < n ∧ STW n w' ∧ DS g n w' σ' ∧ MS n w' τ') := by
  intro e
  induction e with
  | zero =>
    intro h N N' p w σ τ he hN hN' hT hU hp hpm hq hgd hD hM hR hw hw2
    have hm := hT.2.1
    obtain rfl : h = 6 := he
    obtain ⟨N, rfl⟩ : ∃ k, N = k + 1 + 1 := ⟨N - 2, by omega⟩
    obtain ⟨N', rfl⟩ : ∃ k, N' = k + 1 := ⟨N' - 1, by omega⟩
    have hsk := sk_le (m := m) (tx := tx) 60 p hpm
    unfold l_X2_read_43 l_X6_read_48
    rw [if_neg (by decide), if_neg (by rw [hgd]; decide), skip_C hT hp hpm, bndS, gS_same, hU.2.2.2.1, hq]
    have hsz : gS (pS σ 17 (nI (sk m tx 60 p))) (16 * (11 + t) + 1) = nI m := (gS_ne _ _ (by omega)).trans hT.2.2.2.1
    rw [hsz]
    by_cases ov : sk m tx 60 p < m
    · simp only [nIlt (show sk m tx 60 p < 2 ^ 31 by omega) (show m < 2 ^ 31 by omega), nIle (show m < 2 ^ 31 by omega) (show sk m tx 60 p < 2 ^ 31 by omega), ov, show ¬ m ≤ sk m tx 60 p by omega, if_true, if_false, nmE, bfF]
      rw [if_pos (by decide)]
      have hT2 : TC t m tx (pS (pS σ 17 (nI (sk m tx 60 p))) 18 (b2i false)) := (hT.s (by decide) _).s (by decide) _
      rw [house_C0 hT2 (by rw [gS_ne _ _ (by decide), gS_same]) (by omega) (gS_same _ _ _), bndS, endC (show gS (pS (pS σ 17 (nI (sk m tx 60 p))) 18 (b2i false)) 18 = 0 from gS_same _ _ _), gS_ne _ _ (by decide), gS_same]
      have hI : f_X6_isHouseItem τ = some (false, τ) := by
        unfold f_X6_isHouseItem
        rw [hq, letter_v hU (by omega), bndS]
        rcases letters (if sk m tx 60 p < m then tx (sk m tx 60 p) else -1000) with ⟨k, hk, k1, k2⟩ | ⟨k1, k2⟩
        · rw [k2, bndS, if_neg (nI_pos (by omega)), if_pos (by rw [hM.1]; rfl)]
        · rw [k2, bndS, if_pos (by decide)]
      rw [hI, bnd2S, bfF, hq]
      exact ⟨_, _, _, rfl, rfl, (FrG.s (Or.inl rfl)).tr (FrG.s (Or.inr (Or.inl rfl))), rfl, FrR.rf τ, fun z => absurd z (nI9 (by omega))⟩
    · simp only [nIlt (show sk m tx 60 p < 2 ^ 31 by omega) (show m < 2 ^ 31 by omega), nIle (show m < 2 ^ 31 by omega) (show sk m tx 60 p < 2 ^ 31 by omega), ov, show m ≤ sk m tx 60 p by omega, if_true, if_false, nmE, bfT]
      rw [if_neg (by decide), hM.1, if_neg (by decide)]
      exact ⟨_, _, _, rfl, rfl, FrG.s (Or.inl rfl), rfl, FrR.rf τ, fun _ => ⟨6, w, by decide, ⟨by decide, hw, hw2, hR⟩, hD.s hg (Or.inl rfl) _, hM⟩⟩
  | succ e ih =>
    intro h N N' p w σ τ he hN hN' hT hU hp hpm hq hgd hD hM hR hw hw2
    have hm := hT.2.1
    obtain ⟨N, rfl⟩ : ∃ k, N = k + 1 + 1 := ⟨N - 2, by omega⟩
    obtain ⟨N', rfl⟩ : ∃ k, N' = k + 1 := ⟨N' - 1, by omega⟩
    have hsk := sk_le (m := m) (tx := tx) 60 p hpm
    have q6 : ¬ (6 : Int32) < nI h := nI_nlt (b := h) (a := 6) (by omega) (by decide)
    conv in l_X2_read_43 _ _ _ _ _ => unfold l_X2_read_43
    conv in l_X6_read_48 _ _ _ => unfold l_X6_read_48
    rw [if_neg q6, if_neg (by rw [hgd]; decide), skip_C hT hp hpm, bndS, gS_same, hU.2.2.2.1, hq]
    have hsz : gS (pS σ 17 (nI (sk m tx 60 p))) (16 * (11 + t) + 1) = nI m := (gS_ne _ _ (by omega)).trans hT.2.2.2.1
    rw [hsz]
    by_cases ov : sk m tx 60 p < m
    · have q6b : ¬ (6 : Int32) ≤ nI h := nI_ge (b := 6) (by omega) (by decide)
      simp only [nIlt (show sk m tx 60 p < 2 ^ 31 by omega) (show m < 2 ^ 31 by omega), nIle (show m < 2 ^ 31 by omega) (show sk m tx 60 p < 2 ^ 31 by omega), ov, show ¬ m ≤ sk m tx 60 p by omega, if_true, if_false, nmE, bfF]
      rw [if_neg q6b]
      have e1 : pS (pS σ 17 (nI (sk m tx 60 p))) 18 (b2i true) = pS σ 17 (nI (sk m tx 60 p)) := by
        rw [← hgd, show gS σ 18 = gS (pS σ 17 (nI (sk m tx 60 p))) 18 from (gS_ne _ _ (by decide)).symm, pS_self]
      rw [e1]
      rcases item_R (σ := pS σ 17 (nI (sk m tx 60 p))) hg (hT.s (by decide) _) hU (gS_same _ _ _) hq ov ((gS_ne _ _ (by decide)).trans hgd) (hD.s hg (Or.inl rfl) _) hM (show h < 6 by omega) with ⟨p', k, d, x, σ', τ', hk, hd, hx, b1, b2, b3, b4, b5, b6, b7, b8, b9, b10, b11, b12⟩ | ⟨p', σ', τ', b1, b2, b3, b4, b5, b6, b7, b8, b9⟩
      · rw [b2, b3, bndS, bnd2S, bfT, skip_M b12 b5 b1, bndS, nI_1]
        have hT' : TC t m tx σ' := (hT.s (by decide) _).fr hg b9 b10
        obtain ⟨r, σ2, τ2, i1, i2, i3, i4, i5, i6⟩ := ih (h + 1) (N + 1) N' p' (w3 w h k d x) σ' (pS τ' 9 (nI (sk m tx 60 p'))) (by omega) (by omega) (by omega) hT' (b12.s (by decide) (by decide) _) b4 b1 (gS_same _ _ _) b6 b7 (b8.s _) (hR.more (by omega) hk hd hx)
          (by unfold w3; rw [va_up_ne _ _ (by omega), va_up_ne _ _ (by omega), va_up_ne _ _ (by omega)]; exact hw)
          (by unfold w3; rw [va_up_ne _ _ (by omega), va_up_ne _ _ (by omega), va_up_ne _ _ (by omega)]; exact hw2)
        exact ⟨r, σ2, τ2, i1, i2, ((FrG.s (Or.inl rfl)).tr b9).tr i3, i4.trans b10, (b11.tr (FrR.s (by decide))).tr i5, i6⟩
      · rw [b2, b3, bndS, bnd2S, bfF, endC b6, b4, b5]
        exact ⟨_, _, _, rfl, rfl, (FrG.s (Or.inl rfl)).tr b7, b8, b9, fun z => absurd z (nI9 (by omega))⟩
    · simp only [nIlt (show sk m tx 60 p < 2 ^ 31 by omega) (show m < 2 ^ 31 by omega), nIle (show m < 2 ^ 31 by omega) (show sk m tx 60 p < 2 ^ 31 by omega), ov, show m ≤ sk m tx 60 p by omega, if_true, if_false, nmE, bfT]
      by_cases h0 : h = 0
      · subst h0
        rw [if_pos (show nI 0 ≤ 0 by decide), hM.1, if_pos (show nI 0 = 0 from rfl)]
        have hT2 : TC t m tx (pS (pS σ 17 (nI (sk m tx 60 p))) 18 (b2i false)) := (hT.s (by decide) _).s (by decide) _
        rw [house_C0 hT2 (by rw [gS_ne _ _ (by decide), gS_same]) (by omega) (gS_same _ _ _), bndS, endC (show gS (pS (pS σ 17 (nI (sk m tx 60 p))) 18 (b2i false)) 18 = 0 from gS_same _ _ _), gS_ne _ _ (by decide), gS_same, show sk m tx 60 p = m by omega]
        exact ⟨_, _, _, rfl, rfl, (FrG.s (Or.inl rfl)).tr (FrG.s (Or.inr (Or.inl rfl))), rfl, FrR.rf τ, fun z => absurd z (nI9 (by omega))⟩
      · have hle : ¬ nI h ≤ 0 := by rw [show (0 : Int32) = nI 0 from rfl]; exact nI_ge (by omega) (by omega)
        have hne : ¬ nI h = 0 := by rw [eq0 (by omega)]; exact h0
        rw [if_neg hle, hM.1, if_neg hne]
        exact ⟨_, _, _, rfl, rfl, FrG.s (Or.inl rfl), rfl, FrR.rf τ, fun _ => ⟨h, w, by omega, ⟨by omega, hw, hw2, hR⟩, hD.s hg (Or.inl rfl) _, hM⟩⟩
theorem begin_C (hg : isS g) {σ : Sg} (f q : Int32) : ∃ σ', f_X4_begin g f q σ = some σ' ∧ FrG g σ σ' ∧ gS σ' 17 = gS σ 17 ∧ gS σ' 18 = gS σ 18 ∧ gR σ' 2 = gR σ 2 ∧ ∀ w : Nat → Int32, w 35 = q → w 36 = f → DS g 0 w σ' := by
  have hs := hg
  unfold isS at hs
  have e0 : stI g 0 = 7 * g - 2 + 0 := rfl
  have e1 : stI g 1 = 7 * g - 2 + 1 := rfl
  have e2 : stI g 2 = 7 * g - 2 + 2 := rfl
  unfold f_X4_begin
  simp only [nmE]
  rw [show f_X0_fill (stI g 0) 0 0 (pS (pS (pS σ (16 * g + 7) 0) (16 * g + 9) f) (16 * g + 8) q) = _ from X0_fill_i (k := 0) (Nat.zero_le _), bndS]
  generalize hσ1 : pA (pS (pS (pS (pS σ (16 * g + 7) 0) (16 * g + 9) f) (16 * g + 8) q) (16 * stI g 0 + 1) (nI 0)) (stI g 0) _ = σ1
  rw [show f_X0_fill (stI g 1) 0 0 σ1 = _ from X0_fill_i (k := 0) (Nat.zero_le _), bndS]
  generalize hσ2 : pA (pS σ1 (16 * stI g 1 + 1) (nI 0)) (stI g 1) _ = σ2
  rw [show f_X0_fill (stI g 2) 0 0 σ2 = _ from X0_fill_i (k := 0) (Nat.zero_le _), bndS]
  subst hσ2
  subst hσ1
  refine ⟨_, rfl, ?_, ?_, ?_, rfl, fun w hq hf => ⟨by decide, ?_, ?_, ?_, ?_, ?_, ?_, fun i hi => absurd hi (by omega)⟩⟩
  · exact ((((((FrG.s (by omega)).tr (FrG.s (by omega))).tr (FrG.s (by omega))).tr ((FrG.s (by omega)).tr (FrG.a (Or.inl rfl)))).tr ((FrG.s (by omega)).tr (FrG.a (Or.inr (Or.inl rfl)))))).tr ((FrG.s (by omega)).tr (FrG.a (Or.inr (Or.inr rfl))))
  · rw [gS_pA, gS_ne _ _ (by omega), gS_pA, gS_ne _ _ (by omega), gS_pA, gS_ne _ _ (by omega), gS_ne _ _ (by omega), gS_ne _ _ (by omega), gS_ne _ _ (by omega)]
  · rw [gS_pA, gS_ne _ _ (by omega), gS_pA, gS_ne _ _ (by omega), gS_pA, gS_ne _ _ (by omega), gS_ne _ _ (by omega), gS_ne _ _ (by omega), gS_ne _ _ (by omega)]
  · rw [gS_pA, gS_ne _ _ (by omega), gS_pA, gS_ne _ _ (by omega), gS_pA, gS_ne _ _ (by omega), gS_ne _ _ (by omega), gS_ne _ _ (by omega), gS_same]; rfl
  · rw [gS_pA, gS_ne _ _ (by omega), gS_pA, gS_ne _ _ (by omega), gS_pA, gS_ne _ _ (by omega), gS_same]; exact hq.symm
  · rw [gS_pA, gS_ne _ _ (by omega), gS_pA, gS_ne _ _ (by omega), gS_pA, gS_ne _ _ (by omega), gS_ne _ _ (by omega), gS_same]; exact hf.symm
  · rw [gS_pA, gS_ne _ _ (by omega), gS_pA, gS_ne _ _ (by omega), gS_pA, gS_same]
  · rw [gS_pA, gS_ne _ _ (by omega), gS_pA, gS_same]
  · rw [gS_pA, gS_same]
theorem s_C {σ : Sg} (hT : TC t m tx σ) {p : Nat} (hp : gS σ 17 = nI p) (hpm : p ≤ m) (hgd : gS σ 18 = b2i true) : f_X2_letter 115 σ = some (if p < m ∧ tx p = 115 then pS (pS σ 18 (b2i true)) 17 (nI (p + 1)) else pS (pS σ 18 (b2i false)) 17 (nI p)) := by
  unfold f_X2_letter
  rw [sign_v hT hp hpm, hgd]
  have zt : ¬ b2i true = 0 := by decide
  simp only [nmE, bndS]
  rw [if_neg zt]
  by_cases e : p < m
  · rw [if_pos e]
    by_cases e2 : tx p = 115
    · rw [if_pos e2, if_pos (show p < m ∧ tx p = 115 from ⟨e, e2⟩)]
      simp only [gS_pS, hp, if_true, show (17 = 18) = False from eq_false (by decide), show (18 = 17) = False from eq_false (by decide), if_false, zt, nI_1]
    · rw [if_neg e2, if_neg (show ¬ (p < m ∧ tx p = 115) from fun z => e2 z.2)]
      simp only [gS_pS, hp, if_true, show (17 = 18) = False from eq_false (by decide), show (18 = 17) = False from eq_false (by decide), if_false, show b2i false = 0 from rfl, Int32.add_zero]
  · rw [if_neg e, if_neg (show ¬ (0 : Int32) = 115 by decide), if_neg (show ¬ (p < m ∧ tx p = 115) from fun z => e z.1)]
    simp only [gS_pS, hp, if_true, show (17 = 18) = False from eq_false (by decide), show (18 = 17) = False from eq_false (by decide), if_false, show b2i false = 0 from rfl, Int32.add_zero]
/-- a text read on both sides -/
theorem read_R (hg : isS g) {σ τ : Sg} (ht : t < 4) (hm : m ≤ 60) (hs : gS σ (16 * (11 + t) + 1) = nI m) (hA : ∀ i, i < m → gA σ (11 + t) i = tx i) (hs2 : gA τ 3 t = nI m) (hA2 : ∀ i, i < m → gA τ 4 (60 * t + i) = tx i) :
    ∃ (r : Int32) (σ' τ' : Sg), f_X2_read (11 + t) g σ = some (r, σ') ∧ f_X6_read (nI t) τ = some (r, τ') ∧ FrG g σ σ' ∧ gR σ' 2 = 11 + t ∧ FrR τ τ' ∧ (r = -9 → ∃ n w', 0 < n ∧ STW n w' ∧ DS g n w' σ' ∧ MS n w' τ') := by
  have hgs := hg
  unfold isS at hgs
  unfold f_X2_read f_X6_read
  simp only [nmE]
  have hT : TC t m tx (pS (pS (pR σ 2 (11 + t)) 17 0) 18 (b2i true)) := ⟨ht, hm, rfl, (gS_ne _ _ (by omega)).trans ((gS_ne _ _ (by omega)).trans hs), hA⟩
  have hF : FrG g σ (pS (pS (pR σ 2 (11 + t)) 17 0) 18 (b2i true)) := ⟨fun k h1 h2 _ _ _ _ => (gS_ne _ _ h2).trans (gS_ne _ _ h1), fun _ _ _ _ => rfl, fun _ => rfl, fun k hk => by
    show gR (pR σ 2 (11 + t)) k = gR σ k
    rw [gR_pR, if_neg hk]⟩
  have hp : gS (pS (pS (pR σ 2 (11 + t)) 17 0) 18 (b2i true)) 17 = nI 0 := (gS_ne _ _ (by decide)).trans (gS_same _ _ _)
  have hgd : gS (pS (pS (pR σ 2 (11 + t)) 17 0) 18 (b2i true)) 18 = b2i true := gS_same _ _ _
  generalize pS (pS (pR σ 2 (11 + t)) 17 0) 18 (b2i true) = σ1 at hT hF hp hgd ⊢
  rw [skip_C hT hp (Nat.zero_le _), bndS]
  rw [inB_nI (by rw [mL3]; omega) (by rw [mL3]; decide), ckT, nI_clamp (by omega), ml60, gA_pS, hs2]
  have hU : TM t m tx (pS (pS (pS (pS τ 10 (nI (60 * t))) 11 (nI m)) 9 0) 14 0) := ⟨ht, hm, by rw [gS_ne _ _ (by decide), gS_ne _ _ (by decide), gS_ne _ _ (by decide), gS_same], by rw [gS_ne _ _ (by decide), gS_ne _ _ (by decide), gS_same], hA2⟩
  have hG : FrR τ (pS (pS (pS (pS τ 10 (nI (60 * t))) 11 (nI m)) 9 0) 14 0) := (((FrR.s (by decide)).tr (FrR.s (by decide))).tr (FrR.s (by decide))).tr (FrR.s (by decide))
  have hq : gS (pS (pS (pS (pS τ 10 (nI (60 * t))) 11 (nI m)) 9 0) 14 0) 9 = nI 0 := (gS_ne _ _ (by decide)).trans (gS_same _ _ _)
  have h14 : gS (pS (pS (pS (pS τ 10 (nI (60 * t))) 11 (nI m)) 9 0) 14 0) 14 = 0 := gS_same _ _ _
  generalize pS (pS (pS (pS τ 10 (nI (60 * t))) 11 (nI m)) 9 0) 14 0 = τ1 at hU hG hq h14 ⊢
  rw [skip_M hU hq (Nat.zero_le _), bndS]
  have hp0 := sk_le (m := m) (tx := tx) 60 0 (Nat.zero_le _)
  generalize sk m tx 60 0 = p0 at hp0 ⊢
  have hT1 : TC t m tx (pS σ1 17 (nI p0)) := hT.s (by decide) _
  have hU1 : TM t m tx (pS τ1 9 (nI p0)) := hU.s (by decide) (by decide) _
  have hF1 : FrG g σ (pS σ1 17 (nI p0)) := hF.tr (FrG.s (Or.inl rfl))
  have hG1 : FrR τ (pS τ1 9 (nI p0)) := hG.tr (FrR.s (by decide))
  have hgd1 : gS (pS σ1 17 (nI p0)) 18 = b2i true := (gS_ne _ _ (by decide)).trans hgd
  have h141 : gS (pS τ1 9 (nI p0)) 14 = 0 := (gS_ne _ _ (by decide)).trans h14
  have hp1 : gS (pS σ1 17 (nI p0)) 17 = nI p0 := gS_same _ _ _
  have hq1 : gS (pS τ1 9 (nI p0)) 9 = nI p0 := gS_same _ _ _
  generalize pS σ1 17 (nI p0) = σ2 at hT1 hF1 hgd1 hp1 ⊢
  generalize pS τ1 9 (nI p0) = τ2 at hU1 hG1 h141 hq1 ⊢
  rw [s_C hT1 hp1 hp0 hgd1, bndS]
  unfold f_X6_isStreet
  rw [hq1, letter_v hU1 hp0, bndS]
  -- what a bad head leads to
  have bad : ∀ (σ3 : Sg) (p' : Nat) (a b : Int32), TC t m tx σ3 → FrG g σ σ3 → gS σ3 17 = nI p' → p' ≤ m → gS σ3 18 = 0 → ∃ σ', (bnd (f_X4_begin g a b σ3) (fun σ8 => (l_X2_read_43 (11 + t) g FU (0 : Int32) σ8))) = some (nI p', σ') ∧ FrG g σ σ' ∧ gR σ' 2 = 11 + t := by
    intro σ3 p' a b hT3 hF3 hp3 hpm3 hg3
    obtain ⟨σ4, b1, b2, b3, b4, b5, -⟩ := begin_C (σ := σ3) hg a b
    obtain ⟨N, hN⟩ : ∃ N, FU = N + 1 := ⟨FU - 1, by decide⟩
    rw [b1, bndS, hN, endC (b4.trans hg3), b3, hp3]
    exact ⟨_, rfl, hF3.tr b2, b5.trans hT3.2.2.1⟩
  by_cases es : p0 < m ∧ tx p0 = 115
  · rw [if_pos es, if_pos es.1, if_pos es.2]
    simp only [nmE, nI_1]
    have hT2 : TC t m tx (pS (pS σ2 18 (b2i true)) 17 (nI (p0 + 1))) := (hT1.s (by decide) _).s (by decide) _
    have hF2 : FrG g σ (pS (pS σ2 18 (b2i true)) 17 (nI (p0 + 1))) := (hF1.tr (FrG.s (Or.inr (Or.inl rfl)))).tr (FrG.s (Or.inl rfl))
    have hU2 : TM t m tx (pS τ2 9 (nI (p0 + 1))) := hU1.s (by decide) (by decide) _
    have hG2 : FrR τ (pS τ2 9 (nI (p0 + 1))) := hG1.tr (FrR.s (by decide))
    have hgd2 : gS (pS (pS σ2 18 (b2i true)) 17 (nI (p0 + 1))) 18 = b2i true := (gS_ne _ _ (by decide)).trans (gS_same _ _ _)
    have hp2 : gS (pS (pS σ2 18 (b2i true)) 17 (nI (p0 + 1))) 17 = nI (p0 + 1) := gS_same _ _ _
    have hq2 : gS (pS τ2 9 (nI (p0 + 1))) 9 = nI (p0 + 1) := gS_same _ _ _
    have h142 : gS (pS τ2 9 (nI (p0 + 1))) 14 = 0 := (gS_ne _ _ (by decide)).trans h141
    generalize pS (pS σ2 18 (b2i true)) 17 (nI (p0 + 1)) = σ3 at hT2 hF2 hgd2 hp2 ⊢
    generalize pS τ2 9 (nI (p0 + 1)) = τ3 at hU2 hG2 hq2 h142 ⊢
    rw [figure_C hT2 hp2 (by omega) hgd2, bnd2S, figure_M hU2 hq2 (by omega), bnd2S]
    cases ef : fgB m tx 1 (p0 + 1)
    · simp only [Bool.false_eq_true, if_false, Nat.add_zero, gS_same]
      rw [if_neg (show ¬ (0 : Int32) ≤ -1 by decide), bnd2S, bfF]
      have hT3 : TC t m tx (pS (pS σ3 18 (b2i false)) 17 (nI (p0 + 1))) := (hT2.s (by decide) _).s (by decide) _
      obtain ⟨r2, e2⟩ := two_C0 hT3 (gS_same _ _ _) (by omega) (by rw [gS_ne _ _ (by decide), gS_same]; rfl)
      rw [e2, bnd2S]
      obtain ⟨σ', a1, a2, a3⟩ := bad _ (p0 + 1) 0 r2 hT3 ((hF2.tr (FrG.s (Or.inr (Or.inl rfl)))).tr (FrG.s (Or.inl rfl))) (gS_same _ _ _) (by omega) (by rw [gS_ne _ _ (by decide), gS_same]; rfl)
      rw [a1, gS_ne _ _ (by decide), gS_same]
      exact ⟨_, _, _, rfl, rfl, a2, a3, (hG2.tr (FrR.s (by decide))).tr (FrR.s (by decide)), fun z => absurd z (nI9 (by omega))⟩
    · obtain ⟨f1, f2, f3⟩ := fg_dig (a := 1) (by decide) ef
      simp only [if_true, f2, gS_same]
      rw [if_pos (nI_pos' (by omega))]
      have hT3 : TC t m tx (pS (pS σ3 18 (b2i true)) 17 (nI (p0 + 1 + 1))) := (hT2.s (by decide) _).s (by decide) _
      have hU3 : TM t m tx (pS (pS τ3 9 (nI (p0 + 1 + 1))) 12 (nI (dg9 tx (p0 + 1)))) := (hU2.s (by decide) (by decide) _).s (by decide) (by decide) _
      have hG3 : FrR τ (pS (pS τ3 9 (nI (p0 + 1 + 1))) 12 (nI (dg9 tx (p0 + 1)))) := (hG2.tr (FrR.s (by decide))).tr (FrR.s (by decide))
      have hle := twP_le (tx := tx) (m := m) (p := p0 + 1 + 1) (by omega)
      obtain ⟨r2, e2, v2⟩ := two_C hT3 (gS_same _ _ _) (by omega) (by rw [gS_ne _ _ (by decide), gS_same])
      rw [e2, bnd2S, two_M hU3 (by rw [gS_ne _ _ (by decide), gS_same]) (by omega), bnd2S]
      have hT4 : TC t m tx (pS (pS (pS (pS σ3 18 (b2i true)) 17 (nI (p0 + 1 + 1))) 18 (b2i (twO m tx (p0 + 1 + 1)))) 17 (nI (twP m tx (p0 + 1 + 1)))) := (hT3.s (by decide) _).s (by decide) _
      have hF4 : FrG g σ (pS (pS (pS (pS σ3 18 (b2i true)) 17 (nI (p0 + 1 + 1))) 18 (b2i (twO m tx (p0 + 1 + 1)))) 17 (nI (twP m tx (p0 + 1 + 1)))) := (((hF2.tr (FrG.s (Or.inr (Or.inl rfl)))).tr (FrG.s (Or.inl rfl))).tr (FrG.s (Or.inr (Or.inl rfl)))).tr (FrG.s (Or.inl rfl))
      have hgd4 : gS (pS (pS (pS (pS σ3 18 (b2i true)) 17 (nI (p0 + 1 + 1))) 18 (b2i (twO m tx (p0 + 1 + 1)))) 17 (nI (twP m tx (p0 + 1 + 1)))) 18 = b2i (twO m tx (p0 + 1 + 1)) := (gS_ne _ _ (by decide)).trans (gS_same _ _ _)
      have hp4 : gS (pS (pS (pS (pS σ3 18 (b2i true)) 17 (nI (p0 + 1 + 1))) 18 (b2i (twO m tx (p0 + 1 + 1)))) 17 (nI (twP m tx (p0 + 1 + 1)))) 17 = nI (twP m tx (p0 + 1 + 1)) := gS_same _ _ _
      generalize pS (pS (pS (pS σ3 18 (b2i true)) 17 (nI (p0 + 1 + 1))) 18 (b2i (twO m tx (p0 + 1 + 1)))) 17 (nI (twP m tx (p0 + 1 + 1))) = σ4 at hT4 hF4 hgd4 hp4 ⊢
      cases eo : twO m tx (p0 + 1 + 1)
      · rw [eo] at hgd4
        simp only [Bool.false_eq_true, if_false, gS_same]
        rw [if_pos (show (-1 : Int32) < 0 by decide), bnd2S, bfF]
        obtain ⟨σ', a1, a2, a3⟩ := bad _ (twP m tx (p0 + 1 + 1)) (nI (dg9 tx (p0 + 1))) r2 hT4 hF4 hp4 hle hgd4
        rw [a1, gS_ne _ _ (by decide), gS_same]
        exact ⟨_, _, _, rfl, rfl, a2, a3, (hG3.tr (FrR.s (by decide))).tr (FrR.s (by decide)), fun z => absurd z (nI9 (by omega))⟩
      · rw [eo] at hgd4
        obtain ⟨d1, d2⟩ := tw_lt eo
        simp only [if_true, gS_same]
        rw [if_neg (nI_pos (by omega)), bnd2S, bfT, v2 eo]
        obtain ⟨σ5, b1, b2, b3, b4, b5, b6⟩ := begin_C (σ := σ4) hg (nI (dg9 tx (p0 + 1))) (nI (twV tx (p0 + 1 + 1)))
        have hU4 : TM t m tx (pS (pS (pS (pS τ3 9 (nI (p0 + 1 + 1))) 12 (nI (dg9 tx (p0 + 1)))) 9 (nI (twP m tx (p0 + 1 + 1)))) 13 (nI (twV tx (p0 + 1 + 1)))) := (hU3.s (by decide) (by decide) _).s (by decide) (by decide) _
        rw [b1, bndS, skip_M hU4 (by rw [gS_ne _ _ (by decide), gS_same]) hle, bndS]
        obtain ⟨r, σ', τ', i1, i2, i3, i4, i5, i6⟩ := loop_R (t := t) (m := m) (tx := tx) hg 6 0 FU FU (twP m tx (p0 + 1 + 1)) (fun k => if k = 36 then nI (dg9 tx (p0 + 1)) else nI (twV tx (p0 + 1 + 1))) σ5 _ (by decide) (lt_FU (by decide)) (lt_FU (by decide)) (hT4.fr hg b2 b5) (hU4.s (by decide) (by decide) (nI (sk m tx 60 (twP m tx (p0 + 1 + 1))))) (b3.trans hp4) hle (gS_same _ _ _) (b4.trans hgd4) (b6 _ rfl rfl)
          ⟨by rw [gS_ne _ _ (by decide), gS_ne _ _ (by decide), gS_ne _ _ (by decide), gS_ne _ _ (by decide), gS_ne _ _ (by decide), h142]; rfl, by rw [gS_ne _ _ (by decide), gS_same]; rfl, by rw [gS_ne _ _ (by decide), gS_ne _ _ (by decide), gS_ne _ _ (by decide), gS_same]; rfl, fun i hi => absurd hi (by omega)⟩
          (fun i hi => absurd hi (by omega))
          (by rcases (show dg9 tx (p0 + 1) = 0 ∨ dg9 tx (p0 + 1) = 1 by omega) with e | e
              · left; show nI (dg9 tx (p0 + 1)) = 0; rw [e]; rfl
              · right; show nI (dg9 tx (p0 + 1)) = 1; rw [e]; rfl)
          ⟨twV tx (p0 + 1 + 1), d1, rfl⟩
        exact ⟨r, σ', τ', i1, i2, (hF4.tr b2).tr i3, (i4.trans b5).trans hT4.2.2.1, (((hG3.tr (FrR.s (by decide))).tr (FrR.s (by decide))).tr (FrR.s (by decide))).tr i5, i6⟩
  · rw [if_neg es]
    have hc : ¬ (if p0 < m then tx p0 else -1000) = (115 : Int32) := by
      by_cases e : p0 < m
      · rw [if_pos e]; exact fun z => es ⟨e, z⟩
      · rw [if_neg e]; decide
    rw [if_neg hc, bnd2S, bfF]
    have hT2 : TC t m tx (pS (pS σ2 18 (b2i false)) 17 (nI p0)) := (hT1.s (by decide) _).s (by decide) _
    have hg2 : gS (pS (pS σ2 18 (b2i false)) 17 (nI p0)) 18 = 0 := by rw [gS_ne _ _ (by decide), gS_same]; rfl
    rw [figure_C0 hT2 (gS_same _ _ _) hp0 hg2, bnd2S]
    obtain ⟨r2, e2⟩ := two_C0 hT2 (gS_same _ _ _) hp0 hg2
    rw [e2, bnd2S]
    obtain ⟨σ', a1, a2, a3⟩ := bad _ p0 0 r2 hT2 ((hF1.tr (FrG.s (Or.inr (Or.inl rfl)))).tr (FrG.s (Or.inl rfl))) (gS_same _ _ _) hp0 hg2
    rw [a1, hq1]
    exact ⟨_, _, _, rfl, rfl, a2, a3, hG1, fun z => absurd z (nI9 (by omega))⟩
end RL
