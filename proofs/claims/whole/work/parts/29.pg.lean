theorem letters (c : Int32) : (∃ k, k < 6 ∧ f_X1_byLetter c = some (nI k) ∧ f_X6_sortBy c = some (nI k)) ∨ (f_X1_byLetter c = some (-9) ∧ f_X6_sortBy c = some (-1)) := by
  by_cases e1 : c = 100
  · subst e1; exact Or.inl ⟨3, by decide, rfl, rfl⟩
  by_cases e2 : c = 104
  · subst e2; exact Or.inl ⟨0, by decide, rfl, rfl⟩
  by_cases e3 : c = 105
  · subst e3; exact Or.inl ⟨4, by decide, rfl, rfl⟩
  by_cases e4 : c = 109
  · subst e4; exact Or.inl ⟨5, by decide, rfl, rfl⟩
  by_cases e5 : c = 114
  · subst e5; exact Or.inl ⟨2, by decide, rfl, rfl⟩
  by_cases e6 : c = 118
  · subst e6; exact Or.inl ⟨1, by decide, rfl, rfl⟩
  · refine Or.inr ⟨?_, ?_⟩
    · unfold f_X1_byLetter
      rw [if_neg e1, if_neg e2, if_neg e3, if_neg e4, if_neg e5, if_neg e6]
    · unfold f_X6_sortBy
      rw [if_neg e2, if_neg e6, if_neg e5, if_neg e1, if_neg e3, if_neg e4]
/-- the draft with h houses -/
def DS (g h : Nat) (w : Nat → Int32) (σ : Sg) : Prop := h ≤ 6 ∧ gS σ (16 * g + 7) = nI h ∧ gS σ (16 * g + 8) = w 35 ∧ gS σ (16 * g + 9) = w 36 ∧ gS σ (16 * stI g 0 + 1) = nI h ∧ gS σ (16 * stI g 1 + 1) = nI h ∧ gS σ (16 * stI g 2 + 1) = nI h ∧ ∀ i, i < h → gA σ (stI g 0) i = w (23 + i) ∧ gA σ (stI g 1) i = w (29 + i) ∧ gA σ (stI g 2) i = w (37 + i)
def MS (h : Nat) (w : Nat → Int32) (τ : Sg) : Prop := gS τ 14 = nI h ∧ gS τ 13 = w 35 ∧ gS τ 12 = w 36 ∧ ∀ i, i < h → gA τ 6 (3 * i) = w (23 + i) ∧ gA τ 6 (3 * i + 1) = w (37 + i) ∧ gA τ 6 (3 * i + 2) = w (29 + i)
def FrG (g : Nat) (σ σ' : Sg) : Prop := (∀ k, k ≠ 17 → k ≠ 18 → ¬ (16 * g + 7 ≤ k ∧ k ≤ 16 * g + 9) → k ≠ 16 * stI g 0 + 1 → k ≠ 16 * stI g 1 + 1 → k ≠ 16 * stI g 2 + 1 → gS σ' k = gS σ k) ∧ (∀ a, a ≠ stI g 0 → a ≠ stI g 1 → a ≠ stI g 2 → gA σ' a = gA σ a) ∧ (∀ k, gL σ' k = gL σ k) ∧ ∀ k, k ≠ 2 → gR σ' k = gR σ k
def FrR (τ τ' : Sg) : Prop := (∀ k, ¬ (9 ≤ k ∧ k ≤ 14) → gS τ' k = gS τ k) ∧ (∀ a, a ≠ 6 → gA τ' a = gA τ a) ∧ ∀ k, gL τ' k = gL τ k
theorem FrG.rf (g : Nat) (σ : Sg) : FrG g σ σ := ⟨fun _ _ _ _ _ _ _ => rfl, fun _ _ _ _ => rfl, fun _ => rfl, fun _ _ => rfl⟩
theorem FrG.tr {g : Nat} {a b c : Sg} (h : FrG g a b) (f : FrG g b c) : FrG g a c := ⟨fun k h1 h2 h3 h4 h5 h6 => (f.1 k h1 h2 h3 h4 h5 h6).trans (h.1 k h1 h2 h3 h4 h5 h6), fun a h1 h2 h3 => (f.2.1 a h1 h2 h3).trans (h.2.1 a h1 h2 h3), fun k => (f.2.2.1 k).trans (h.2.2.1 k), fun k hk => (f.2.2.2 k hk).trans (h.2.2.2 k hk)⟩
theorem FrG.s {g k : Nat} {σ : Sg} {x : Int32} (hk : k = 17 ∨ k = 18 ∨ (16 * g + 7 ≤ k ∧ k ≤ 16 * g + 9) ∨ k = 16 * stI g 0 + 1 ∨ k = 16 * stI g 1 + 1 ∨ k = 16 * stI g 2 + 1) : FrG g σ (pS σ k x) := ⟨fun j h1 h2 h3 h4 h5 h6 => gS_ne _ _ (by intro e; subst e; omega), fun _ _ _ _ => rfl, fun _ => rfl, fun _ _ => rfl⟩
theorem FrG.a {g a : Nat} {σ : Sg} {f : Nat → Int32} (ha : a = stI g 0 ∨ a = stI g 1 ∨ a = stI g 2) : FrG g σ (pA σ a f) := ⟨fun _ _ _ _ _ _ _ => rfl, fun j h1 h2 h3 => gA_ne _ _ (by intro e; subst e; omega), fun _ => rfl, fun _ _ => rfl⟩
theorem FrR.rf (τ : Sg) : FrR τ τ := ⟨fun _ _ => rfl, fun _ _ => rfl, fun _ => rfl⟩
theorem FrR.tr {a b c : Sg} (h : FrR a b) (f : FrR b c) : FrR a c := ⟨fun k h1 => (f.1 k h1).trans (h.1 k h1), fun a h1 => (f.2.1 a h1).trans (h.2.1 a h1), fun k => (f.2.2 k).trans (h.2.2 k)⟩
theorem FrR.s {k : Nat} {τ : Sg} {x : Int32} (hk : 9 ≤ k ∧ k ≤ 14) : FrR τ (pS τ k x) := ⟨fun j h1 => gS_ne _ _ (by intro e; subst e; exact h1 hk), fun _ _ => rfl, fun _ => rfl⟩
theorem FrR.a {τ : Sg} {f : Nat → Int32} : FrR τ (pA τ 6 f) := ⟨fun _ _ => rfl, fun j h1 => gA_ne _ _ h1, fun _ => rfl⟩
section TR
variable {t m g h : Nat} {tx w : Nat → Int32} {σ τ : Sg}
theorem TC.fr {σ' : Sg} (hg : isS g) (hT : TC t m tx σ) (f : FrG g σ σ') (h2 : gR σ' 2 = gR σ 2) : TC t m tx σ' := by
  unfold isS at hg
  have e0 : stI g 0 = 7 * g - 2 + 0 := rfl
  have e1 : stI g 1 = 7 * g - 2 + 1 := rfl
  have e2 : stI g 2 = 7 * g - 2 + 2 := rfl
  obtain ⟨a, b, c, d, e⟩ := hT
  refine ⟨a, b, h2.trans c, (f.1 _ (by omega) (by omega) (by omega) (by omega) (by omega) (by omega)).trans d, fun i hi => ?_⟩
  rw [f.2.1 _ (by omega) (by omega) (by omega)]
  exact e i hi
theorem DS.s (hg : isS g) (hD : DS g h w σ) {k : Nat} (hk : k = 17 ∨ k = 18) (x : Int32) : DS g h w (pS σ k x) := by
  unfold isS at hg
  have e0 : stI g 0 = 7 * g - 2 + 0 := rfl
  have e1 : stI g 1 = 7 * g - 2 + 1 := rfl
  have e2 : stI g 2 = 7 * g - 2 + 2 := rfl
  obtain ⟨a, b, c, d, e, f, i, j⟩ := hD
  exact ⟨a, (gS_ne _ _ (by omega)).trans b, (gS_ne _ _ (by omega)).trans c, (gS_ne _ _ (by omega)).trans d, (gS_ne _ _ (by omega)).trans e, (gS_ne _ _ (by omega)).trans f, (gS_ne _ _ (by omega)).trans i, j⟩
theorem MS.s (hM : MS h w τ) (x : Int32) : MS h w (pS τ 9 x) := ⟨(gS_ne _ _ (by decide)).trans hM.1, (gS_ne _ _ (by decide)).trans hM.2.1, (gS_ne _ _ (by decide)).trans hM.2.2.1, hM.2.2.2⟩
/-- a house more -/
def w3 (w : Nat → Int32) (h k d x : Nat) : Nat → Int32 := va_up (va_up (va_up w (23 + h) (nI k)) (37 + h) (nI d)) (29 + h) (nI x)
theorem w3_k (w : Nat → Int32) {h : Nat} (k d x : Nat) {i : Nat} (hh : h < 6) (hi : i < h + 1) : w3 w h k d x (23 + i) = if i = h then nI k else w (23 + i) := by
  unfold w3
  rw [va_up_ne _ _ (by omega), va_up_ne _ _ (by omega)]
  by_cases e : i = h
  · subst e; rw [va_up_self, if_pos rfl]
  · rw [va_up_ne _ _ (by omega), if_neg e]
theorem w3_d (w : Nat → Int32) {h : Nat} (k d x : Nat) {i : Nat} (hh : h < 6) (hi : i < h + 1) : w3 w h k d x (37 + i) = if i = h then nI d else w (37 + i) := by
  unfold w3
  rw [va_up_ne _ _ (by omega)]
  by_cases e : i = h
  · subst e; rw [va_up_self, if_pos rfl]
  · rw [va_up_ne _ _ (by omega), va_up_ne _ _ (by omega), if_neg e]
theorem w3_x (w : Nat → Int32) {h : Nat} (k d x : Nat) {i : Nat} (hh : h < 6) (hi : i < h + 1) : w3 w h k d x (29 + i) = if i = h then nI x else w (29 + i) := by
  unfold w3
  by_cases e : i = h
  · subst e; rw [va_up_self, if_pos rfl]
  · rw [va_up_ne _ _ (by omega), va_up_ne _ _ (by omega), va_up_ne _ _ (by omega), if_neg e]
theorem build_C (hg : isS g) (hD : DS g h w σ) (hh : h < 6) (k d x : Nat) : ∃ σ', f_X4_build g (nI k) (nI d) (nI x) σ = some σ' ∧ DS g (h + 1) (w3 w h k d x) σ' ∧ FrG g σ σ' ∧ gS σ' 17 = gS σ 17 ∧ gS σ' 18 = gS σ 18 ∧ gR σ' 2 = gR σ 2 := by
  have hs := hg
  unfold isS at hs
  have e0 : stI g 0 = 7 * g - 2 + 0 := rfl
  have e1 : stI g 1 = 7 * g - 2 + 1 := rfl
  have e2 : stI g 2 = 7 * g - 2 + 2 := rfl
  obtain ⟨a, b, c, d', e, f, i, j⟩ := hD
  unfold f_X4_build
  rw [X0_add_i e (by rw [cLen_st hg (by decide)]; exact hh), bndS,
    X0_add_i (m := h) (by rw [gS_pA, gS_ne _ _ (by omega)]; exact i) (by rw [cLen_st hg (by decide)]; exact hh), bndS,
    X0_add_i (m := h) (by rw [gS_pA, gS_ne _ _ (by omega), gS_pA, gS_ne _ _ (by omega)]; exact f) (by rw [cLen_st hg (by decide)]; exact hh), bndS, nmE]
  refine ⟨_, rfl, ⟨hh, ?_, ?_, ?_, ?_, ?_, ?_, fun i' hi' => ?_⟩, ?_, ?_, ?_, rfl⟩
  · rw [gS_same, gS_pA, gS_ne _ _ (by omega), gS_pA, gS_ne _ _ (by omega), gS_pA, gS_same]
  · rw [gS_ne _ _ (by omega), gS_pA, gS_ne _ _ (by omega), gS_pA, gS_ne _ _ (by omega), gS_pA, gS_ne _ _ (by omega)]
    unfold w3
    rw [va_up_ne _ _ (by omega), va_up_ne _ _ (by omega), va_up_ne _ _ (by omega)]
    exact c
  · rw [gS_ne _ _ (by omega), gS_pA, gS_ne _ _ (by omega), gS_pA, gS_ne _ _ (by omega), gS_pA, gS_ne _ _ (by omega)]
    unfold w3
    rw [va_up_ne _ _ (by omega), va_up_ne _ _ (by omega), va_up_ne _ _ (by omega)]
    exact d'
  · rw [gS_ne _ _ (by omega), gS_pA, gS_ne _ _ (by omega), gS_pA, gS_ne _ _ (by omega), gS_pA, gS_same]
  · rw [gS_ne _ _ (by omega), gS_pA, gS_same]
  · rw [gS_ne _ _ (by omega), gS_pA, gS_ne _ _ (by omega), gS_pA, gS_same]
  · rw [w3_k w k d x hh hi', w3_d w k d x hh hi', w3_x w k d x hh hi']
    refine ⟨?_, ?_, ?_⟩
    · rw [gA_pS, gA_ne _ _ (by omega), gA_pS, gA_ne _ _ (by omega), gA_pS, gA_same]
      unfold upd
      by_cases z : i' = h
      · rw [if_pos z, if_pos z]
      · rw [if_neg z, if_neg z]; exact (j i' (by omega)).1
    · rw [gA_pS, gA_same, gA_ne _ _ (by omega), gA_pS, gA_ne _ _ (by omega)]
      unfold upd
      by_cases z : i' = h
      · rw [if_pos z, if_pos z]
      · rw [if_neg z, if_neg z]; exact (j i' (by omega)).2.1
    · rw [gA_pS, gA_ne _ _ (by omega), gA_pS, gA_same, gA_ne _ _ (by omega)]
      unfold upd
      by_cases z : i' = h
      · rw [if_pos z, if_pos z]
      · rw [if_neg z, if_neg z]; exact (j i' (by omega)).2.2
  · exact ((((FrG.s (by omega)).tr (FrG.a (Or.inl rfl))).tr ((FrG.s (by omega)).tr (FrG.a (Or.inr (Or.inr rfl))))).tr ((FrG.s (by omega)).tr (FrG.a (Or.inr (Or.inl rfl))))).tr (FrG.s (by omega))
  · rw [gS_ne _ _ (by omega), gS_pA, gS_ne _ _ (by omega), gS_pA, gS_ne _ _ (by omega), gS_pA, gS_ne _ _ (by omega)]
  · rw [gS_ne _ _ (by omega), gS_pA, gS_ne _ _ (by omega), gS_pA, gS_ne _ _ (by omega), gS_pA, gS_ne _ _ (by omega)]
theorem house_C0 (hT : TC t m tx σ) {p : Nat} (hp : gS σ 17 = nI p) (hpm : p ≤ m) (hgd : gS σ 18 = 0) : f_X2_readHouse g σ = some σ := by
  unfold f_X2_readHouse
  rw [sign_v hT hp hpm, bndS]
  have e1 : pS σ 18 (b2i false) = σ := by rw [show b2i false = 0 from rfl, ← hgd, pS_self]
  have e2 : pS σ 17 (gS σ 17 + b2i false) = σ := by rw [show b2i false = 0 from rfl, Int32.add_zero, pS_self]
  obtain ⟨r, hr⟩ := two_C0 hT hp hpm hgd
  rcases letters (if p < m then tx p else 0) with ⟨k, hk, k1, k2⟩ | ⟨k1, k2⟩
  · rw [k1, bndS]
    simp only [nmE, hgd, if_true, e1, e2, hr, bnd2S]
  · rw [k1, bndS]
    simp only [nmE, hgd, if_true, e1, e2, hr, bnd2S]
/-- a house read on both sides -/
theorem item_R (hg : isS g) (hT : TC t m tx σ) (hU : TM t m tx τ) {p : Nat} (hp : gS σ 17 = nI p) (hq : gS τ 9 = nI p) (hpm : p < m) (hgd : gS σ 18 = b2i true) (hD : DS g h w σ) (hM : MS h w τ) (hh : h < 6) :
    (∃ (p' k d x : Nat) (σ' τ' : Sg), k < 6 ∧ d < 100 ∧ x < 100 ∧ p' ≤ m ∧ f_X2_readHouse g σ = some σ' ∧ f_X6_isHouseItem τ = some (true, τ') ∧ gS σ' 17 = nI p' ∧ gS τ' 9 = nI p' ∧ gS σ' 18 = b2i true ∧ DS g (h + 1) (w3 w h k d x) σ' ∧ MS (h + 1) (w3 w h k d x) τ' ∧ FrG g σ σ' ∧ gR σ' 2 = gR σ 2 ∧ FrR τ τ' ∧ TM t m tx τ') ∨
    (∃ (p' : Nat) (σ' τ' : Sg), p' ≤ m ∧ f_X2_readHouse g σ = some σ' ∧ f_X6_isHouseItem τ = some (false, τ') ∧ gS σ' 17 = nI p' ∧ gS τ' 9 = nI p' ∧ gS σ' 18 = 0 ∧ FrG g σ σ' ∧ gR σ' 2 = gR σ 2 ∧ FrR τ τ') := by
  have hm := hT.2.1
  have f17 : ∀ (σ : Sg) x y, FrG g σ (pS (pS σ 18 x) 17 y) := fun σ x y => (FrG.s (Or.inr (Or.inl rfl))).tr (FrG.s (Or.inl rfl))
  unfold f_X2_readHouse f_X6_isHouseItem
  rw [sign_v hT hp (by omega), bndS, hq, letter_v hU (by omega), bndS, if_pos hpm, if_pos hpm]
  have z6 : ¬ gS τ 14 = (6 : Int32) := by
    rw [hM.1]
    intro z
    have := (nI_eq (b := 6) (by omega) (by decide)).mp z
    omega
  have zt : ¬ b2i true = 0 := by decide
  rcases letters (tx p) with ⟨k, hk, k1, k2⟩ | ⟨k1, k2⟩
  · rw [k1, k2, bndS, bndS, if_neg (nI_pos (by omega)), if_neg z6]
    simp only [nmE, hgd, zt, if_false, nI9 (show k < 2 ^ 31 by omega)]
    simp only [gS_pS, hp, if_true, show (17 = 18) = False from eq_false (by decide), show (18 = 17) = False from eq_false (by decide), if_false, zt]
    rw [show nI p + b2i true = nI (p + 1) from nI_1 p, nI_1]
    have hT1 : TC t m tx (pS (pS σ 18 (b2i true)) 17 (nI (p + 1))) := (hT.s (by decide) _).s (by decide) _
    have hU1 : TM t m tx (pS τ 9 (nI (p + 1))) := hU.s (by decide) (by decide) _
    obtain ⟨r1, e1, v1⟩ := two_C hT1 (gS_same _ _ _) (by omega) (by rw [gS_ne _ _ (by decide), gS_same])
    rw [e1, bnd2S, two_M hU1 (gS_same _ _ _) (by omega), bnd2S]
    have hle1 := twP_le (tx := tx) (m := m) (p := p + 1) (by omega)
    rw [pS_comm _ (show 17 ≠ 18 by decide), pS_pS, pS_pS, pS_pS]
    have hT2 : ∀ b, TC t m tx (pS (pS σ 18 (b2i b)) 17 (nI (twP m tx (p + 1)))) := fun b => (hT.s (by decide) _).s (by decide) _
    have hU2 : TM t m tx (pS τ 9 (nI (twP m tx (p + 1)))) := hU.s (by decide) (by decide) _
    cases o1 : twO m tx (p + 1)
    · simp only [Bool.false_eq_true, if_false]
      rw [if_neg (show ¬ (0 : Int32) ≤ -1 by decide)]
      obtain ⟨r2, e2⟩ := two_C0 (hT2 false) (gS_same _ _ _) hle1 (by rw [gS_ne _ _ (by decide), gS_same]; rfl)
      rw [e2, bnd2S, if_pos (by rw [gS_ne _ _ (by decide), gS_same]; rfl)]
      exact Or.inr ⟨_, _, _, hle1, rfl, rfl, gS_same _ _ _, gS_same _ _ _, by rw [gS_ne _ _ (by decide), gS_same]; rfl, f17 _ _ _, rfl, FrR.s (by decide)⟩
    · obtain ⟨d1, d2⟩ := tw_lt o1
      rw [if_pos rfl, if_pos (nI_pos' (by omega)), v1 o1]
      obtain ⟨r2, e2, v2⟩ := two_C (hT2 true) (gS_same _ _ _) hle1 (by rw [gS_ne _ _ (by decide), gS_same])
      rw [e2, bnd2S, two_M hU2 (gS_same _ _ _) hle1, bnd2S]
      have hle2 := twP_le (tx := tx) (m := m) (p := twP m tx (p + 1)) hle1
      rw [pS_comm _ (show 17 ≠ 18 by decide), pS_pS, pS_pS, pS_pS]
      cases o2 : twO m tx (twP m tx (p + 1))
      · simp only [Bool.false_eq_true, if_false]
        rw [if_pos (by rw [gS_ne _ _ (by decide), gS_same]; rfl), if_neg (show ¬ (0 : Int32) ≤ -1 by decide)]
        exact Or.inr ⟨_, _, _, hle2, rfl, rfl, gS_same _ _ _, gS_same _ _ _, by rw [gS_ne _ _ (by decide), gS_same]; rfl, f17 _ _ _, rfl, FrR.s (by decide)⟩
      · obtain ⟨d3, d4⟩ := tw_lt o2
        rw [if_pos rfl, if_neg (by rw [gS_ne _ _ (by decide), gS_same]; decide), if_pos (nI_pos' (by omega)), v2 o2]
        obtain ⟨σ', b1, b2, b3, b4, b5, b6⟩ := build_C hg ((hD.s hg (Or.inr rfl) (b2i true)).s hg (Or.inl rfl) (nI (twP m tx (twP m tx (p + 1))))) hh k (twV tx (p + 1)) (twV tx (twP m tx (p + 1)))
        rw [b1, bndS]
        have hM2 := hM.s (nI (twP m tx (twP m tx (p + 1))))
        have hU3 : TM t m tx (pS τ 9 (nI (twP m tx (twP m tx (p + 1))))) := hU.s (by decide) (by decide) _
        generalize hτ : pS τ 9 (nI (twP m tx (twP m tx (p + 1)))) = τ2 at hM2 hU3 ⊢
        have h9 : gS τ2 9 = nI (twP m tx (twP m tx (p + 1))) := by rw [← hτ]; exact gS_same _ _ _
        have hF : FrR τ τ2 := by rw [← hτ]; exact FrR.s (by decide)
        have i0 : (3 : Int32) * nI h = nI (3 * h) := ml3 h
        simp only [gS_pA, hM2.1, i0, nI_1, show nI (3 * h) + (2 : Int32) = nI (3 * h + 2) from nI_add (3 * h) 2]
        rw [inB_nI (by rw [mL6]; omega) (by rw [mL6]; decide), ckT, inB_nI (by rw [mL6]; omega) (by rw [mL6]; decide), ckT, inB_nI (by rw [mL6]; omega) (by rw [mL6]; decide), ckT, nI_clamp (by omega), nI_clamp (by omega), nI_clamp (by omega)]
        refine Or.inl ⟨twP m tx (twP m tx (p + 1)), k, twV tx (p + 1), twV tx (twP m tx (p + 1)), σ', _, hk, d1, d3, hle2, rfl, rfl, b4.trans (gS_same _ _ _), ?_, b5.trans (by rw [gS_ne _ _ (by decide), gS_same]), b2, ⟨gS_same _ _ _, ?_, ?_, fun i hi => ?_⟩, (f17 _ _ _).tr b3, b6, (((hF.tr FrR.a).tr FrR.a).tr FrR.a).tr (FrR.s (by decide)), ?_⟩
        · rw [gS_ne _ _ (by decide)]; exact h9
        · rw [gS_ne _ _ (by decide)]
          unfold w3
          rw [va_up_ne _ _ (by omega), va_up_ne _ _ (by omega), va_up_ne _ _ (by omega)]
          exact hM2.2.1
        · rw [gS_ne _ _ (by decide)]
          unfold w3
          rw [va_up_ne _ _ (by omega), va_up_ne _ _ (by omega), va_up_ne _ _ (by omega)]
          exact hM2.2.2.1
        · rw [w3_k w k _ _ hh hi, w3_d w k _ _ hh hi, w3_x w k _ _ hh hi, gA_pS, gA_same, gA_same, gA_same]
          unfold upd
          by_cases z : i = h
          · subst z
            rw [if_pos rfl, if_pos rfl, if_pos rfl, if_neg (by omega), if_neg (by omega), if_pos rfl, if_neg (by omega), if_pos rfl, if_pos rfl]
            exact ⟨rfl, rfl, rfl⟩
          · rw [if_neg z, if_neg z, if_neg z, if_neg (by omega), if_neg (by omega), if_neg (by omega), if_neg (by omega), if_neg (by omega), if_neg (by omega), if_neg (by omega), if_neg (by omega), if_neg (by omega)]
            exact hM2.2.2.2 i (by omega)
        · obtain ⟨u1, u2, u3, u4, u5⟩ := hU3
          refine ⟨u1, u2, (gS_ne _ _ (by decide)).trans u3, (gS_ne _ _ (by decide)).trans u4, fun i hi => ?_⟩
          rw [gA_pS, gA_ne _ _ (by decide), gA_ne _ _ (by decide), gA_ne _ _ (by decide)]
          exact u5 i hi
  · rw [k1, k2, bndS, bndS, if_pos (by decide)]
    simp only [nmE, hgd, zt, if_false, if_true]
    simp only [gS_pS, hp, if_true, show (17 = 18) = False from eq_false (by decide), show (18 = 17) = False from eq_false (by decide), if_false, show b2i false = 0 from rfl, Int32.add_zero]
    have hT1 : TC t m tx (pS (pS σ 18 0) 17 (nI p)) := (hT.s (by decide) _).s (by decide) _
    obtain ⟨r1, e1⟩ := two_C0 hT1 (gS_same _ _ _) (by omega) (by rw [gS_ne _ _ (by decide), gS_same])
    rw [e1, bnd2S, e1, bnd2S, if_pos (by rw [gS_ne _ _ (by decide), gS_same])]
    exact Or.inr ⟨p, _, _, by omega, rfl, rfl, gS_same _ _ _, hq, by rw [gS_ne _ _ (by decide), gS_same], f17 _ _ _, rfl, FrR.rf τ⟩
end TR
