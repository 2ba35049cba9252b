/-- the draft with h houses -/
def DS (g h : Nat) (w : Nat → Int32) (σ : Sg) : Prop := h ≤ 6 ∧ gS σ (16 * g + 7) = nI h ∧ gS σ (16 * g + 8) = w 35 ∧ gS σ (16 * g + 9) = w 36 ∧ gS σ (16 * stI g 0 + 1) = nI h ∧ gS σ (16 * stI g 1 + 1) = nI h ∧ gS σ (16 * stI g 2 + 1) = nI h ∧ ∀ i, i < h → gA σ (stI g 0) i = w (23 + i) ∧ gA σ (stI g 1) i = w (29 + i) ∧ gA σ (stI g 2) i = w (37 + i)
def MS (h : Nat) (w : Nat → Int32) (τ : Sg) : Prop := gS τ 14 = nI h ∧ gS τ 13 = w 35 ∧ gS τ 12 = w 36 ∧ ∀ i, i < h → gA τ 6 (3 * i) = w (23 + i) ∧ gA τ 6 (3 * i + 1) = w (37 + i) ∧ gA τ 6 (3 * i + 2) = w (29 + i)
def FrG (g : Nat) (σ σ' : Sg) : Prop := (∀ k, k ≠ 17 → k ≠ 18 → ¬ (16 * g + 7 ≤ k ∧ k ≤ 16 * g + 9) → k ≠ 16 * stI g 0 + 1 → k ≠ 16 * stI g 1 + 1 → k ≠ 16 * stI g 2 + 1 → gS σ' k = gS σ k) ∧ (∀ a, a ≠ stI g 0 → a ≠ stI g 1 → a ≠ stI g 2 → gA σ' a = gA σ a) ∧ (∀ k, gL σ' k = gL σ k) ∧ ∀ k, k ≠ 2 → gR σ' k = gR σ k
def FrR (τ τ' : Sg) : Prop := (∀ k, ¬ (9 ≤ k ∧ k ≤ 14) → gS τ' k = gS τ k) ∧ (∀ a, a ≠ 6 → gA τ' a = gA τ a) ∧ ∀ k, gL τ' k = gL τ k
theorem FrG.rf (g : Nat) (σ : Sg) : FrG g σ σ := ⟨fun _ _ _ _ _ _ _ => rfl, fun _ _ _ _ => rfl, fun _ => rfl, fun _ _ => rfl⟩
theorem FrG.tr {g : Nat} {a b c : Sg} (h : FrG g a b) (f : FrG g b c) : FrG g a c := ⟨fun k h1 h2 h3 h4 h5 h6 => (f.1 k h1 h2 h3 h4 h5 h6).trans (h.1 k h1 h2 h3 h4 h5 h6), fun a h1 h2 h3 => (f.2.1 a h1 h2 h3).trans (h.2.1 a h1 h2 h3), fun k => (f.2.2.1 k).trans (h.2.2.1 k), fun k hk => (f.2.2.2 k hk).trans (h.2.2.2 k hk)⟩
theorem FrG.s {g k : Nat} {σ : Sg} {x : Int32} (hk : k = 17 ∨ k = 18 ∨ (16 * g + 7 ≤ k ∧ k ≤ 16 * g + 9) ∨ k = 16 * stI g 0 + 1 ∨ k = 16 * stI g 1 + 1 ∨ k = 16 * stI g 2 + 1) : FrG g σ (pS σ k x) := ⟨fun j h1 h2 h3 h4 h5 h6 => gS_ne _ _ (by intro e; subst e; omega), fun _ _ _ _ => rfl, fun _ => rfl, fun _ _ => rfl⟩
theorem FrG.a {g a : Nat} {σ : Sg} {f : Nat → Int32} (ha : a = stI g 0 ∨ a = stI g 1 ∨ a = stI g 2) : FrG g σ (pA σ a f) := ⟨fun _ _ _ _ _ _ _ => rfl, fun j h1 h2 h3 => gA_ne _ _ (by intro e; subst e; omega), fun _ => rfl, fun _ _ => rfl⟩
theorem FrR.rf (τ : Sg) : FrR τ τ := ⟨fun _ _ => rfl, fun _ _ => rfl, fun _ => rfl⟩
theorem FrR.tr {a b c : Sg} (h : FrR a b) (f : FrR b c) : FrR a c := ⟨fun k h1 => (f.1 k h1).trans (h.1 k h1), fun a h1 => (f.2.1 a h1).trans (h.2.1 a h1), fun k => (f.2.2 k).trans (h.2.2 k)⟩
theorem FrR.s {k : Nat} {τ : Sg} {x : Int32} (hk : 9 ≤ k ∧ k ≤ 14) : FrR τ (pS τ k x) := ⟨fun j h1 => gS_ne _ _ (by intro e; subst e; exact h1 hk), fun _ _ => rfl, fun _ => rfl⟩
theorem FrR.a {τ : Sg} {f : Nat → Int32} : FrR τ (pA τ 6 f) := ⟨fun _ _ => rfl, fun j h1 => gA_ne _ _ h1, fun _ => rfl⟩
section TR
variable {t m g h : Nat} {tx w : Nat → Int32} {σ τ : Sg}
theorem TC.fr {σ' : Sg} (hg : isS g) (hT : TC t m tx σ) (f : FrG g σ σ') (h2 : gR σ' 2 = gR σ 2) : TC t m tx σ' := by
  unfold isS at hg
  have e0 : stI g 0 = 7 * g - 2 + 0 := rfl
  have e1 : stI g 1 = 7 * g - 2 + 1 := rfl
  have e2 : stI g 2 = 7 * g - 2 + 2 := rfl
  obtain ⟨a, b, c, d, e⟩ := hT
  refine ⟨a, b, h2.trans c, (f.1 _ (by omega) (by omega) (by omega) (by omega) (by omega) (by omega)).trans d, fun i hi => ?_⟩
  rw [f.2.1 _ (by omega) (by omega) (by omega)]
  exact e i hi
theorem DS.s (hg : isS g) (hD : DS g h w σ) {k : Nat} (hk : k = 17 ∨ k = 18) (x : Int32) : DS g h w (pS σ k x) := by
  unfold isS at hg
  have e0 : stI g 0 = 7 * g - 2 + 0 := rfl
  have e1 : stI g 1 = 7 * g - 2 + 1 := rfl
  have e2 : stI g 2 = 7 * g - 2 + 2 := rfl
  obtain ⟨a, b, c, d, e, f, i, j⟩ := hD
  exact ⟨a, (gS_ne _ _ (by omega)).trans b, (gS_ne _ _ (by omega)).trans c, (gS_ne _ _ (by omega)).trans d, (gS_ne _ _ (by omega)).trans e, (gS_ne _ _ (by omega)).trans f, (gS_ne _ _ (by omega)).trans i, j⟩
theorem MS.s (hM : MS h w τ) (x : Int32) : MS h w (pS τ 9 x) := ⟨(gS_ne _ _ (by decide)).trans hM.1, (gS_ne _ _ (by decide)).trans hM.2.1, (gS_ne _ _ (by decide)).trans hM.2.2.1, hM.2.2.2⟩
/-- a house more -/
def w3 (w : Nat → Int32) (h k d x : Nat) : Nat → Int32 := va_up (va_up (va_up w (23 + h) (nI k)) (37 + h) (nI d)) (29 + h) (nI x)
theorem w3_k (w : Nat → Int32) {h : Nat} (k d x : Nat) {i : Nat} (hh : h < 6) (hi : i < h + 1) : w3 w h k d x (23 + i) = if i = h then nI k else w (23 + i) := by
  unfold w3
  rw [va_up_ne _ _ (by omega), va_up_ne _ _ (by omega)]
  by_cases e : i = h
  · subst e; rw [va_up_self, if_pos rfl]
  · rw [va_up_ne _ _ (by omega), if_neg e]
theorem w3_d (w : Nat → Int32) {h : Nat} (k d x : Nat) {i : Nat} (hh : h < 6) (hi : i < h + 1) : w3 w h k d x (37 + i) = if i = h then nI d else w (37 + i) := by
  unfold w3
  rw [va_up_ne _ _ (by omega)]
  by_cases e : i = h
  · subst e; rw [va_up_self, if_pos rfl]
  · rw [va_up_ne _ _ (by omega), va_up_ne _ _ (by omega), if_neg e]
theorem w3_x (w : Nat → Int32) {h : Nat} (k d x : Nat) {i : Nat} (hh : h < 6) (hi : i < h + 1) : w3 w h k d x (29 + i) = if i = h then nI x else w (29 + i) := by
  unfold w3
  by_cases e : i = h
  · subst e; rw [va_up_self, if_pos rfl]
  · rw [va_up_ne _ _ (by omega), va_up_ne _ _ (by omega), va_up_ne _ _ (by omega), if_neg e]
theorem build_C (hg : isS g) (hD : DS g h w σ) (hh : h < 6) (k d x : Nat) : ∃ σ', f_X4_build g (nI k) (nI d) (nI x) σ = some σ' ∧ DS g (h + 1) (w3 w h k d x) σ' ∧ FrG g σ σ' ∧ gS σ' 17 = gS σ 17 ∧ gS σ' 18 = gS σ 18 ∧ gR σ' 2 = gR σ 2 := by
  have hs := hg
  unfold isS at hs
  have e0 : stI g 0 = 7 * g - 2 + 0 := rfl
  have e1 : stI g 1 = 7 * g - 2 + 1 := rfl
  have e2 : stI g 2 = 7 * g - 2 + 2 := rfl
  obtain ⟨a, b, c, d', e, f, i, j⟩ := hD
  unfold f_X4_build
  rw [X0_add_i e (by rw [cLen_st hg (by decide)]; exact hh), bndS,
    X0_add_i (m := h) (by rw [gS_pA, gS_ne _ _ (by omega)]; exact i) (by rw [cLen_st hg (by decide)]; exact hh), bndS,
    X0_add_i (m := h) (by rw [gS_pA, gS_ne _ _ (by omega), gS_pA, gS_ne _ _ (by omega)]; exact f) (by rw [cLen_st hg (by decide)]; exact hh), bndS, nmE]
  refine ⟨_, rfl, ⟨hh, ?_, ?_, ?_, ?_, ?_, ?_, fun i' hi' => ?_⟩, ?_, ?_, ?_, rfl⟩
  · rw [gS_same, gS_pA, gS_ne _ _ (by omega), gS_pA, gS_ne _ _ (by omega), gS_pA, gS_same]
  · rw [gS_ne _ _ (by omega), gS_pA, gS_ne _ _ (by omega), gS_pA, gS_ne _ _ (by omega), gS_pA, gS_ne _ _ (by omega)]
    unfold w3
    rw [va_up_ne _ _ (by omega), va_up_ne _ _ (by omega), va_up_ne _ _ (by omega)]
    exact c
  · rw [gS_ne _ _ (by omega), gS_pA, gS_ne _ _ (by omega), gS_pA, gS_ne _ _ (by omega), gS_pA, gS_ne _ _ (by omega)]
    unfold w3
    rw [va_up_ne _ _ (by omega), va_up_ne _ _ (by omega), va_up_ne _ _ (by omega)]
    exact d'
  · rw [gS_ne _ _ (by omega), gS_pA, gS_ne _ _ (by omega), gS_pA, gS_ne _ _ (by omega), gS_pA, gS_same]
  · rw [gS_ne _ _ (by omega), gS_pA, gS_same]
  · rw [gS_ne _ _ (by omega), gS_pA, gS_ne _ _ (by omega), gS_pA, gS_same]
  · rw [w3_k w k d x hh hi', w3_d w k d x hh hi', w3_x w k d x hh hi']
    refine ⟨?_, ?_, ?_⟩
    · rw [gA_pS, gA_ne _ _ (by omega), gA_pS, gA_ne _ _ (by omega), gA_pS, gA_same]
      unfold upd
      by_cases z : i' = h
      · rw [if_pos z, if_pos z]
      · rw [if_neg z, if_neg z]; exact (j i' (by omega)).1
    · rw [gA_pS, gA_same, gA_ne _ _ (by omega), gA_pS, gA_ne _ _ (by omega)]
      unfold upd
      by_cases z : i' = h
      · rw [if_pos z, if_pos z]
      · rw [if_neg z, if_neg z]; exact (j i' (by omega)).2.1
    · rw [gA_pS, gA_ne _ _ (by omega), gA_pS, gA_same, gA_ne _ _ (by omega)]
      unfold upd
      by_cases z : i' = h
      · rw [if_pos z, if_pos z]
      · rw [if_neg z, if_neg z]; exact (j i' (by omega)).2.2
  · exact ((((FrG.s (by omega)).tr (FrG.a (Or.inl rfl))).tr ((FrG.s (by omega)).tr (FrG.a (Or.inr (Or.inr rfl))))).tr ((FrG.s (by omega)).tr (FrG.a (Or.inr (Or.inl rfl))))).tr (FrG.s (by omega))
  · rw [gS_ne _ _ (by omega), gS_pA, gS_ne _ _ (by omega), gS_pA, gS_ne _ _ (by omega), gS_pA, gS_ne _ _ (by omega)]
  · rw [gS_ne _ _ (by omega), gS_pA, gS_ne _ _ (by omega), gS_pA, gS_ne _ _ (by omega), gS_pA, gS_ne _ _ (by omega)]
end TR
