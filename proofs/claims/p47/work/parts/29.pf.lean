theorem pS_pS (σ : Sg) (k : Nat) (x y : Int32) : pS (pS σ k x) k y = pS σ k y := by
  unfold pS
  congr 1
  funext j
  simp only [va_up]
  split <;> rfl
theorem pS_comm (σ : Sg) {k l : Nat} (h : k ≠ l) (x y : Int32) : pS (pS σ k x) l y = pS (pS σ l y) k x := by
  unfold pS
  congr 1
  funext j
  simp only [va_up]
  by_cases e1 : j = k
  · subst e1
    rw [if_neg h, if_pos rfl, if_pos rfl]
  · rw [if_neg e1, if_neg e1]
/-- the text that the class reads, and the reference -/
def TC (t m : Nat) (tx : Nat → Int32) (σ : Sg) : Prop := t < 4 ∧ m ≤ 60 ∧ gR σ 2 = 11 + t ∧ gS σ (16 * (11 + t) + 1) = nI m ∧ ∀ i, i < m → gA σ (11 + t) i = tx i
def TM (t m : Nat) (tx : Nat → Int32) (τ : Sg) : Prop := t < 4 ∧ m ≤ 60 ∧ gS τ 10 = nI (60 * t) ∧ gS τ 11 = nI m ∧ ∀ i, i < m → gA τ 4 (60 * t + i) = tx i
section RD
variable {t m : Nat} {tx : Nat → Int32} {σ τ : Sg}
theorem TC.s (h : TC t m tx σ) {k : Nat} (hk : k < 81) (x : Int32) : TC t m tx (pS σ k x) := ⟨h.1, h.2.1, h.2.2.1, (gS_ne _ _ (by omega)).trans h.2.2.2.1, h.2.2.2.2⟩
theorem TM.s (h : TM t m tx τ) {k : Nat} (h1 : k ≠ 10) (h2 : k ≠ 11) (x : Int32) : TM t m tx (pS τ k x) := ⟨h.1, h.2.1, (gS_ne _ _ h1.symm).trans h.2.2.1, (gS_ne _ _ h2.symm).trans h.2.2.2.1, h.2.2.2.2⟩
theorem sign_v (h : TC t m tx σ) {p : Nat} (hp : gS σ 17 = nI p) (hpm : p ≤ m) : f_X2_sign σ = some (if p < m then tx p else 0) := by
  obtain ⟨h1, h2, h3, h4, h5⟩ := h
  unfold f_X2_sign txO
  rw [h3, if_neg (by omega), ocS, ocS, hp]
  by_cases e : p < m
  · rw [X0_get_i h4 (by rw [cLen_txt h1]; exact h2) e, bndS, if_pos e, h5 p e]
  · rw [X0_get_o (by rw [h4]; exact nI_le (by omega) (by omega)), bndS, if_neg e]
/-- behind the blanks -/
def sk (m : Nat) (tx : Nat → Int32) : Nat → Nat → Nat
  | 0, p => p
  | d + 1, p => if p < m ∧ tx p = 32 then sk m tx d (p + 1) else p
theorem sk_le : ∀ d p, p ≤ m → sk m tx d p ≤ m := by
  intro d
  induction d with
  | zero => intro p h; exact h
  | succ d ih =>
    intro p h
    unfold sk
    split
    · exact ih (p + 1) (by omega)
    · exact h
theorem sk_ge : ∀ d p, p ≤ sk m tx d p := by
  intro d
  induction d with
  | zero => intro p; exact Nat.le_refl _
  | succ d ih =>
    intro p
    unfold sk
    split
    · exact Nat.le_trans (Nat.le_succ p) (ih (p + 1))
    · exact Nat.le_refl _
theorem skip_C (h : TC t m tx σ) {p : Nat} (hp : gS σ 17 = nI p) (hpm : p ≤ m) : f_X2_skipBlanks σ = some (pS σ 17 (nI (sk m tx 60 p))) := by
  have hm := h.2.1
  unfold f_X2_skipBlanks
  suffices H : ∀ (d j N : Nat) (σ : Sg) (p : Nat), TC t m tx σ → gS σ 17 = nI p → p ≤ m → j + d = 60 → d < N → l_X2_skipBlanks_2 (fun σv => some σv) N (nI j) σ = some (pS σ 17 (nI (sk m tx d p))) from H 60 0 FU σ p h hp hpm rfl (lt_FU (by omega))
  intro d
  induction d with
  | zero =>
    intro j N σ p h hp hpm hj hN
    obtain ⟨N, rfl⟩ : ∃ k, N = k + 1 := ⟨N - 1, by omega⟩
    unfold l_X2_skipBlanks_2 sk
    rw [show (60 : Int32) = nI 60 from rfl, if_pos (nI_le (by omega) (by omega)), ← hp, pS_self]
  | succ d ih =>
    intro j N σ p h hp hpm hj hN
    obtain ⟨N, rfl⟩ : ∃ k, N = k + 1 := ⟨N - 1, by omega⟩
    unfold l_X2_skipBlanks_2 sk
    rw [show (60 : Int32) = nI 60 from rfl, if_neg (nI_ge (by omega) (by decide)), sign_v h hp hpm, bndS]
    by_cases e : p < m
    · rw [if_pos e]
      by_cases e2 : tx p = 32
      · rw [if_pos e2, if_pos ⟨e, e2⟩, nmE, nmE, hp, nI_1, nI_1, ih (j + 1) N _ (p + 1) (h.s (by decide) _) (gS_same _ _ _) (by omega) (by omega) (by omega), pS_pS]
      · rw [if_neg e2, if_neg (fun z => e2 z.2), ← hp, pS_self]
    · rw [if_neg e, if_neg (by decide), if_neg (fun z => e z.1), ← hp, pS_self]
/-- a figure up to a stands at p -/
def fgB (m : Nat) (tx : Nat → Int32) (a : Int32) (p : Nat) : Bool := decide (p < m) && inV (tx p - 48) 0 a
def dg9 (tx : Nat → Int32) (p : Nat) : Nat := (tx p - 48).toNatClampNeg
theorem fg_dig {a p : Nat} (ha : a < 2 ^ 31) (h : fgB m tx (nI a) p = true) : p < m ∧ tx p - 48 = nI (dg9 tx p) ∧ dg9 tx p ≤ a := by
  unfold fgB at h
  rw [Bool.and_eq_true, decide_eq_true_eq] at h
  refine ⟨h.1, ?_⟩
  obtain ⟨h1, h2⟩ := of_decide_eq_true h.2
  obtain ⟨k, hk, e⟩ := nI_of h1
  unfold dg9
  rw [e, nI_clamp hk]
  rw [e, nIlt ha hk] at h2
  exact ⟨rfl, by omega⟩
theorem figure_C (h : TC t m tx σ) {p : Nat} (hp : gS σ 17 = nI p) (hpm : p ≤ m) (hg : gS σ 18 = b2i true) (a : Int32) : f_X2_figure a σ = some (if fgB m tx a p = true then tx p - 48 else 0, pS (pS σ 18 (b2i (fgB m tx a p))) 17 (nI (p + (if fgB m tx a p = true then 1 else 0)))) := by
  unfold f_X2_figure
  rw [sign_v h hp hpm, bndS, hg]
  have e1 : ¬ b2i true = 0 := by decide
  simp only [nmE]
  rw [if_neg e1]
  by_cases e : p < m
  · rw [if_pos e]
    have hf : fgB m tx a p = inV (tx p - 48) 0 a := by unfold fgB; rw [decide_eq_true e, Bool.true_and]
    rw [hf]
    unfold inV
    by_cases e2 : tx p - 48 < 0
    · simp only [e2, if_true, not_true_eq_false, false_and, decide_false, Bool.false_eq_true, if_false]
      simp only [gS_pS, hp, if_true, show (17 = 18) = False from eq_false (by decide), show (18 = 17) = False from eq_false (by decide), if_false, show b2i false = 0 from rfl, Int32.add_zero, Nat.add_zero]
    · by_cases e3 : a < tx p - 48
      · simp only [e2, e3, if_true, if_false, not_false_eq_true, not_true_eq_false, and_false, decide_false, Bool.false_eq_true]
        simp only [gS_pS, hp, if_true, show (17 = 18) = False from eq_false (by decide), show (18 = 17) = False from eq_false (by decide), if_false, show b2i false = 0 from rfl, Int32.add_zero, Nat.add_zero]
      · simp only [e2, e3, if_true, if_false, not_false_eq_true, and_self, decide_true]
        simp only [gS_pS, hp, if_true, show (17 = 18) = False from eq_false (by decide), show (18 = 17) = False from eq_false (by decide), if_false, e1]
        rw [show b2i true = 1 from rfl, nI_1]
  · have hf : fgB m tx a p = false := by unfold fgB; rw [decide_eq_false e, Bool.false_and]
    rw [hf, if_neg e, if_pos (by decide)]
    simp only [gS_pS, hp, if_true, show (17 = 18) = False from eq_false (by decide), show (18 = 17) = False from eq_false (by decide), if_false, show b2i false = 0 from rfl, Int32.add_zero, Nat.add_zero, Bool.false_eq_true]
theorem figure_C0 (h : TC t m tx σ) {p : Nat} (hp : gS σ 17 = nI p) (hpm : p ≤ m) (hg : gS σ 18 = 0) (a : Int32) : f_X2_figure a σ = some (0, σ) := by
  unfold f_X2_figure
  rw [sign_v h hp hpm, bndS, hg]
  simp only [nmE, if_true]
  simp only [gS_pS, hp, if_true, show (17 = 18) = False from eq_false (by decide), show (18 = 17) = False from eq_false (by decide), if_false, show b2i false = 0 from rfl, Int32.add_zero]
  have e1 : pS σ 18 0 = σ := by rw [← hg, pS_self]
  rw [e1, ← hp, pS_self]
/-- two figures at p: what they say, where it goes on -/
def twP (m : Nat) (tx : Nat → Int32) (p : Nat) : Nat := if fgB m tx 9 p = true then (if fgB m tx 9 (p + 1) = true then p + 2 else p + 1) else p
def twO (m : Nat) (tx : Nat → Int32) (p : Nat) : Bool := fgB m tx 9 p && fgB m tx 9 (p + 1)
def twV (tx : Nat → Int32) (p : Nat) : Nat := 10 * dg9 tx p + dg9 tx (p + 1)
theorem tw_lt {p : Nat} (h : twO m tx p = true) : twV tx p < 100 ∧ p + 2 ≤ m := by
  unfold twO at h
  rw [Bool.and_eq_true] at h
  have h1 := fg_dig (a := 9) (by decide) h.1
  have h2 := fg_dig (a := 9) (by decide) h.2
  unfold twV
  omega
theorem twP_le {p : Nat} (hp : p ≤ m) : twP m tx p ≤ m := by
  unfold twP
  by_cases e1 : fgB m tx 9 p = true
  · have h1 := fg_dig (a := 9) (by decide) e1
    rw [if_pos e1]
    by_cases e2 : fgB m tx 9 (p + 1) = true
    · have h2 := fg_dig (a := 9) (by decide) e2
      rw [if_pos e2]; omega
    · rw [if_neg e2]; omega
  · rw [if_neg e1]; exact hp
theorem two_C (h : TC t m tx σ) {p : Nat} (hp : gS σ 17 = nI p) (hpm : p ≤ m) (hg : gS σ 18 = b2i true) : ∃ r, f_X2_twoFigures σ = some (r, pS (pS σ 18 (b2i (twO m tx p))) 17 (nI (twP m tx p))) ∧ (twO m tx p = true → r = nI (twV tx p)) := by
  unfold f_X2_twoFigures
  rw [figure_C h hp hpm hg, bnd2S]
  unfold twO twP twV
  by_cases e1 : fgB m tx 9 p = true
  · have h1 := fg_dig (a := 9) (by decide) e1
    rw [e1, if_pos rfl, if_pos rfl, if_pos rfl, Bool.true_and]
    have h' : TC t m tx (pS (pS σ 18 (b2i true)) 17 (nI (p + 1))) := (h.s (by decide) _).s (by decide) _
    rw [figure_C h' (gS_same _ _ _) (by omega) (by rw [gS_ne _ _ (by decide), gS_same]), bnd2S]
    by_cases e2 : fgB m tx 9 (p + 1) = true
    · have h2 := fg_dig (a := 9) (by decide) e2
      rw [e2, if_pos rfl, if_pos rfl, if_pos rfl]
      refine ⟨10 * (tx p - 48) + (tx (p + 1) - 48), ?_, fun _ => ?_⟩
      · rw [pS_comm _ (show 17 ≠ 18 by decide), pS_pS, pS_pS]
      · rw [h1.2.1, h2.2.1, show (10 : Int32) = nI 10 from rfl, nImul, nI_add]
    · have e2' : fgB m tx 9 (p + 1) = false := by simpa using e2
      rw [e2', if_neg (by decide), if_neg (by decide), if_neg (by decide), Nat.add_zero]
      refine ⟨10 * (tx p - 48) + 0, ?_, fun z => by cases z⟩
      rw [pS_comm _ (show 17 ≠ 18 by decide), pS_pS, pS_pS]
  · have e1' : fgB m tx 9 p = false := by simpa using e1
    rw [e1', if_neg (by decide), if_neg (by decide), if_neg (by decide), Bool.false_and, Nat.add_zero]
    have h' : TC t m tx (pS (pS σ 18 (b2i false)) 17 (nI p)) := (h.s (by decide) _).s (by decide) _
    rw [figure_C0 h' (gS_same _ _ _) hpm (by rw [gS_ne _ _ (by decide), gS_same]; rfl), bnd2S]
    exact ⟨_, rfl, fun z => by cases z⟩
theorem two_C0 (h : TC t m tx σ) {p : Nat} (hp : gS σ 17 = nI p) (hpm : p ≤ m) (hg : gS σ 18 = 0) : ∃ r, f_X2_twoFigures σ = some (r, σ) := by
  unfold f_X2_twoFigures
  rw [figure_C0 h hp hpm hg, bnd2S, figure_C0 h hp hpm hg, bnd2S]
  exact ⟨_, rfl⟩
end RD
