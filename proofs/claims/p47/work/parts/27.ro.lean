theorem pS_self (σ : Sg) (k : Nat) : pS σ k (gS σ k) = σ := by
  unfold pS gS
  have : va_up σ.1 k (σ.1 k) = σ.1 := by
    funext j
    simp only [va_up]
    split
    · next h => rw [h]
    · rfl
  rw [this]
theorem upd_self (f : Nat → Int32) (k : Nat) : upd f k (f k) = f := by
  funext j
  unfold upd
  split
  · next h => rw [h]
  · rfl
theorem inVm_t {i m : Nat} (h : i < m) (hm : m < 2 ^ 31) : inV (nI i) 0 (nI m - 1) = true := by
  rw [show (1 : Int32) = nI 1 from rfl, nIsub (by omega)]
  exact inV_t (by omega) (by omega)
theorem inVm_f {x : Int32} {m : Nat} (hm : m < 2 ^ 31) (hx : x < 0 ∨ (¬ x < 0 ∧ nI m ≤ x)) : inV x 0 (nI m - 1) = false := by
  rcases Nat.eq_zero_or_pos m with e | e
  · subst e
    unfold inV
    rcases hx with h1 | ⟨h1, h2⟩
    · simp [h1]
    · have : nI 0 - 1 < x := by
        rw [Int32.lt_iff_toInt_lt] at h1 ⊢
        have e0 : (0 : Int32).toInt = 0 := by decide
        have e1 : (nI 0 - 1).toInt = -1 := by decide
        omega
      simp [this]
  · rw [show (1 : Int32) = nI 1 from rfl, nIsub (by omega)]
    refine inV_f (by omega) ?_
    rwa [show m - 1 + 1 = m by omega]
/-! a row written, its size with it -/
theorem Rel_row {σ τ : Sg} (h : Rel σ τ) {r : Nat} (hr : r < 6) {x : Int32} {f g : Nat → Int32} (hx : x = -1 ∨ ∃ m, m ≤ 40 ∧ x = nI m ∧ ∀ i, i < m → f i = g (40 * r + i)) (hg : ∀ y, ¬ (40 * r ≤ y ∧ y < 40 * r + 40) → g y = gA τ 2 y) :
    Rel (pA (pS σ (16 * (5 + r) + 1) x) (5 + r) f) (pA (pA τ 1 (upd (gA τ 1) r x)) 2 g) := by
  obtain ⟨h1, h2, h3, h4, h5, n, w, cs, t1, t2, t3, t4, t5⟩ := h
  refine ⟨h1, h2, fun k hk => ?_, ?_, ?_, n, w, cs, t1, t2, ?_, ?_, ?_⟩
  · obtain ⟨b1, b2⟩ := h3 k hk
    rw [gS_pA, gA_ne _ _ (show (1 : Nat) ≠ 2 by decide), gA_same, gA_same]
    by_cases e : k = r
    · subst e
      refine ⟨by rw [gS_same]; unfold upd; rw [if_pos rfl], ?_⟩
      unfold upd
      rw [if_pos rfl]
      rcases hx with hx | ⟨m, q1, q2, q3⟩
      · exact Or.inl hx
      · exact Or.inr ⟨m, q1, q2, fun i hi => by rw [gA_same]; exact q3 i hi⟩
    · refine ⟨by rw [gS_ne _ _ (by omega), b1]; unfold upd; rw [if_neg e], ?_⟩
      unfold upd
      rw [if_neg e]
      rcases b2 with b2 | ⟨m, q1, q2, q3⟩
      · exact Or.inl b2
      · refine Or.inr ⟨m, q1, q2, fun i hi => ?_⟩
        rw [gA_ne _ _ (by omega), gA_pS, hg _ (by omega)]
        exact q3 i hi
  · exact h4.cg (fun k hk => gS_ne _ _ (by omega)) (fun k hk => gA_ne _ _ (by omega)) ⟨by rw [gA_ne _ _ (by decide), gA_ne _ _ (by decide)], by rw [gA_ne _ _ (by decide), gA_ne _ _ (by decide)]⟩
  · obtain ⟨a1, a2, a3, a4, a5, a6⟩ := h5
    refine ⟨?_, ?_, a3, a4, ?_, fun i hi => ?_⟩
    · rw [gS_pA, gS_ne _ _ (by omega)]; exact a1
    · rw [gS_pA, gS_ne _ _ (by omega)]; exact a2
    · rw [gS_pA, gS_ne _ _ (by omega)]; exact a5
    · rw [gA_ne _ _ (by omega), gA_pS, gA_ne _ _ (by decide), gA_ne _ _ (by decide)]; exact a6 i hi
  · exact t3.cg (fun k hk => gS_ne _ _ (by omega)) (fun a ha => gA_ne _ _ (by omega))
  · exact t4.cg ⟨rfl, rfl, rfl⟩ ⟨by rw [gA_ne _ _ (by decide), gA_ne _ _ (by decide)], by rw [gA_ne _ _ (by decide), gA_ne _ _ (by decide)], by rw [gA_ne _ _ (by decide), gA_ne _ _ (by decide)], by rw [gA_ne _ _ (by decide), gA_ne _ _ (by decide)]⟩
  · exact t5.cg (fun k hk => gS_ne _ _ (by omega)) (fun k hk => gA_ne _ _ (by omega)) ⟨by rw [gA_ne _ _ (by decide), gA_ne _ _ (by decide)], by rw [gA_ne _ _ (by decide), gA_ne _ _ (by decide)], by rw [gA_ne _ _ (by decide), gA_ne _ _ (by decide)]⟩
theorem Rel_txt {σ τ : Sg} (h : Rel σ τ) {r : Nat} (hr : r < 4) {x : Int32} {f g : Nat → Int32} (hx : x = -1 ∨ ∃ m, m ≤ 60 ∧ x = nI m ∧ ∀ i, i < m → f i = g (60 * r + i)) (hg : ∀ y, ¬ (60 * r ≤ y ∧ y < 60 * r + 60) → g y = gA τ 4 y) :
    Rel (pA (pS σ (16 * (11 + r) + 1) x) (11 + r) f) (pA (pA τ 3 (upd (gA τ 3) r x)) 4 g) := by
  obtain ⟨h1, h2, h3, h4, h5, n, w, cs, t1, t2, t3, t4, t5⟩ := h
  refine ⟨h1, h2, ?_, fun k hk => ?_, ?_, n, w, cs, t1, t2, ?_, ?_, ?_⟩
  · exact h3.cg (fun k hk => gS_ne _ _ (by omega)) (fun k hk => gA_ne _ _ (by omega)) ⟨by rw [gA_ne _ _ (by decide), gA_ne _ _ (by decide)], by rw [gA_ne _ _ (by decide), gA_ne _ _ (by decide)]⟩
  · obtain ⟨b1, b2⟩ := h4 k hk
    rw [gS_pA, gA_ne _ _ (show (3 : Nat) ≠ 4 by decide), gA_same, gA_same]
    by_cases e : k = r
    · subst e
      refine ⟨by rw [gS_same]; unfold upd; rw [if_pos rfl], ?_⟩
      unfold upd
      rw [if_pos rfl]
      rcases hx with hx | ⟨m, q1, q2, q3⟩
      · exact Or.inl hx
      · exact Or.inr ⟨m, q1, q2, fun i hi => by rw [gA_same]; exact q3 i hi⟩
    · refine ⟨by rw [gS_ne _ _ (by omega), b1]; unfold upd; rw [if_neg e], ?_⟩
      unfold upd
      rw [if_neg e]
      rcases b2 with b2 | ⟨m, q1, q2, q3⟩
      · exact Or.inl b2
      · refine Or.inr ⟨m, q1, q2, fun i hi => ?_⟩
        rw [gA_ne _ _ (by omega), gA_pS, hg _ (by omega)]
        exact q3 i hi
  · obtain ⟨a1, a2, a3, a4, a5, a6⟩ := h5
    refine ⟨?_, ?_, a3, a4, ?_, fun i hi => ?_⟩
    · rw [gS_pA, gS_ne _ _ (by omega)]; exact a1
    · rw [gS_pA, gS_ne _ _ (by omega)]; exact a2
    · rw [gS_pA, gS_ne _ _ (by omega)]; exact a5
    · rw [gA_ne _ _ (by omega), gA_pS, gA_ne _ _ (by decide), gA_ne _ _ (by decide)]; exact a6 i hi
  · exact t3.cg (fun k hk => gS_ne _ _ (by omega)) (fun a ha => gA_ne _ _ (by omega))
  · exact t4.cg ⟨rfl, rfl, rfl⟩ ⟨by rw [gA_ne _ _ (by decide), gA_ne _ _ (by decide)], by rw [gA_ne _ _ (by decide), gA_ne _ _ (by decide)], by rw [gA_ne _ _ (by decide), gA_ne _ _ (by decide)], by rw [gA_ne _ _ (by decide), gA_ne _ _ (by decide)]⟩
  · exact t5.cg (fun k hk => gS_ne _ _ (by omega)) (fun k hk => gA_ne _ _ (by omega)) ⟨by rw [gA_ne _ _ (by decide), gA_ne _ _ (by decide)], by rw [gA_ne _ _ (by decide), gA_ne _ _ (by decide)], by rw [gA_ne _ _ (by decide), gA_ne _ _ (by decide)]⟩
theorem cLen_row {r : Nat} (h : r < 6) : cLen (5 + r) = 40 := by unfold cLen; rw [if_pos (by omega)]
theorem cLen_txt {r : Nat} (h : r < 4) : cLen (11 + r) = 60 := by unfold cLen; rw [if_neg (by omega), if_pos (by omega)]
theorem nI_m1 {m : Nat} (h : m < 2 ^ 31) : ¬ nI m = -1 := by
  intro z
  have := congrArg Int32.toInt z
  rw [nI_toInt h] at this
  have e9 : (-1 : Int32).toInt = -1 := by decide
  omega
/-- the size told, the items are the same -/
theorem row_items {σ τ : Sg} (h : RRow σ τ) {r m : Nat} (hr : r < 6) (hs : gS σ (16 * (5 + r) + 1) = nI m) (hm : m ≤ 40) : gA τ 1 r = nI m ∧ ∀ i, i < m → gA σ (5 + r) i = gA τ 2 (40 * r + i) := by
  obtain ⟨b1, b2⟩ := h r hr
  rw [← b1]
  refine ⟨hs, fun i hi => ?_⟩
  rcases b2 with b2 | ⟨m', q1, q2, q3⟩
  · rw [b1, b2] at hs
    exact absurd hs.symm (nI_m1 (by omega))
  · rw [b1, q2] at hs
    have := (nI_eq (by omega) (by omega)).mp hs
    exact q3 i (by omega)
theorem txt_items {σ τ : Sg} (h : RTxt σ τ) {r m : Nat} (hr : r < 4) (hs : gS σ (16 * (11 + r) + 1) = nI m) (hm : m ≤ 60) : gA τ 3 r = nI m ∧ ∀ i, i < m → gA σ (11 + r) i = gA τ 4 (60 * r + i) := by
  obtain ⟨b1, b2⟩ := h r hr
  rw [← b1]
  refine ⟨hs, fun i hi => ?_⟩
  rcases b2 with b2 | ⟨m', q1, q2, q3⟩
  · rw [b1, b2] at hs
    exact absurd hs.symm (nI_m1 (by omega))
  · rw [b1, q2] at hs
    have := (nI_eq (by omega) (by omega)).mp hs
    exact q3 i (by omega)
/-- items written, the size as it was -/
theorem Rel_items {σ τ : Sg} (h : Rel σ τ) {r m : Nat} (hr : r < 6) (hs : gS σ (16 * (5 + r) + 1) = nI m) (hm : m ≤ 40) {f g : Nat → Int32} (hf : ∀ i, i < m → f i = g (40 * r + i)) (hg : ∀ y, ¬ (40 * r ≤ y ∧ y < 40 * r + 40) → g y = gA τ 2 y) : Rel (pA σ (5 + r) f) (pA τ 2 g) := by
  have := Rel_row h hr (x := nI m) (f := f) (g := g) (Or.inr ⟨m, hm, rfl, hf⟩) hg
  rw [← hs, pS_self, hs, ← (row_items h.2.2.1 hr hs hm).1, upd_self, pA_self] at this
  exact this
theorem Rel_letters {σ τ : Sg} (h : Rel σ τ) {r m : Nat} (hr : r < 4) (hs : gS σ (16 * (11 + r) + 1) = nI m) (hm : m ≤ 60) {f g : Nat → Int32} (hf : ∀ i, i < m → f i = g (60 * r + i)) (hg : ∀ y, ¬ (60 * r ≤ y ∧ y < 60 * r + 60) → g y = gA τ 4 y) : Rel (pA σ (11 + r) f) (pA τ 4 g) := by
  have := Rel_txt h hr (x := nI m) (f := f) (g := g) (Or.inr ⟨m, hm, rfl, hf⟩) hg
  rw [← hs, pS_self, hs, ← (txt_items h.2.2.2.1 hr hs hm).1, upd_self, pA_self] at this
  exact this
def sumV (g : Nat → Int32) (m : Nat) : Int64 := fo (fun i x => x + (g i).toInt64) 0 m 0
