/-! the relation -/
def RRow (σ τ : Sg) : Prop := ∀ r, r < 6 → gS σ (16 * (5 + r) + 1) = gA τ 1 r ∧ (gA τ 1 r = -1 ∨ ∃ m, m ≤ 40 ∧ gA τ 1 r = nI m ∧ ∀ i, i < m → gA σ (5 + r) i = gA τ 2 (40 * r + i))
def RTxt (σ τ : Sg) : Prop := ∀ r, r < 4 → gS σ (16 * (11 + r) + 1) = gA τ 3 r ∧ (gA τ 3 r = -1 ∨ ∃ m, m ≤ 60 ∧ gA τ 3 r = nI m ∧ ∀ i, i < m → gA σ (11 + r) i = gA τ 4 (60 * r + i))
def RFnd (σ τ : Sg) : Prop := gS σ 8 = gS τ 4 ∧ gS σ 9 = gS τ 6 ∧ gL σ 10 = gL τ 7 ∧ gL σ 11 = gL τ 8 ∧ gS σ (16 * 18 + 1) = nI 6 ∧ ∀ f, f < 6 → gA σ 18 f = gA τ 5 f
def RKept (n : Nat) (w : Nat → Int32) (σ τ : Sg) : Prop := ∀ k, k < 3 → gS σ (16 * (15 + k) + 1) = gA τ 13 k ∧ (gA τ 13 k = -1 ∨ ∃ cs, COK n cs ∧ gA τ 13 k = nI cs.length ∧ (∀ i, i < cs.length → gA σ (15 + k) i = nI (cs.getD i 0)) ∧ (∀ j, rl n j → gA τ 11 (23 * k + j) = run n (iniV w) cs j) ∧ ∀ i, i < cs.length → ∀ j, rl n j → gA τ 12 (920 * k + (23 * i + j)) = run n (iniV w) (cs.take i) j)
def RTown (σ τ : Sg) : Prop := ∃ n w cs, STW n w ∧ COK n cs ∧ CT n w cs (gR σ 0) σ ∧ MT n w cs τ ∧ RKept n w σ τ
def Rel (σ τ : Sg) : Prop := okC σ ∧ gR σ 1 ≠ gR σ 0 ∧ RRow σ τ ∧ RTxt σ τ ∧ RFnd σ τ ∧ RTown σ τ
/-! frames -/
theorem CT.cg {n : Nat} {w : Nat → Int32} {cs : List Nat} {s : Nat} {σ σ' : Sg} (h : CT n w cs s σ) (f1 : ∀ k, (16 * 3 + 7 ≤ k ∧ k < 16 * 5) ∨ (16 * 19 ≤ k ∧ k < 16 * 33) → gS σ' k = gS σ k) (f2 : ∀ a, 19 ≤ a ∧ a < 33 → gA σ' a = gA σ a) : CT n w cs s σ' := by
  obtain ⟨⟨a, b, c, ⟨d1, d2, d3, d4, d5, d6, d7⟩, e, f⟩, ⟨g1, g2⟩, h3⟩ := h
  have hs := b
  unfold isS at hs
  have ej : ∀ j, stI s j = 7 * s - 2 + j := fun _ => rfl
  have kS : ∀ j, 7 ≤ j → j < 15 → gS σ' (16 * s + j) = gS σ (16 * s + j) := fun j h1 h2 => f1 _ (Or.inl (by omega))
  have kI : ∀ j, j < 7 → gS σ' (16 * stI s j + 1) = gS σ (16 * stI s j + 1) := fun j h1 => f1 _ (Or.inr (by have := ej j; omega))
  have kA : ∀ j, j < 7 → gA σ' (stI s j) = gA σ (stI s j) := fun j h1 => f2 _ (by have := ej j; omega)
  refine ⟨⟨a, b, (kS 7 (by omega) (by omega)).trans c, ⟨(kS 8 (by omega) (by omega)).trans d1, (kS 9 (by omega) (by omega)).trans d2, (kS 10 (by omega) (by omega)).trans d3, (kS 11 (by omega) (by omega)).trans d4, (kS 12 (by omega) (by omega)).trans d5, (kS 13 (by omega) (by omega)).trans d6, (kS 14 (by omega) (by omega)).trans d7⟩, fun j hj h0 => (kI j (by omega)).trans (e j hj h0), fun i hi => ?_⟩, ⟨(kI 6 (by omega)).trans g1, fun k hk => ?_⟩, ?_⟩
  · rw [kA 0 (by omega), kA 1 (by omega), kA 2 (by omega), kA 3 (by omega), kA 4 (by omega), kA 5 (by omega)]
    exact f i hi
  · rw [kA 6 (by omega)]; exact g2 k hk
  · unfold FD
    rw [kI 2 (by omega)]
    exact h3
theorem MT.cg {n : Nat} {w : Nat → Int32} {cs : List Nat} {τ τ' : Sg} (h : MT n w cs τ) (f1 : gS τ' 17 = gS τ 17 ∧ gS τ' 16 = gS τ 16 ∧ gS τ' 22 = gS τ 22) (f2 : gA τ' 7 = gA τ 7 ∧ gA τ' 8 = gA τ 8 ∧ gA τ' 9 = gA τ 9 ∧ gA τ' 10 = gA τ 10) : MT n w cs τ' :=
  ⟨h.1.out f1.1 f1.2.1 f2.1 f2.2.1 f2.2.2.1, f1.2.2.trans h.2.1, fun k hk j hj => by rw [f2.2.2.2]; exact h.2.2 k hk j hj⟩
theorem RKept.cg {n : Nat} {w : Nat → Int32} {σ σ' τ τ' : Sg} (h : RKept n w σ τ) (f1 : ∀ k, k < 3 → gS σ' (16 * (15 + k) + 1) = gS σ (16 * (15 + k) + 1)) (f2 : ∀ k, k < 3 → gA σ' (15 + k) = gA σ (15 + k)) (f3 : gA τ' 11 = gA τ 11 ∧ gA τ' 12 = gA τ 12 ∧ gA τ' 13 = gA τ 13) : RKept n w σ' τ' := fun k hk => by
  rw [f1 k hk, f2 k hk, f3.1, f3.2.1, f3.2.2]
  exact h k hk
theorem RRow.cg {σ σ' τ τ' : Sg} (h : RRow σ τ) (f1 : ∀ k, k < 6 → gS σ' (16 * (5 + k) + 1) = gS σ (16 * (5 + k) + 1)) (f2 : ∀ k, k < 6 → gA σ' (5 + k) = gA σ (5 + k)) (f3 : gA τ' 1 = gA τ 1 ∧ gA τ' 2 = gA τ 2) : RRow σ' τ' := fun k hk => by
  rw [f1 k hk, f2 k hk, f3.1, f3.2]
  exact h k hk
theorem RTxt.cg {σ σ' τ τ' : Sg} (h : RTxt σ τ) (f1 : ∀ k, k < 4 → gS σ' (16 * (11 + k) + 1) = gS σ (16 * (11 + k) + 1)) (f2 : ∀ k, k < 4 → gA σ' (11 + k) = gA σ (11 + k)) (f3 : gA τ' 3 = gA τ 3 ∧ gA τ' 4 = gA τ 4) : RTxt σ' τ' := fun k hk => by
  rw [f1 k hk, f2 k hk, f3.1, f3.2]
  exact h k hk
/-- what may change without a change of rows, texts and town -/
def FrX (σ σ' τ τ' : Sg) : Prop := (∀ k, k ≠ 8 → k ≠ 9 → k ≠ 17 → k ≠ 18 → k ≠ 37 → ¬ (16 * 33 ≤ k ∧ k < 16 * 38) → gS σ' k = gS σ k) ∧ (∀ a, a ≠ 18 → ¬ (33 ≤ a ∧ a < 38) → gA σ' a = gA σ a) ∧ gR σ' 0 = gR σ 0 ∧ gR σ' 1 = gR σ 1 ∧ okC σ' ∧ (∀ k, k = 16 ∨ k = 17 ∨ k = 22 → gS τ' k = gS τ k) ∧ ∀ a, a ≠ 5 → a ≠ 6 → a ≠ 14 → a ≠ 15 → gA τ' a = gA τ a
theorem Rel.cg {σ σ' τ τ' : Sg} (h : Rel σ τ) (f : FrX σ σ' τ τ') (hf : RFnd σ' τ') : Rel σ' τ' := by
  obtain ⟨h1, h2, h3, h4, h5, n, w, cs, t1, t2, t3, t4, t5⟩ := h
  obtain ⟨f1, f2, f3, f3b, f4, f5, f6⟩ := f
  refine ⟨f4, by rw [f3, f3b]; exact h2, ?_, ?_, hf, n, w, cs, t1, t2, ?_, ?_, ?_⟩
  · exact h3.cg (fun k hk => f1 _ (by omega) (by omega) (by omega) (by omega) (by omega) (by omega)) (fun k hk => f2 _ (by omega) (by omega)) ⟨f6 _ (by omega) (by omega) (by omega) (by omega), f6 _ (by omega) (by omega) (by omega) (by omega)⟩
  · exact h4.cg (fun k hk => f1 _ (by omega) (by omega) (by omega) (by omega) (by omega) (by omega)) (fun k hk => f2 _ (by omega) (by omega)) ⟨f6 _ (by omega) (by omega) (by omega) (by omega), f6 _ (by omega) (by omega) (by omega) (by omega)⟩
  · rw [f3]
    exact t3.cg (fun k hk => f1 _ (by omega) (by omega) (by omega) (by omega) (by omega) (by omega)) (fun a ha => f2 _ (by omega) (by omega))
  · exact t4.cg ⟨f5 _ (by omega), f5 _ (by omega), f5 _ (by omega)⟩ ⟨f6 _ (by omega) (by omega) (by omega) (by omega), f6 _ (by omega) (by omega) (by omega) (by omega), f6 _ (by omega) (by omega) (by omega) (by omega), f6 _ (by omega) (by omega) (by omega) (by omega)⟩
  · exact t5.cg (fun k hk => f1 _ (by omega) (by omega) (by omega) (by omega) (by omega) (by omega)) (fun k hk => f2 _ (by omega) (by omega)) ⟨f6 _ (by omega) (by omega) (by omega) (by omega), f6 _ (by omega) (by omega) (by omega) (by omega), f6 _ (by omega) (by omega) (by omega) (by omega)⟩
/-! findings -/
theorem asked_R {σ τ : Sg} (h : Rel σ τ) (x : Int32) : Rel (pS σ 9 x) (pS τ 6 x) := by
  obtain ⟨h8, h9, h10, h11, h6, hA⟩ := h.2.2.2.2.1
  refine h.cg ⟨fun k _ a _ _ _ _ => gS_ne _ _ a, fun a _ _ => rfl, rfl, rfl, h.1, fun k hk => gS_ne _ _ (by omega), fun a _ _ _ _ => rfl⟩ ⟨?_, ?_, h10, h11, ?_, hA⟩
  · rw [gS_ne _ _ (by decide), gS_ne _ _ (by decide)]; exact h8
  · rw [gS_same, gS_same]
  · rw [gS_ne _ _ (by decide)]; exact h6
theorem ratio_R {σ τ : Sg} (h : Rel σ τ) (x y : Int64) : Rel (pL (pL σ 10 x) 11 y) (pL (pL τ 7 x) 8 y) := by
  obtain ⟨h8, h9, h10, h11, h6, hA⟩ := h.2.2.2.2.1
  refine h.cg ⟨fun k _ _ _ _ _ _ => rfl, fun a _ _ => rfl, rfl, rfl, h.1, fun k hk => rfl, fun a _ _ _ _ => rfl⟩ ⟨h8, h9, ?_, ?_, h6, hA⟩
  · rfl
  · rfl
/-! places told by a number -/
theorem inV_t {r b : Nat} (h : r ≤ b) (hb : b < 2 ^ 31) : inV (nI r) 0 (nI b) = true := by
  unfold inV
  simp (disch := omega) only [nIlt0, nIlt]
  simp
  omega
theorem inV_f {x : Int32} {b : Nat} (hb : b + 1 < 2 ^ 31) (hx : x < 0 ∨ (¬ x < 0 ∧ nI (b + 1) ≤ x)) : inV x 0 (nI b) = false := by
  unfold inV
  rcases hx with h1 | ⟨h1, h2⟩
  · simp [h1]
  · have : nI b < x := by
      rw [Int32.lt_iff_toInt_lt, nI_toInt (by omega)]
      rw [Int32.le_iff_toInt_le, nI_toInt (by omega)] at h2
      omega
    simp [this]
theorem rLen_le (q : Nat) : rLen q ≤ 6 := by unfold rLen; repeat' split
                                             all_goals omega
theorem pick_i {q r : Nat} (h : r < rLen q) : f_X5_pick q (nI r) = some (some (rBase q + r)) := by
  have := rLen_le q
  unfold f_X5_pick
  simp (disch := omega) only [nIlt0, nIle, if_false, inB_nI, nI_clamp, ckT]
  rw [if_neg (by omega)]
theorem pick_o {q : Nat} {x : Int32} (h : x < 0 ∨ (¬ x < 0 ∧ nI (rLen q) ≤ x)) : f_X5_pick q x = some none := by
  unfold f_X5_pick
  rcases h with h1 | ⟨h1, h2⟩
  · rw [if_pos h1]
  · rw [if_neg h1, if_pos h2]
/-- a number that a test takes for a place -/
theorem inV_c (x : Int32) {b : Nat} (hb : b + 1 < 2 ^ 31) : (∃ i, i ≤ b ∧ x = nI i ∧ inV x 0 (nI b) = true) ∨ ((x < 0 ∨ (¬ x < 0 ∧ nI (b + 1) ≤ x)) ∧ inV x 0 (nI b) = false) := by
  rcases i32c x hb with ⟨i, hi, rfl⟩ | ho
  · exact Or.inl ⟨i, by omega, rfl, inV_t (by omega) (by omega)⟩
  · exact Or.inr ⟨ho, inV_f hb ho⟩
/-! the calls that only read a house -/
theorem X5_who_v {n : Nat} {v : Nat → Int32} {σ : Sg} (h : HC n v (gR σ 0) σ) (d a : Int32) : l_X5_who_24 d a σ (fun x => some x) FU 0 0 = some (fo (fun i x => if tapsV (v (23 + i)) d (v 3) = a then x ||| ((1 : Int32) <<< (nI i &&& 31)) else x) 0 n 0) := by
  have hn := h.1
  refine loopP (fun N j x => l_X5_who_24 d a σ (fun x => some x) N x (nI j)) (fun x => some x) (fun i x => if tapsV (v (23 + i)) d (v 3) = a then x ||| ((1 : Int32) <<< (nI i &&& 31)) else x) n ?_ ?_ n 0 FU 0 (by omega) (lt_FU (by omega))
  · intro N x
    show l_X5_who_24 d a σ _ (N + 1) x (nI n) = _
    unfold l_X5_who_24
    rw [h.2.2.1, if_pos (nI_le (Nat.le_refl _) (by omega))]
  · intro N j x hj
    show l_X5_who_24 d a σ _ (N + 1) x (nI j) = _
    conv => lhs; unfold l_X5_who_24
    rw [h.2.2.1, if_neg (nI_ge hj (by omega)), X4_tapsFor_v h hj]
    simp only [nmE, nI_1, bndS]
    split <;> rfl
