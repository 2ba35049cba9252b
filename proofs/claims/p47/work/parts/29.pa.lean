def preV (g : Nat → Int32) (m : Nat) : Int32 := fo (fun i x => if g i < 0 then x else x + 1) 0 m 0
theorem X5_present_v {σ : Sg} {b : Nat} {g : Nat → Int32} (hg : ∀ i, i < rLen b → gS σ (16 * (rBase b + i) + 1) = g i) : f_X5_present b σ = some (preV g (rLen b)) := by
  have hl := rLen_le b
  unfold f_X5_present preV
  refine loopP (fun N j x => l_X5_present_4 b σ (fun x => some x) N x (nI j)) (fun x => some x) (fun i x => if g i < 0 then x else x + 1) (rLen b) ?_ ?_ (rLen b) 0 FU 0 (by omega) (lt_FU (by omega))
  · intro N x
    show l_X5_present_4 b σ _ (N + 1) x (nI (rLen b)) = _
    unfold l_X5_present_4
    rw [if_pos (nI_le (Nat.le_refl _) (by omega))]
  · intro N j x hj
    show l_X5_present_4 b σ _ (N + 1) x (nI j) = _
    conv => lhs; unfold l_X5_present_4
    rw [if_neg (nI_ge hj (by omega)), inB_nI hj (by omega), nI_clamp (by omega), hg j hj]
    simp only [ckT, bfT, bfF, bndS, bnd2S, nmE, nI_1]
    split <;> rfl
def dg (g : Nat → Int32) (m : Nat) (x : Int64) : Int64 := fo (fun i x => (31 : Int64) * x + (g i).toInt64) 0 m x
/-- a size: missing, or so many -/
def szE (x : Int32) (m : Nat) : Prop := (x = -1 ∧ m = 0) ∨ x = nI m
theorem szE_end {x : Int32} {m : Nat} (h : szE x m) (hm : m < 2 ^ 31) : x ≤ nI m := by
  rcases h with ⟨rfl, rfl⟩ | rfl
  · decide
  · exact nI_le (Nat.le_refl _) hm
theorem szE_in {x : Int32} {m j : Nat} (h : szE x m) (hj : j < m) : x = nI m := by
  rcases h with ⟨-, rfl⟩ | h
  · omega
  · exact h
theorem dgC_in {σ : Sg} {b q m : Nat} {y : Int32} {K : Int64 → Option Int64} {x : Int64} (hs : szE (gS σ (16 * q + 1)) m) (hm : m ≤ cLen q) : l_X5_digestOf_34 b y q σ K FU x 0 = K (dg (gA σ q) m x) := by
  have hc := cLen_lt q
  refine loopP (fun N j x => l_X5_digestOf_34 b y q σ K N x (nI j)) K (fun i x => (31 : Int64) * x + (gA σ q i).toInt64) m ?_ ?_ m 0 FU x (by omega) (lt_FU (by omega))
  · intro N x
    show l_X5_digestOf_34 b y q σ K (N + 1) x (nI m) = _
    unfold l_X5_digestOf_34
    rw [if_pos (szE_end hs (by omega))]
  · intro N j x hj
    have hs' := szE_in hs hj
    show l_X5_digestOf_34 b y q σ K (N + 1) x (nI j) = _
    conv => lhs; unfold l_X5_digestOf_34
    rw [hs', if_neg (nI_ge hj (by omega)), X0_get_i hs' hm hj, bndS, nmE, nmE, nI_1]
theorem dgC_st {σ : Sg} {b j m N : Nat} {z : Int32} {g : Nat → Int32} {K : Int64 → Option Int64} {x : Int64} (hj : j < rLen b) (z1 : gS σ (16 * (rBase b + j) + 1) = z) (z2 : szE z m) (z3 : m ≤ cLen (rBase b + j)) (z4 : ∀ i, i < m → gA σ (rBase b + j) i = g i) : l_X5_digestOf_2 b σ K (N + 1) x (nI j) = l_X5_digestOf_2 b σ K N (dg g m ((31 : Int64) * x + z.toInt64)) (nI (j + 1)) := by
  have hl := rLen_le b
  have e9 : ∀ y, dg (gA σ (rBase b + j)) m y = dg g m y := fun y => fo_congr _ _ _ (fun i a _ hi => by rw [z4 i (by omega)])
  conv => lhs; unfold l_X5_digestOf_2
  rw [if_neg (nI_ge hj (by omega)), inB_nI hj (by omega), nI_clamp (by omega), ckT, nmE, nmE, dgC_in (m := m) (by rw [z1]; exact z2) z3, z1]
  dsimp only
  rw [nmE, nI_1, e9]
theorem dgC {σ : Sg} {b : Nat} {z : Nat → Int32} {g : Nat → Nat → Int32} {mm : Nat → Nat} (hz : ∀ r, r < rLen b → gS σ (16 * (rBase b + r) + 1) = z r ∧ szE (z r) (mm r) ∧ mm r ≤ cLen (rBase b + r) ∧ ∀ i, i < mm r → gA σ (rBase b + r) i = g r i) (x : Int64) : f_X5_digestOf b x σ = some (fo (fun r x => dg (g r) (mm r) ((31 : Int64) * x + (z r).toInt64)) 0 (rLen b) x) := by
  have hl := rLen_le b
  have := loopP (fun N j x => l_X5_digestOf_2 b σ (fun x => some x) N x (nI j)) (fun x => some x) (fun r x => dg (g r) (mm r) ((31 : Int64) * x + (z r).toInt64)) (rLen b)
    (fun N x => by
      show l_X5_digestOf_2 b σ _ (N + 1) x (nI (rLen b)) = _
      unfold l_X5_digestOf_2
      rw [if_pos (nI_le (Nat.le_refl _) (by omega))])
    (fun N j x hj => by
      obtain ⟨z1, z2, z3, z4⟩ := hz j hj
      exact dgC_st hj z1 z2 z3 z4) (rLen b) 0 FU x (by omega) (lt_FU (by omega))
  exact this
theorem szE_of {x : Int32} {lim : Nat} (h : x = -1 ∨ ∃ m, m ≤ lim ∧ x = nI m) (hl : lim < 2 ^ 31) : szE x x.toNatClampNeg ∧ x.toNatClampNeg ≤ lim := by
  rcases h with rfl | ⟨m, hm, rfl⟩
  · exact ⟨Or.inl ⟨rfl, by decide⟩, Nat.le_trans (by decide) (Nat.zero_le lim)⟩
  · rw [nI_clamp (by omega)]
    exact ⟨Or.inr rfl, hm⟩
