def preV (g : Nat → Int32) (m : Nat) : Int32 := fo (fun i x => if g i < 0 then x else x + 1) 0 m 0
theorem X5_present_v {σ : Sg} {b : Nat} {g : Nat → Int32} (hg : ∀ i, i < rLen b → gS σ (16 * (rBase b + i) + 1) = g i) : f_X5_present b σ = some (preV g (rLen b)) := by
  have hl := rLen_le b
  unfold f_X5_present preV
  refine loopP (fun N j x => l_X5_present_4 b σ (fun x => some x) N x (nI j)) (fun x => some x) (fun i x => if g i < 0 then x else x + 1) (rLen b) ?_ ?_ (rLen b) 0 FU 0 (by omega) (lt_FU (by omega))
  · intro N x
    show l_X5_present_4 b σ _ (N + 1) x (nI (rLen b)) = _
    unfold l_X5_present_4
    rw [if_pos (nI_le (Nat.le_refl _) (by omega))]
  · intro N j x hj
    show l_X5_present_4 b σ _ (N + 1) x (nI j) = _
    conv => lhs; unfold l_X5_present_4
    rw [if_neg (nI_ge hj (by omega)), inB_nI hj (by omega), nI_clamp (by omega), hg j hj]
    simp only [ckT, bfT, bfF, bndS, bnd2S, nmE, nI_1]
    split <;> rfl
def dg (g : Nat → Int32) (m : Nat) (x : Int64) : Int64 := fo (fun i x => (31 : Int64) * x + (g i).toInt64) 0 m x
/-- a size: missing, or so many -/
def szE (x : Int32) (m : Nat) : Prop := (x = -1 ∧ m = 0) ∨ x = nI m
theorem szE_end {x : Int32} {m : Nat} (h : szE x m) (hm : m < 2 ^ 31) : x ≤ nI m := by
  rcases h with ⟨rfl, rfl⟩ | rfl
  · decide
  · exact nI_le (Nat.le_refl _) hm
theorem szE_in {x : Int32} {m j : Nat} (h : szE x m) (hj : j < m) : x = nI m := by
  rcases h with ⟨-, rfl⟩ | h
  · omega
  · exact h
theorem szE_of {x : Int32} {lim : Nat} (h : x = -1 ∨ ∃ m, m ≤ lim ∧ x = nI m) (hl : lim < 2 ^ 31) : szE x x.toNatClampNeg ∧ x.toNatClampNeg ≤ lim := by
  rcases h with rfl | ⟨m, hm, rfl⟩
  · exact ⟨Or.inl ⟨rfl, by decide⟩, Nat.le_trans (by decide) (Nat.zero_le lim)⟩
  · rw [nI_clamp (by omega)]
    exact ⟨Or.inr rfl, hm⟩
