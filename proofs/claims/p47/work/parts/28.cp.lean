theorem nI_sub_toInt {m n : Nat} (hm : m < 2 ^ 31) (hn : n < 2 ^ 31) : (nI m - nI n).toInt = (m : Int) - n := by
  rw [Int32.toInt_sub, nI_toInt hm, nI_toInt hn]
  rw [Int.bmod_def]
  omega
/-- does a part of n from x on lie in m -/
def partB (x : Int32) (n m : Nat) : Bool := decide (¬ x < 0 ∧ x.toInt + n ≤ m)
theorem spans_b {σ : Sg} {q m n : Nat} {x : Int32} (hs : gS σ (16 * q + 1) = nI m) (hm : m ≤ cLen q) (hn : n < 2 ^ 31) : f_X0_spans q x (nI n) σ = some (partB x n m) := by
  have h0 := cLen_lt q
  unfold f_X0_spans partB
  rw [hs]
  simp (disch := omega) only [nIlt0, nIlt, if_false]
  by_cases h1 : x < 0
  · rw [if_pos h1]; simp [h1]
  · rw [if_neg h1]
    have e : (nI m - nI n < x) ↔ ¬ (x.toInt + n ≤ m) := by
      rw [Int32.lt_iff_toInt_lt, nI_sub_toInt (by omega) hn]
      omega
    by_cases h2 : x.toInt + n ≤ m
    · rw [if_neg (fun z => (e.mp z) h2), if_neg (by omega), decide_eq_true ⟨h1, h2⟩]
    · rw [if_pos (e.mpr h2), decide_eq_false (fun z => h2 z.2)]
theorem partB_of {x : Int32} {n m : Nat} (hm : m < 2 ^ 31) (h : partB x n m = true) : ∃ i, x = nI i ∧ i + n ≤ m := by
  obtain ⟨h1, h2⟩ := of_decide_eq_true h
  obtain ⟨i, hi, rfl⟩ := nI_of h1
  rw [nI_toInt hi] at h2
  exact ⟨i, rfl, by omega⟩
theorem lt0_m1 : ((-1 : Int32) < 0) = True := eq_true (by decide)
