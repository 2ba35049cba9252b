theorem ad3 (i : Nat) : (3 : Int32) + nI i = nI (3 + i) := nI_add 3 i
theorem ml3 (i : Nat) : (3 : Int32) * nI i = nI (3 * i) := nImul 3 i
theorem ad5 (i : Nat) : (5 : Int32) + nI i = nI (5 + i) := nI_add 5 i
theorem ml5 (i : Nat) : (5 : Int32) * nI i = nI (5 * i) := nImul 5 i
theorem ad6 (i : Nat) : (6 : Int32) + nI i = nI (6 + i) := nI_add 6 i
theorem ml6 (i : Nat) : (6 : Int32) * nI i = nI (6 * i) := nImul 6 i
theorem ad11 (i : Nat) : (11 : Int32) + nI i = nI (11 + i) := nI_add 11 i
theorem ml11 (i : Nat) : (11 : Int32) * nI i = nI (11 * i) := nImul 11 i
theorem ad17 (i : Nat) : (17 : Int32) + nI i = nI (17 + i) := nI_add 17 i
theorem ml17 (i : Nat) : (17 : Int32) * nI i = nI (17 * i) := nImul 17 i
theorem ad23 (i : Nat) : (23 : Int32) + nI i = nI (23 + i) := nI_add 23 i
theorem ml23 (i : Nat) : (23 : Int32) * nI i = nI (23 * i) := nImul 23 i
theorem ad40 (i : Nat) : (40 : Int32) + nI i = nI (40 + i) := nI_add 40 i
theorem ml40 (i : Nat) : (40 : Int32) * nI i = nI (40 * i) := nImul 40 i
theorem ad60 (i : Nat) : (60 : Int32) + nI i = nI (60 + i) := nI_add 60 i
theorem ml60 (i : Nat) : (60 : Int32) * nI i = nI (60 * i) := nImul 60 i
theorem ad69 (i : Nat) : (69 : Int32) + nI i = nI (69 + i) := nI_add 69 i
theorem ml69 (i : Nat) : (69 : Int32) * nI i = nI (69 * i) := nImul 69 i
theorem ad920 (i : Nat) : (920 : Int32) + nI i = nI (920 + i) := nI_add 920 i
theorem ml920 (i : Nat) : (920 : Int32) * nI i = nI (920 * i) := nImul 920 i
theorem cl0 : (0 : Int32).toNatClampNeg = 0 := by decide
theorem cl1 : (1 : Int32).toNatClampNeg = 1 := by decide
theorem cl2 : (2 : Int32).toNatClampNeg = 2 := by decide
theorem cl3 : (3 : Int32).toNatClampNeg = 3 := by decide
theorem cl4 : (4 : Int32).toNatClampNeg = 4 := by decide
theorem cl5 : (5 : Int32).toNatClampNeg = 5 := by decide
theorem cl6 : (6 : Int32).toNatClampNeg = 6 := by decide
theorem iB9_0 : inB (0 : Int32) 23 = true := by decide
theorem iB9_1 : inB (1 : Int32) 23 = true := by decide
theorem iB9_2 : inB (2 : Int32) 23 = true := by decide
theorem iB9_3 : inB (3 : Int32) 23 = true := by decide
theorem iB9_4 : inB (4 : Int32) 23 = true := by decide
def tapsV (k d f : Int32) : Int32 := if k = 3 then -9 else if f ≠ 0 ∧ ¬ d < 40 ∧ ¬ 49 < d ∧ ¬ k = 5 then -9 else if k = 1 then 2 * (if 49 < d then 1 else 2) else if k = 4 then 2 * (if 49 < d then 1 else 2) + 1 else if 49 < d then 1 else 2
def feeV (k : Int32) : Int32 := if k = 2 then 2 else if k = 3 then 0 else if k = 5 then 5 else 1
def isOfV (k w : Int32) : Bool := decide (w = 0 ∨ k = w ∨ (w = 1 ∧ k = 4) ∨ (w = 2 ∧ k = 5))
theorem X1_taps_v (k d f : Int32) : f_X1_taps k d f = some (tapsV k d f) := by
  unfold f_X1_taps tapsV
  simp only [nmE]
  by_cases h3 : k = 3
  · simp [h3]
    repeat' split
    all_goals rfl
  · by_cases h0 : f = 0 <;> by_cases h1 : d < 40 <;> by_cases h2 : 49 < d <;> by_cases h5 : k = 5 <;> simp [h3, h0, h1, h2, h5, bf] <;> (repeat' split) <;> rfl
theorem X1_fee_v (k : Int32) : f_X1_fee k = some (feeV k) := by
  unfold f_X1_fee feeV
  repeat' split
  all_goals rfl
theorem X1_isOf_v (k w : Int32) : f_X1_isOf k w = some (isOfV k w) := by
  unfold f_X1_isOf isOfV
  by_cases h0 : w = 0
  · simp [h0]
  by_cases h1 : w = 1
  · subst h1
    by_cases h : k = 1
    · simp [h]
    · by_cases h4 : k = 4 <;> simp [h, h4]
  by_cases h2 : w = 2
  · subst h2
    by_cases h : k = 2
    · simp [h]
    · by_cases h5 : k = 5 <;> simp [h, h5]
  by_cases h : k = w <;> simp [h0, h1, h2, h]
def inV (x a b : Int32) : Bool := decide (¬ x < a ∧ ¬ b < x)
theorem X5_within_v (x a b : Int32) : f_X5_within x a b = some (inV x a b) := by
  unfold f_X5_within inV
  by_cases h1 : x < a <;> by_cases h2 : b < x <;> simp [h1, h2]
theorem X5_isDate_v (x : Int32) : f_X5_isDate x = some (inV x 0 99) := by
  unfold f_X5_isDate
  rw [X5_within_v]
  rfl
theorem le50 (d : Int32) : (50 ≤ d) = (49 < d) := by
  rw [Int32.le_iff_toInt_le, Int32.lt_iff_toInt_lt]
  have e1 : (50 : Int32).toInt = 50 := by decide
  have e2 : (49 : Int32).toInt = 49 := by decide
  apply propext
  omega
def HC (n : Nat) (v : Nat → Int32) (s : Nat) (σ : Sg) : Prop :=
  n ≤ 6 ∧ isS s ∧ gS σ (16 * s + 7) = nI n ∧ (gS σ (16 * s + 8) = v 35 ∧ gS σ (16 * s + 9) = v 36 ∧ gS σ (16 * s + 10) = v 3 ∧ gS σ (16 * s + 11) = v 0 ∧ gS σ (16 * s + 12) = v 1 ∧ gS σ (16 * s + 13) = v 2 ∧ gS σ (16 * s + 14) = v 4) ∧
  (∀ j, j < 6 → 0 < n → gS σ (16 * stI s j + 1) = nI n) ∧
  ∀ i, i < n → gA σ (stI s 0) i = v (23 + i) ∧ gA σ (stI s 1) i = v (29 + i) ∧ gA σ (stI s 2) i = v (37 + i) ∧ gA σ (stI s 3) i = v (5 + i) ∧ gA σ (stI s 4) i = v (11 + i) ∧ gA σ (stI s 5) i = v (17 + i)
def HM (n : Nat) (v : Nat → Int32) (τ : Sg) : Prop :=
  n ≤ 6 ∧ gS τ 17 = nI n ∧ gS τ 16 = v 35 ∧ (∀ k, k < 5 → gA τ 9 k = v k) ∧ ∀ i, i < n → gA τ 7 i = v (23 + i) ∧ gA τ 8 i = v (29 + i) ∧ gA τ 9 (5 + i) = v (5 + i) ∧ gA τ 9 (11 + i) = v (11 + i) ∧ gA τ 9 (17 + i) = v (17 + i)
def VWb (b n : Nat) (v : Nat → Int32) : Prop :=
  (v 3 = 0 ∨ v 3 = 1) ∧ (∃ p, p < 10000 ∧ v 4 = nI p) ∧ (∃ p, (p < n ∨ p = 0) ∧ v 2 = nI p) ∧ (∃ q, q < 100 ∧ v 35 = nI q) ∧ (∃ m, m ≤ 5 * b ∧ v 0 = nI m) ∧ (∃ m, m ≤ b ∧ v 1 = nI m) ∧
  ∀ i, i < n → (∃ k, k < 6 ∧ v (23 + i) = nI k) ∧ (∃ w, w < 100 ∧ v (29 + i) = nI w) ∧ (∃ d, d < 100 ∧ v (5 + i) = nI d) ∧ (∃ t, t ≤ b ∧ v (11 + i) = nI t) ∧ (v (17 + i) = -9 ∨ ∃ d, d < 100 ∧ v (17 + i) = nI d)
def VW (n : Nat) (v : Nat → Int32) : Prop := VWb 40 n v
theorem cLen_st {s j : Nat} (hs : isS s) (hj : j < 6) : cLen (stI s j) = 6 := by
  unfold isS at hs
  unfold cLen stI
  rcases hs with rfl | rfl
  all_goals (repeat' split)
  all_goals omega
theorem cLen_st6 {s : Nat} (hs : isS s) : cLen (stI s 6) = 40 := by
  rcases hs with rfl | rfl <;> rfl
section RC
variable {n : Nat} {v : Nat → Int32} {s : Nat} {σ : Sg}
theorem HC.g (h : HC n v s σ) {i j : Nat} (hi : i < n) (hj : j < 6) : f_X0_get (stI s j) (nI i) σ = some (gA σ (stI s j) i) :=
  X0_get_i (h.2.2.2.2.1 j hj (by omega)) (by rw [cLen_st h.2.1 hj]; exact h.1) hi
theorem HC.g0 (h : HC n v s σ) {i : Nat} (hi : i < n) : f_X0_get (stI s 0) (nI i) σ = some (v (23 + i)) := by
  rw [h.g hi (by decide)]
  have := h.2.2.2.2.2 i hi
  rw [this.1]
theorem HC.g1 (h : HC n v s σ) {i : Nat} (hi : i < n) : f_X0_get (stI s 1) (nI i) σ = some (v (29 + i)) := by
  rw [h.g hi (by decide)]
  have := h.2.2.2.2.2 i hi
  rw [this.2.1]
theorem HC.g2 (h : HC n v s σ) {i : Nat} (hi : i < n) : f_X0_get (stI s 2) (nI i) σ = some (v (37 + i)) := by
  rw [h.g hi (by decide)]
  have := h.2.2.2.2.2 i hi
  rw [this.2.2.1]
theorem HC.g3 (h : HC n v s σ) {i : Nat} (hi : i < n) : f_X0_get (stI s 3) (nI i) σ = some (v (5 + i)) := by
  rw [h.g hi (by decide)]
  have := h.2.2.2.2.2 i hi
  rw [this.2.2.2.1]
theorem HC.g4 (h : HC n v s σ) {i : Nat} (hi : i < n) : f_X0_get (stI s 4) (nI i) σ = some (v (11 + i)) := by
  rw [h.g hi (by decide)]
  have := h.2.2.2.2.2 i hi
  rw [this.2.2.2.2.1]
theorem HC.g5 (h : HC n v s σ) {i : Nat} (hi : i < n) : f_X0_get (stI s 5) (nI i) σ = some (v (17 + i)) := by
  rw [h.g hi (by decide)]
  have := h.2.2.2.2.2 i hi
  rw [this.2.2.2.2.2]
theorem X4_isHouse_i (h : HC n v s σ) {i : Nat} (hi : i < n) : f_X4_isHouse s (nI i) σ = some true := by
  have := h.1
  unfold f_X4_isHouse
  rw [h.2.2.1]
  simp (disch := omega) only [nIlt0, nIle, if_false]
  rw [if_neg (by omega)]
theorem X4_isHouse_o (h : HC n v s σ) {x : Int32} (hx : x < 0 ∨ (¬ x < 0 ∧ nI n ≤ x)) : f_X4_isHouse s x σ = some false := by
  unfold f_X4_isHouse
  rw [h.2.2.1]
  rcases hx with h1 | ⟨h1, h2⟩
  · rw [if_pos h1]
  · rw [if_neg h1, if_pos h2]
def awV (v : Nat → Int32) (i : Nat) : Bool := decide (¬ v (17 + i) = -9)
def dueV (v : Nat → Int32) (i : Nat) : Int32 := tapsV (v (23 + i)) (v (5 + i)) (v 3)
def moreV (v : Nat → Int32) (i : Nat) : Int32 := if awV v i then 0 else if dueV v i = -9 then -9 else mmax 1 (dueV v i - v (11 + i))
theorem X4_isAwake_v (h : HC n v s σ) {i : Nat} (hi : i < n) : f_X4_isAwake s (nI i) σ = some (awV v i) := by
  unfold f_X4_isAwake awV
  rw [X4_isHouse_i h hi, bndS, bfT, h.g5 hi, bndS]
  by_cases e : v (17 + i) = -9 <;> simp [e]
theorem X4_tapsFor_v (h : HC n v s σ) {i : Nat} (hi : i < n) (d : Int32) : f_X4_tapsFor s (nI i) d σ = some (tapsV (v (23 + i)) d (v 3)) := by
  unfold f_X4_tapsFor
  rw [h.g0 hi, bndS, h.2.2.2.1.2.2.1, X1_taps_v, bndS]
theorem X4_fee_v (h : HC n v s σ) {i : Nat} (hi : i < n) : f_X4_fee s (nI i) σ = some (feeV (v (23 + i))) := by
  unfold f_X4_fee
  rw [h.g0 hi, bndS, X1_fee_v, bndS]
theorem X4_more_v (h : HC n v s σ) {i : Nat} (hi : i < n) : f_X4_more s (nI i) σ = some (moreV v i) := by
  unfold f_X4_more moreV dueV
  rw [X4_isAwake_v h hi, bndS, h.g3 hi, h.g4 hi]
  cases awV v i
  · simp only [bfF, bndS, X4_tapsFor_v h hi, Bool.false_eq_true, if_false]
    split <;> rfl
  · rfl
def tellV (v : Nat → Int32) (i : Nat) (w : Int32) : Int32 := if w = 0 then v (23 + i) else if w = 1 then v (5 + i) else if w = 2 then v (29 + i) else if w = 3 then v (11 + i) else if w = 4 then v (17 + i) else moreV v i
theorem X4_tell_v (h : HC n v s σ) {i : Nat} (hi : i < n) (w : Int32) : f_X4_tell s (nI i) w σ = some (tellV v i w) := by
  unfold f_X4_tell tellV
  rw [h.g0 hi, h.g1 hi, h.g3 hi, h.g4 hi, h.g5 hi, X4_more_v h hi]
  simp only [bndS]
  repeat' split
  all_goals rfl
theorem al_succ (P : Nat → Bool) (j m : Nat) : al P j (m + 1) = (P j && al P (j + 1) m) := rfl
def hoV (a : Int32) (i : Nat) : Bool := decide (¬ (a >>> (nI i &&& 31)) &&& (1 : Int32) = 0)
theorem X5_holds_v (a : Int32) (i : Nat) : f_X5_holds a (nI i) = some (hoV a i) := by
  unfold f_X5_holds hoV
  by_cases e : (a >>> (nI i &&& 31)) &&& (1 : Int32) = 0 <;> simp [e]
def awakeSetV (v : Nat → Int32)  (n : Nat) : Int32 := fo (fun i x => if awV v i then x ||| ((1 : Int32) <<< (nI i &&& 31)) else x) 0 n 0
theorem X4_awakeSet_v (h : HC n v s σ)  : f_X4_awakeSet s  σ = some (awakeSetV v  n) := by
  have hn := h.1
  unfold f_X4_awakeSet awakeSetV
  refine loopP (fun N j x => l_X4_awakeSet_4 s σ (fun x => some x) N x (nI j)) (fun x => some x) (fun i x => if awV v i then x ||| ((1 : Int32) <<< (nI i &&& 31)) else x) n ?_ ?_ n 0 FU 0 (by omega) (lt_FU (by omega))
  · intro N x
    show l_X4_awakeSet_4 s σ _ (N + 1) x (nI n) = _
    unfold l_X4_awakeSet_4
    rw [h.2.2.1, if_pos (nI_le (Nat.le_refl _) (by omega))]
  · intro N j x hj
    show l_X4_awakeSet_4 s σ _ (N + 1) x (nI j) = _
    conv => lhs; unfold l_X4_awakeSet_4
    rw [h.2.2.1, if_neg (nI_ge hj (by omega))]
    simp only [nmE, nI_1]
    rw [X4_isAwake_v h hj, bndS]
    cases awV v j <;> rfl
def feesV (v : Nat → Int32) (a : Int32) (n : Nat) : Int32 := fo (fun i x => x + (if hoV a i then feeV (v (23 + i)) else 0)) 0 n 0
theorem X4_fees_v (h : HC n v s σ) (a : Int32) : f_X4_fees s a σ = some (feesV v a n) := by
  have hn := h.1
  unfold f_X4_fees feesV
  refine loopP (fun N j x => l_X4_fees_4 s a σ (fun x => some x) N x (nI j)) (fun x => some x) (fun i x => x + (if hoV a i then feeV (v (23 + i)) else 0)) n ?_ ?_ n 0 FU 0 (by omega) (lt_FU (by omega))
  · intro N x
    show l_X4_fees_4 s a σ _ (N + 1) x (nI n) = _
    unfold l_X4_fees_4
    rw [h.2.2.1, if_pos (nI_le (Nat.le_refl _) (by omega))]
  · intro N j x hj
    show l_X4_fees_4 s a σ _ (N + 1) x (nI j) = _
    conv => lhs; unfold l_X4_fees_4
    rw [h.2.2.1, if_neg (nI_ge hj (by omega))]
    simp only [nmE, nI_1]
    rw [X5_holds_v, bndS, X4_fee_v h hj]
    cases hoV a j <;> rfl
def tapsLeftV (v : Nat → Int32) (a : Int32) (n : Nat) : Int32 := fo (fun i x => x + (if hoV a i then mmax 0 (moreV v i) else 0)) 0 n 0
theorem X4_tapsLeft_v (h : HC n v s σ) (a : Int32) : f_X4_tapsLeft s a σ = some (tapsLeftV v a n) := by
  have hn := h.1
  unfold f_X4_tapsLeft tapsLeftV
  refine loopP (fun N j x => l_X4_tapsLeft_4 s a σ (fun x => some x) N x (nI j)) (fun x => some x) (fun i x => x + (if hoV a i then mmax 0 (moreV v i) else 0)) n ?_ ?_ n 0 FU 0 (by omega) (lt_FU (by omega))
  · intro N x
    show l_X4_tapsLeft_4 s a σ _ (N + 1) x (nI n) = _
    unfold l_X4_tapsLeft_4
    rw [h.2.2.1, if_pos (nI_le (Nat.le_refl _) (by omega))]
  · intro N j x hj
    show l_X4_tapsLeft_4 s a σ _ (N + 1) x (nI j) = _
    conv => lhs; unfold l_X4_tapsLeft_4
    rw [h.2.2.1, if_neg (nI_ge hj (by omega))]
    simp only [nmE, nI_1]
    rw [X5_holds_v, bndS, X4_more_v h hj]
    cases hoV a j <;> rfl
def manyOfV (v : Nat → Int32) (a : Int32) (n : Nat) : Int32 := fo (fun i x => x + b2i (isOfV (v (23 + i)) a)) 0 n 0
theorem X4_manyOf_v (h : HC n v s σ) (a : Int32) : f_X4_manyOf s a σ = some (manyOfV v a n) := by
  have hn := h.1
  unfold f_X4_manyOf manyOfV
  refine loopP (fun N j x => l_X4_manyOf_4 s a σ (fun x => some x) N x (nI j)) (fun x => some x) (fun i x => x + b2i (isOfV (v (23 + i)) a)) n ?_ ?_ n 0 FU 0 (by omega) (lt_FU (by omega))
  · intro N x
    show l_X4_manyOf_4 s a σ _ (N + 1) x (nI n) = _
    unfold l_X4_manyOf_4
    rw [h.2.2.1, if_pos (nI_le (Nat.le_refl _) (by omega))]
  · intro N j x hj
    show l_X4_manyOf_4 s a σ _ (N + 1) x (nI j) = _
    conv => lhs; unfold l_X4_manyOf_4
    rw [h.2.2.1, if_neg (nI_ge hj (by omega))]
    simp only [nmE, nI_1]
    rw [h.g0 hj, bndS, X1_isOf_v, bndS]
    cases isOfV (v (23 + j)) a <;> rfl
def earlierV (v : Nat → Int32) (i n : Nat) : Int32 := fo (fun o x => x + b2i (decide (v (5 + o) < v (5 + i)))) 0 n 0
def quarV (v : Nat → Int32) (i : Nat) : Bool := awV v i && (awV v (i + 1) && decide (¬ mabs (v (17 + i) - v (17 + (i + 1))) ≤ v 35))
def quarrelsV (v : Nat → Int32) (n : Nat) : Int32 := fo (fun i x => x + b2i (quarV v i)) 0 (n - 1) 0
/-- all of a set can be woken -/
def canV (v : Nat → Int32) (a : Int32) (n : Nat) : Bool := al (fun i => !(hoV a i) || decide (0 < moreV v i)) 0 n
theorem X4_canWake_v (h : HC n v s σ) (a : Int32) : f_X4_canWake s a σ = some (canV v a n) := by
  have hn := h.1
  unfold f_X4_canWake canV
  suffices H : ∀ (m j N : Nat), j + m = n → m < N → l_X4_canWake_2 s a σ N (nI j) = some (al (fun i => !(hoV a i) || decide (0 < moreV v i)) j m) from H n 0 FU (by omega) (lt_FU (by omega))
  intro m
  induction m with
  | zero =>
    intro j N hj hN
    obtain ⟨N, rfl⟩ : ∃ k, N = k + 1 := ⟨N - 1, by omega⟩
    obtain rfl : j = n := hj
    unfold l_X4_canWake_2
    rw [h.2.2.1, if_pos (nI_le (Nat.le_refl _) (by omega))]
    rfl
  | succ m ih =>
    intro j N hj hN
    obtain ⟨N, rfl⟩ : ∃ k, N = k + 1 := ⟨N - 1, by omega⟩
    unfold l_X4_canWake_2
    rw [h.2.2.1, if_neg (nI_ge (show j < n by omega) (by omega)), X5_holds_v, X4_more_v h (show j < n by omega)]
    simp only [nmE, nI_1, bndS]
    rw [ih (j + 1) N (by omega) (by omega)]
    rw [al_succ]
    cases hoV a j
    · simp [bf]
    · by_cases e : 0 < moreV v j
      · simp [e, bf]
      · simp [e, bf]
end RC
section RM
variable {n : Nat} {v : Nat → Int32} {τ : Sg}
theorem HM.n6 (h : HM n v τ) : n ≤ 6 := h.1
theorem HM.now (h : HM n v τ) {k : Nat} (hk : k < 5) : gA τ 9 k = v k := h.2.2.2.1 k hk
theorem HM.k (h : HM n v τ) {i : Nat} (hi : i < n) : gA τ 7 i = v (23 + i) := (h.2.2.2.2 i hi).1
theorem HM.w (h : HM n v τ) {i : Nat} (hi : i < n) : gA τ 8 i = v (29 + i) := (h.2.2.2.2 i hi).2.1
theorem HM.d (h : HM n v τ) {i : Nat} (hi : i < n) : gA τ 9 (5 + i) = v (5 + i) := (h.2.2.2.2 i hi).2.2.1
theorem HM.t (h : HM n v τ) {i : Nat} (hi : i < n) : gA τ 9 (11 + i) = v (11 + i) := (h.2.2.2.2 i hi).2.2.2.1
theorem HM.y (h : HM n v τ) {i : Nat} (hi : i < n) : gA τ 9 (17 + i) = v (17 + i) := (h.2.2.2.2 i hi).2.2.2.2
theorem duest : ∀ k < 6, ∀ d < 100, ∀ f < 2, tapsV (nI k) (nI d) (nI f) = -9 ∨ ∃ x, x < 6 ∧ 0 < x ∧ tapsV (nI k) (nI d) (nI f) = nI x := by
  have h : ∀ k < 6, ∀ d < 100, ∀ f < 2, tapsV (nI k) (nI d) (nI f) = -9 ∨ tapsV (nI k) (nI d) (nI f) = nI 1 ∨ tapsV (nI k) (nI d) (nI f) = nI 2 ∨ tapsV (nI k) (nI d) (nI f) = nI 3 ∨ tapsV (nI k) (nI d) (nI f) = nI 4 ∨ tapsV (nI k) (nI d) (nI f) = nI 5 := by decide +kernel
  intro k hk d hd f hf
  rcases h k hk d hd f hf with e | e | e | e | e | e
  · exact Or.inl e
  · exact Or.inr ⟨1, by omega, by omega, e⟩
  · exact Or.inr ⟨2, by omega, by omega, e⟩
  · exact Or.inr ⟨3, by omega, by omega, e⟩
  · exact Or.inr ⟨4, by omega, by omega, e⟩
  · exact Or.inr ⟨5, by omega, by omega, e⟩
theorem due_rg (hv : VW n v) {i : Nat} (hi : i < n) : dueV v i = -9 ∨ ∃ x, x < 6 ∧ 0 < x ∧ dueV v i = nI x := by
  obtain ⟨⟨k, hk, ek⟩, -, ⟨d, hd, ed⟩, -⟩ := hv.2.2.2.2.2.2 i hi
  unfold dueV
  rw [ek, ed]
  rcases hv.1 with e | e
  · rw [e]; exact duest k hk d hd 0 (by decide)
  · rw [e]; exact duest k hk d hd 1 (by decide)
theorem more_m : ∀ x < 6, 0 < x → ∀ t < 41, mmax 1 (nI x - nI t) = if x ≤ t then 1 else nI (x - t) := by decide +kernel
theorem nI9 {x : Nat} (h : x < 2 ^ 31) : ¬ nI x = -9 := by
  intro z
  have := congrArg Int32.toInt z
  rw [nI_toInt h] at this
  have e9 : (-9 : Int32).toInt = -9 := by decide
  omega
theorem more_rg (hv : VW n v) {i : Nat} (hi : i < n) : moreV v i = -9 ∨ ∃ x, x < 6 ∧ moreV v i = nI x := by
  obtain ⟨-, -, -, ⟨t, ht, et⟩, -⟩ := hv.2.2.2.2.2.2 i hi
  unfold moreV
  cases awV v i
  · simp only [Bool.false_eq_true, if_false]
    rcases due_rg hv hi with e | ⟨x, hx, hx0, e⟩
    · rw [if_pos e]; exact Or.inl rfl
    · rw [e, et, more_m x hx hx0 t (by omega), if_neg (nI9 (by omega))]
      refine Or.inr ?_
      by_cases h : x ≤ t
      · rw [if_pos h]; exact ⟨1, by omega, rfl⟩
      · rw [if_neg h]; exact ⟨x - t, by omega, rfl⟩
  · exact Or.inr ⟨0, by omega, if_pos rfl⟩
end RM
