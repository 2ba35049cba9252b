/-! numbers, loops, states -/
theorem lt_FU {m : Nat} (h : m < 100000) : m < FU := Nat.lt_trans h (by decide)
def fo {α : Type} (g : Nat → α → α) : Nat → Nat → α → α
  | _, 0, a => a
  | j, m + 1, a => fo g (j + 1) m (g j a)
theorem loopL {α β : Type} (L : Nat → Nat → α → Option β) (K : α → Option β) (g : Nat → α → α) (n : Nat) (I : Nat → α → Prop)
    (he : ∀ N a, I n a → L (N + 1) n a = K a) (hs : ∀ N j a, j < n → I j a → L (N + 1) j a = L N (j + 1) (g j a) ∧ I (j + 1) (g j a)) :
    ∀ (m j N : Nat) (a : α), j + m = n → m < N → I j a → L N j a = K (fo g j m a) ∧ I n (fo g j m a) := by
  intro m
  induction m with
  | zero =>
    intro j N a hj hN hI
    obtain rfl : j = n := hj
    obtain ⟨N, rfl⟩ : ∃ k, N = k + 1 := ⟨N - 1, by omega⟩
    exact ⟨he N a hI, hI⟩
  | succ m ih =>
    intro j N a hj hN hI
    obtain ⟨N, rfl⟩ : ∃ k, N = k + 1 := ⟨N - 1, by omega⟩
    obtain ⟨h1, h2⟩ := hs N j a (by omega) hI
    rw [h1]
    exact ih (j + 1) N (g j a) (by omega) (by omega) h2
theorem loopP {α β : Type} (L : Nat → Nat → α → Option β) (K : α → Option β) (g : Nat → α → α) (n : Nat)
    (he : ∀ N a, L (N + 1) n a = K a) (hs : ∀ N j a, j < n → L (N + 1) j a = L N (j + 1) (g j a))
    (m j N : Nat) (a : α) (hj : j + m = n) (hN : m < N) : L N j a = K (fo g j m a) :=
  (loopL L K g n (fun _ _ => True) (fun N a _ => he N a) (fun N j a h _ => ⟨hs N j a h, trivial⟩) m j N a hj hN trivial).1
theorem fo_congr {α : Type} {g g' : Nat → α → α} : ∀ (m j : Nat) (a : α), (∀ i a, j ≤ i → i < j + m → g i a = g' i a) → fo g j m a = fo g' j m a := by
  intro m
  induction m with
  | zero => intro j a _; rfl
  | succ m ih =>
    intro j a h
    show fo g (j + 1) m (g j a) = fo g' (j + 1) m (g' j a)
    rw [h j a (Nat.le_refl _) (by omega)]
    exact ih (j + 1) _ (fun i a h1 h2 => h i a (by omega) (by omega))
theorem fo_ind {α : Type} {g : Nat → α → α} (I : Nat → α → Prop) : ∀ (m j : Nat) (a : α), (∀ i a, j ≤ i → i < j + m → I i a → I (i + 1) (g i a)) → I j a → I (j + m) (fo g j m a) := by
  intro m
  induction m with
  | zero => intro j a _ h; exact h
  | succ m ih =>
    intro j a h h0
    have := ih (j + 1) (g j a) (fun i a h1 h2 => h i a (by omega) (by omega)) (h j a (Nat.le_refl _) (by omega) h0)
    rw [show j + (m + 1) = j + 1 + m by omega]
    exact this
theorem fo_snoc {α : Type} {g : Nat → α → α} : ∀ (m j : Nat) (a : α), fo g j (m + 1) a = g (j + m) (fo g j m a) := by
  intro m
  induction m with
  | zero => intro j a; rfl
  | succ m ih =>
    intro j a
    show fo g (j + 1) (m + 1) (g j a) = _
    rw [ih (j + 1) (g j a), show j + 1 + m = j + (m + 1) by omega]
    rfl
/-- all of j.. hold -/
def al (P : Nat → Bool) : Nat → Nat → Bool
  | _, 0 => true
  | j, m + 1 => P j && al P (j + 1) m
theorem nIlt0 {k : Nat} (h : k < 2 ^ 31) : (nI k < 0) = False := eq_false (nI_pos h)
theorem nIge0 {k : Nat} (h : k < 2 ^ 31) : (0 ≤ nI k) = True := eq_true (nI_pos' h)
theorem nIle {a b : Nat} (ha : a < 2 ^ 31) (hb : b < 2 ^ 31) : (nI a ≤ nI b) = (a ≤ b) := propext (nI_leI ha hb)
theorem nIlt {a b : Nat} (ha : a < 2 ^ 31) (hb : b < 2 ^ 31) : (nI a < nI b) = (a < b) := propext (nI_ltI ha hb)
theorem nIeq {a b : Nat} (ha : a < 2 ^ 31) (hb : b < 2 ^ 31) : (nI a = nI b) = (a = b) := propext (nI_eq ha hb)
theorem nImul (a b : Nat) : nI a * nI b = nI (a * b) := (Int32.ofNat_mul a b).symm
theorem nIsub {a b : Nat} (h : b ≤ a) : nI a - nI b = nI (a - b) := by
  have := nI_add (a - b) b
  rw [Nat.sub_add_cancel h] at this
  rw [← this, Int32.add_sub_cancel]
theorem inB_nI {k N : Nat} (h : k < N) (hN : N ≤ 2 ^ 31) : inB (nI k) N = true := by
  have hk : k < 2 ^ 31 := by omega
  simp only [inB, nIlt0 hk, nI_clamp hk, decide_false, Bool.not_false, Bool.true_and, decide_eq_true_eq]
  exact h
theorem nIm1 : ∀ k, k < 2 ^ 31 → (nI k ≤ -1) = False := fun k h => eq_false (fun z => by
  have := Int32.le_iff_toInt_le.mp z
  rw [nI_toInt h] at this
  have e : (-1 : Int32).toInt = -1 := by decide
  omega)
/-- an int is a place of n, or none -/
theorem i32c (x : Int32) {n : Nat} (hn : n < 2 ^ 31) : (∃ i, i < n ∧ x = nI i) ∨ x < 0 ∨ (¬ x < 0 ∧ nI n ≤ x) := by
  by_cases h : x < 0
  · exact Or.inr (Or.inl h)
  · obtain ⟨j, hj, rfl⟩ := nI_of h
    by_cases h2 : j < n
    · exact Or.inl ⟨j, h2, rfl⟩
    · exact Or.inr (Or.inr ⟨h, nI_le (by omega) hj⟩)
theorem ckT {α : Type} (x : Option α) : ck true x = x := rfl
theorem bfT {α : Type} (x y : α) : bf true x y = x := rfl
theorem bfF {α : Type} (x y : α) : bf false x y = y := rfl
theorem bndS {α β : Type} (a : α) (k : α → Option β) : bnd (some a) k = k a := rfl
theorem bnd2S {α β γ : Type} (a : α) (b : β) (k : α → β → Option γ) : bnd2 (some (a, b)) k = k a b := rfl
theorem ocN {β : Type} (A : β) (B : Nat → β) : oc none A B = A := rfl
theorem ocS {β : Type} (q : Nat) (A : β) (B : Nat → β) : oc (some q) A B = B q := rfl
theorem nmE {α β : Type} (e : α) (k : α → β) : nm e k = k e := rfl
theorem bf_if {α : Type} {P : Prop} [Decidable P] (x y : α) : bf (decide P) x y = if P then x else y := by
  by_cases h : P <;> simp [h, bf]
theorem pA_pA (σ : Sg) (a : Nat) (f g : Nat → Int32) : pA (pA σ a f) a g = pA σ a g := by
  unfold pA
  congr 3
  funext j
  simp only [va_up]
  split <;> rfl
theorem pA_self (σ : Sg) (a : Nat) : pA σ a (gA σ a) = σ := by
  unfold pA gA
  have : va_up σ.2.2.1 a (σ.2.2.1 a) = σ.2.2.1 := by
    funext j
    simp only [va_up]
    split
    · next h => rw [h]
    · rfl
  rw [this]
theorem pA_pS (σ : Sg) (a k : Nat) (f : Nat → Int32) (x : Int32) : pS (pA σ a f) k x = pA (pS σ k x) a f := rfl
theorem gA_same (σ : Sg) (a : Nat) (f : Nat → Int32) : gA (pA σ a f) a = f := by rw [gA_pA, if_pos rfl]
theorem gA_ne (σ : Sg) {a b : Nat} (f : Nat → Int32) (h : b ≠ a) : gA (pA σ a f) b = gA σ b := by rw [gA_pA, if_neg h]
theorem gS_same (σ : Sg) (a : Nat) (x : Int32) : gS (pS σ a x) a = x := by rw [gS_pS, if_pos rfl]
theorem gS_ne (σ : Sg) {a b : Nat} (x : Int32) (h : b ≠ a) : gS (pS σ a x) b = gS σ b := by rw [gS_pS, if_neg h]
theorem cLen_lt (q : Nat) : cLen q ≤ 384 := by unfold cLen; repeat' split
                                               all_goals omega
/-! Ints -/
section XI
variable {σ : Sg} {q m : Nat}
theorem X0_has_i {i : Nat} (hs : gS σ (16 * q + 1) = nI m) (hm : m ≤ cLen q) (hi : i < 2 ^ 31) : f_X0_has q (nI i) σ = some (decide (i < m)) := by
  have h0 := cLen_lt q
  unfold f_X0_has
  rw [hs]
  simp (disch := omega) only [nIlt0, nIle, if_false]
  by_cases h1 : i < m
  · rw [if_neg (by omega), if_neg (by omega)]; simp [h1]
  · rw [if_pos (by omega)]; simp [h1]
theorem X0_has_n {x : Int32} (hx : x < 0) : f_X0_has q x σ = some false := by unfold f_X0_has; rw [if_pos hx]
theorem X0_get_i {i : Nat} (hs : gS σ (16 * q + 1) = nI m) (hm : m ≤ cLen q) (hi : i < m) : f_X0_get q (nI i) σ = some (gA σ q i) := by
  have h0 := cLen_lt q
  unfold f_X0_get
  rw [hs]
  simp (disch := omega) only [nIlt0, nIle, if_false, inB_nI, nI_clamp, ckT]
  rw [if_neg (by omega), if_neg (by omega)]
theorem X0_get_o {x : Int32} (h : gS σ (16 * q + 1) ≤ x) : f_X0_get q x σ = some 0 := by
  unfold f_X0_get
  by_cases h1 : x < 0
  · rw [if_pos h1]
  · rw [if_neg h1, if_pos h]
theorem X0_set_i {i : Nat} {w : Int32} (hs : gS σ (16 * q + 1) = nI m) (hm : m ≤ cLen q) (hi : i < m) : f_X0_set q (nI i) w σ = some (pA σ q (upd (gA σ q) i w)) := by
  have h0 := cLen_lt q
  unfold f_X0_set
  rw [hs]
  simp (disch := omega) only [nIlt0, nIle, if_false, inB_nI, nI_clamp, ckT, nmE]
  rw [if_neg (by omega), if_neg (by omega)]
theorem X0_set_o {x w : Int32} (h : gS σ (16 * q + 1) ≤ x) : f_X0_set q x w σ = some σ := by
  unfold f_X0_set
  by_cases h1 : x < 0
  · rw [if_pos h1]
  · rw [if_neg h1, if_pos h]
theorem X0_add_i {w : Int32} (hs : gS σ (16 * q + 1) = nI m) (hm : m < cLen q) : f_X0_add q w σ = some (pA (pS σ (16 * q + 1) (nI (m + 1))) q (upd (gA σ q) m w)) := by
  have h0 := cLen_lt q
  unfold f_X0_add
  rw [hs]
  simp (disch := omega) only [nIlt0, nIle, if_false, inB_nI, nI_clamp, ckT, nmE]
  rw [if_neg (by omega), gS_pA, hs, nI_1]
  rfl
theorem fillg (w : Int32) : ∀ (k j : Nat) (σ : Sg), fo (fun j (σ : Sg) => pA σ q (upd (gA σ q) j w)) j k σ = pA σ q (fun i => if j ≤ i ∧ i < j + k then w else gA σ q i) := by
  intro k
  induction k with
  | zero =>
    intro j σ
    show σ = _
    rw [show (fun i => if j ≤ i ∧ i < j + 0 then w else gA σ q i) = gA σ q from funext fun i => by rw [if_neg (by omega)], pA_self]
  | succ k ih =>
    intro j σ
    show fo _ (j + 1) k (pA σ q (upd (gA σ q) j w)) = _
    rw [ih, pA_pA]
    congr 1
    funext i
    rw [gA_same]
    unfold upd
    by_cases h1 : i = j
    · subst h1
      rw [if_neg (by omega), if_pos rfl, if_pos (by omega)]
    · rw [if_neg h1]
      by_cases h2 : j + 1 ≤ i ∧ i < j + 1 + k
      · rw [if_pos h2, if_pos (by omega)]
      · rw [if_neg h2, if_neg (by omega)]
theorem mx0 {k : Nat} (h : k < 2 ^ 31) : mmax 0 (nI k) = nI k := by
  unfold mmax
  split
  · rfl
  · next z =>
    have : k = 0 := by
      rcases Nat.eq_zero_or_pos k with e | e
      · exact e
      · exact absurd (nI_lt e h) z
    rw [this]; rfl
theorem mxn {x : Int32} (h : x < 0) : mmax 0 x = 0 := by
  unfold mmax
  rw [if_neg]
  intro z
  have h1 := Int32.lt_iff_toInt_lt.mp h
  have h2 := Int32.lt_iff_toInt_lt.mp z
  omega
theorem mmin_n {a b : Nat} (ha : a < 2 ^ 31) (hb : b < 2 ^ 31) : mmin (nI a) (nI b) = nI (min a b) := by
  unfold mmin
  simp only [nIlt hb ha]
  by_cases h : b < a
  · rw [if_pos h, Nat.min_eq_right (by omega)]
  · rw [if_neg h, Nat.min_eq_left (by omega)]
theorem mmax_n {a b : Nat} (ha : a < 2 ^ 31) (hb : b < 2 ^ 31) : mmax (nI a) (nI b) = nI (max a b) := by
  unfold mmax
  simp only [nIlt ha hb]
  by_cases h : a < b
  · rw [if_pos h, Nat.max_eq_right (by omega)]
  · rw [if_neg h, Nat.max_eq_left (by omega)]
theorem X0_fill_m {i1 w : Int32} (h1 : mmax 0 (mmin i1 (nI (cLen q))) = nI m) (hm : m ≤ cLen q) : f_X0_fill q i1 w σ = some (pA (pS σ (16 * q + 1) (nI m)) q (fun i => if i < m then w else gA σ q i)) := by
  have h0 := cLen_lt q
  unfold f_X0_fill
  rw [h1, nmE]
  have := (loopL (fun N j σ => l_X0_fill_19 q w (fun σv => some σv) N (nI j) σ) (fun σ => some σ) (fun j (σ : Sg) => pA σ q (upd (gA σ q) j w)) m (fun _ σ => gS σ (16 * q + 1) = nI m)
    (fun N σ h => by
      show l_X0_fill_19 q w _ (N + 1) (nI m) σ = _
      unfold l_X0_fill_19
      rw [h, if_pos (nI_le (Nat.le_refl _) (by omega))])
    (fun N j σ hj h => by
      refine ⟨?_, h⟩
      show l_X0_fill_19 q w _ (N + 1) (nI j) σ = _
      conv => lhs; unfold l_X0_fill_19
      rw [h]
      simp (disch := omega) only [nIle, inB_nI, nI_clamp, ckT, nmE]
      rw [if_neg (by omega), if_neg (by omega), nI_1]) m 0 FU (pS σ (16 * q + 1) (nI m)) (by omega) (lt_FU (by omega)) (gS_same _ _ _)).1
  have e : (0 : Int32) = nI 0 := rfl
  rw [e]
  refine this.trans ?_
  rw [fillg]
  congr 2
  funext i
  simp only [Nat.zero_le, true_and, Nat.zero_add]
  rfl
theorem X0_fill_i {k : Nat} {w : Int32} (hk : k ≤ cLen q) : f_X0_fill q (nI k) w σ = some (pA (pS σ (16 * q + 1) (nI k)) q (fun i => if i < k then w else gA σ q i)) := by
  have h0 := cLen_lt q
  refine X0_fill_m ?_ hk
  rw [mmin_n (by omega) (by omega), Nat.min_eq_left hk, mx0 (by omega)]
theorem X0_fill_n {x w : Int32} (hx : x < 0) : f_X0_fill q x w σ = some (pS σ (16 * q + 1) 0) := by
  have h0 := cLen_lt q
  have e : mmin x (nI (cLen q)) = x := by
    unfold mmin
    rw [if_neg]
    intro z
    have h1 := Int32.lt_iff_toInt_lt.mp hx
    have h2 := Int32.lt_iff_toInt_lt.mp z
    rw [nI_toInt (by omega)] at h2
    have e : (0 : Int32).toInt = 0 := by decide
    omega
  have := X0_fill_m (σ := σ) (q := q) (m := 0) (i1 := x) (w := w) (by rw [e, mxn hx]; rfl) (Nat.zero_le _)
  rw [this]
  congr 1
  rw [show (fun i => if i < 0 then w else gA σ q i) = gA (pS σ (16 * q + 1) (nI 0)) q from funext fun i => by rw [if_neg (by omega)]; rfl, pA_self]
  rfl
theorem X0_cut_i {k : Nat} (hs : gS σ (16 * q + 1) = nI m) (hm : m ≤ cLen q) (hk : k < 2 ^ 31) : f_X0_cut q (nI k) σ = some (pS σ (16 * q + 1) (nI (min m k))) := by
  have h0 := cLen_lt q
  unfold f_X0_cut
  rw [hs, mx0 hk, mmin_n (by omega) hk]
  rfl
theorem X0_spans_i {i n : Nat} (hs : gS σ (16 * q + 1) = nI m) (hm : m ≤ cLen q) (hi : i < 2 ^ 31) (hn : n ≤ m) : f_X0_spans q (nI i) (nI n) σ = some (decide (i + n ≤ m)) := by
  have h0 := cLen_lt q
  unfold f_X0_spans
  rw [hs, nIsub hn]
  simp (disch := omega) only [nIlt0, nIlt, if_false]
  by_cases h : i + n ≤ m
  · rw [if_neg (by omega), if_neg (by omega)]; simp [h]
  · rw [if_pos (by omega)]; simp [h]
theorem X0_takeFrom_i {d : Nat} (hs : gS σ (16 * q + 1) = nI m) (hm : m ≤ cLen q) (hd : m ≤ cLen d) (hne : d ≠ q) : f_X0_takeFrom d q σ = some (pA (pS σ (16 * d + 1) (nI m)) d (fun i => if i < m then gA σ q i else gA σ d i)) := by
  have h0 := cLen_lt q
  have h9 := cLen_lt d
  unfold f_X0_takeFrom
  rw [hs, X0_fill_i hd, bndS]
  have e1 : ∀ f, gS (pA (pS σ (16 * d + 1) (nI m)) d f) (16 * d + 1) = nI m := fun f => gS_same _ _ _
  have e2 : ∀ f, gS (pA (pS σ (16 * d + 1) (nI m)) d f) (16 * q + 1) = nI m := fun f => (gS_ne _ _ (by omega)).trans hs
  rw [e1]
  unfold f_X0_copyOut
  have z : (0 : Int32) = nI 0 := rfl
  rw [z, X0_spans_i (e2 _) hm (by omega) (Nat.le_refl _), X0_spans_i (e1 _) hd (by omega) (Nat.le_refl _)]
  simp only [Nat.zero_add, Nat.le_refl, decide_true, bndS, bfT, nmE]
  have hac : acB (nI 0) (nI 0) (nI m) (cLen q) (cLen d) = true := by
    unfold acB
    simp (disch := omega) only [nIlt0, nI_clamp]
    simp [hm, hd]
  rw [hac, ckT, pA_pA, nI_clamp (show (0 : Nat) < 2 ^ 31 by omega), nI_clamp (by omega), gA_same, gA_ne _ _ (Ne.symm hne), bndS]
  congr 2
  funext i
  unfold va_cpy
  by_cases h : i < m
  · rw [if_pos (by omega), if_pos h]; simp; rfl
  · rw [if_neg (by omega), if_neg h]
    exact if_neg h
theorem X0_takeFrom_n {d : Nat} (hs : gS σ (16 * q + 1) = -1) (hne : d ≠ q) : f_X0_takeFrom d q σ = some (pS σ (16 * d + 1) 0) := by
  unfold f_X0_takeFrom
  rw [hs, X0_fill_n (by decide), bndS]
  unfold f_X0_copyOut
  rw [gS_same]
  have e : f_X0_spans q (0 : Int32) (0 : Int32) (pS σ (16 * d + 1) 0) = some false := by
    unfold f_X0_spans
    rw [gS_ne _ _ (by omega), hs]
    rfl
  rw [e]
  rfl
end XI
