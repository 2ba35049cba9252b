theorem fo_succ {α : Type} (g : Nat → α → α) (j m : Nat) (a : α) : fo g j (m + 1) a = fo g (j + 1) m (g j a) := rfl
theorem fo_and (P : Nat → Bool) : ∀ m j b, fo (fun i b => b && P i) j m b = (b && al P j m) := by
  intro m
  induction m with
  | zero => intro j b; simp [fo, al]
  | succ m ih =>
    intro j b
    show fo _ (j + 1) m (b && P j) = _
    rw [ih, al_succ, Bool.and_assoc]
theorem al_congr {P Q : Nat → Bool} : ∀ m j, (∀ i, j ≤ i → i < j + m → P i = Q i) → al P j m = al Q j m := by
  intro m
  induction m with
  | zero => intro j _; rfl
  | succ m ih =>
    intro j h
    rw [al_succ, al_succ, h j (Nat.le_refl _) (by omega), ih (j + 1) (fun i h1 h2 => h i (by omega) (by omega))]
theorem al_pairs (P : Nat → Bool) : ∀ m j, al P (2 * j) (2 * m) = al (fun p => P (2 * p) && P (2 * p + 1)) j m := by
  intro m
  induction m with
  | zero => intro j; rfl
  | succ m ih =>
    intro j
    rw [al_succ, show 2 * (m + 1) = 2 * m + 1 + 1 by omega, al_succ, al_succ, show 2 * j + 1 + 1 = 2 * (j + 1) by omega, ih, Bool.and_assoc]
theorem fo_congrI {α : Type} {g g' : Nat → α → α} (I : Nat → α → Prop) : ∀ (m j : Nat) (a : α), (∀ i a, j ≤ i → i < j + m → I i a → g i a = g' i a ∧ I (i + 1) (g i a)) → I j a → fo g j m a = fo g' j m a := by
  intro m
  induction m with
  | zero => intro j a _ _; rfl
  | succ m ih =>
    intro j a h h0
    obtain ⟨e, h1⟩ := h j a (Nat.le_refl _) (by omega) h0
    show fo g (j + 1) m (g j a) = fo g' (j + 1) m (g' j a)
    rw [← e]
    exact ih (j + 1) _ (fun i a h1 h2 => h i a (by omega) (by omega)) h1
/-- is a row of pairs one -/
def pairB (it : Nat → Int32) (p : Nat) : Bool := inV (it (2 * p)) 0 99 && inV (it (2 * p + 1)) 0 9
def tookV (k d f : Int32) : Int32 := if tapsV k d f = -9 then 0 else tapsV k d f
def tookB (it : Nat → Int32) (k f : Int32) (p : Nat) : Bool := decide (tookV k (it (2 * p)) f = it (2 * p + 1))
def canB (it : Nat → Int32) (h : Nat) (k f : Int32) : Bool := al (tookB it k f) 0 h
theorem X5_tookOf_v (k d f : Int32) : f_X5_tookOf k d f = some (tookV k d f) := by
  unfold f_X5_tookOf tookV
  rw [X1_taps_v, bndS]
  split <;> rfl
theorem refP_C {σ : Sg} {r m : Nat} {it : Nat → Int32} {K : Option (Int32 × Sg)} (hs : gS σ (16 * (5 + r) + 1) = nI (2 * m)) (hm : 2 * m ≤ 40) (hr : r < 6) (hi : ∀ i, i < 2 * m → gA σ (5 + r) i = it i) : l_X5_refusedPairs_42 (5 + r) σ K FU 0 = if al (pairB it) 0 m = true then some (0, σ) else K := by
  have hcl : 2 * m ≤ cLen (5 + r) := by rw [cLen_row hr]; exact hm
  suffices H : ∀ (d j N : Nat), j + d = m → d < N → l_X5_refusedPairs_42 (5 + r) σ K N (nI (2 * j)) = if al (pairB it) j d = true then some (0, σ) else K from H m 0 FU (by omega) (lt_FU (by omega))
  intro d
  induction d with
  | zero =>
    intro j N hj hN
    obtain ⟨N, rfl⟩ : ∃ k, N = k + 1 := ⟨N - 1, by omega⟩
    unfold l_X5_refusedPairs_42
    rw [hs, if_pos (nI_le (by omega) (by omega)), if_pos (show al (pairB it) j 0 = true from rfl)]
  | succ d ih =>
    intro j N hj hN
    obtain ⟨N, rfl⟩ : ∃ k, N = k + 1 := ⟨N - 1, by omega⟩
    unfold l_X5_refusedPairs_42
    rw [hs, if_neg (nI_ge (by omega) (by omega)), X0_get_i hs hcl (by omega), bndS, hi _ (by omega), X5_isDate_v, bndS, nI_1, X0_get_i hs hcl (by omega), hi _ (by omega), bndS, X5_within_v, bndS, nmE, show nI (2 * j) + (2 : Int32) = nI (2 * (j + 1)) from nI_add (2 * j) 2, ih (j + 1) N (by omega) (by omega), al_succ]
    unfold pairB
    cases inV (it (2 * j)) 0 99
    · rfl
    · cases inV (it (2 * j + 1)) 0 9
      · rfl
      · rfl
theorem canBe_C {σ : Sg} {r m n : Nat} {v it : Nat → Int32} {k : Int32} (hc : HC n v (gR σ 0) σ) (hs : gS σ (16 * (5 + r) + 1) = nI (2 * m)) (hm : 2 * m ≤ 40) (hr : r < 6) (hi : ∀ i, i < 2 * m → gA σ (5 + r) i = it i) : f_X5_canBe k (5 + r) σ = some (canB it m k (v 3)) := by
  have hcl : 2 * m ≤ cLen (5 + r) := by rw [cLen_row hr]; exact hm
  unfold f_X5_canBe canB
  suffices H : ∀ (d j N : Nat), j + d = m → d < N → l_X5_canBe_2 k (5 + r) σ N (nI (2 * j)) = some (al (tookB it k (v 3)) j d) from H m 0 FU (by omega) (lt_FU (by omega))
  intro d
  induction d with
  | zero =>
    intro j N hj hN
    obtain ⟨N, rfl⟩ : ∃ k, N = k + 1 := ⟨N - 1, by omega⟩
    unfold l_X5_canBe_2
    rw [hs, if_pos (nI_le (by omega) (by omega))]
    rfl
  | succ d ih =>
    intro j N hj hN
    obtain ⟨N, rfl⟩ : ∃ k, N = k + 1 := ⟨N - 1, by omega⟩
    unfold l_X5_canBe_2
    rw [hs, if_neg (nI_ge (by omega) (by omega)), X0_get_i hs hcl (by omega), bndS, hi _ (by omega), X5_tookOf_v, bndS, nI_1, X0_get_i hs hcl (by omega), hi _ (by omega), bndS, nmE, show nI (2 * j) + (2 : Int32) = nI (2 * (j + 1)) from nI_add (2 * j) 2, ih (j + 1) N (by omega) (by omega), al_succ, hc.2.2.2.1.2.2.1]
    unfold tookB
    by_cases e : tookV k (it (2 * j)) (v 3) = it (2 * j + 1)
    · rw [if_pos e, decide_eq_true e, Bool.true_and]
    · rw [if_neg e, decide_eq_false e, Bool.false_and]
theorem kindsBy_C {σ : Sg} {r m n : Nat} {v it : Nat → Int32} (hc : HC n v (gR σ 0) σ) (hs : gS σ (16 * (5 + r) + 1) = nI (2 * m)) (hm : 2 * m ≤ 40) (hr : r < 6) (hi : ∀ i, i < 2 * m → gA σ (5 + r) i = it i) : f_X5_kindsBy (5 + r) σ = some (nI (bsN (fun k => canB it m (nI k) (v 3)) 6)) := by
  unfold f_X5_kindsBy
  have := loopP (fun N j x => l_X5_kindsBy_4 (5 + r) σ (fun x => some x) N x (nI j)) (fun x => some x) (fun k x => if canB it m (nI k) (v 3) then x ||| ((1 : Int32) <<< (nI k &&& 31)) else x) 6
    (fun N x => by
      show l_X5_kindsBy_4 (5 + r) σ _ (N + 1) x (nI 6) = _
      unfold l_X5_kindsBy_4
      rw [if_pos (by decide)])
    (fun N j x hj => by
      show l_X5_kindsBy_4 (5 + r) σ _ (N + 1) x (nI j) = _
      conv => lhs; unfold l_X5_kindsBy_4
      rw [show (6 : Int32) = nI 6 from rfl, if_neg (nI_ge hj (by omega)), canBe_C hc hs hm hr hi]
      simp only [ckT, bfT, bfF, bndS, bnd2S, nmE, nI_1]
      cases canB it m (nI j) (v 3) <;> rfl) 6 0 FU 0 (by omega) (lt_FU (by omega))
  refine this.trans ?_
  rw [fo_bs (fun k => canB it m (nI k) (v 3)) 6 (by omega)]
theorem refP_none {σ : Sg} : f_X5_refusedPairs none σ = some (-1, σ) := rfl
def partV (S : Int32) (f d : Int32) (a : Nat) : Int32 := fo (fun b x => x + b2i (hoV S b && decide (tookV (nI b) d f = tookV (nI a) d f))) 0 6 0
def mostV (S : Int32) (f d : Int32) : Int32 := fo (fun a x => if hoV S a then mmax x (partV S f d a) else x) 0 6 0
theorem partOf_C {σ : Sg} {n : Nat} {v : Nat → Int32} (hc : HC n v (gR σ 0) σ) (S d : Int32) (a : Nat) : f_X5_partOf S d (tookV (nI a) d (v 3)) σ = some (partV S (v 3) d a) := by
  unfold f_X5_partOf partV
  refine loopP (fun N j x => l_X5_partOf_6 S d (tookV (nI a) d (v 3)) σ (fun x => some x) N x (nI j)) (fun x => some x) (fun b x => x + b2i (hoV S b && decide (tookV (nI b) d (v 3) = tookV (nI a) d (v 3)))) 6 ?_ ?_ 6 0 FU 0 (by omega) (lt_FU (by omega))
  · intro N x
    show l_X5_partOf_6 S d _ σ _ (N + 1) x (nI 6) = _
    unfold l_X5_partOf_6
    rw [if_pos (by decide)]
  · intro N j x hj
    show l_X5_partOf_6 S d _ σ _ (N + 1) x (nI j) = _
    conv => lhs; unfold l_X5_partOf_6
    rw [show (6 : Int32) = nI 6 from rfl, if_neg (nI_ge hj (by omega)), X5_holds_v, X5_tookOf_v, hc.2.2.2.1.2.2.1]
    simp only [ckT, bfT, bfF, bndS, bnd2S, nmE, nI_1]
    cases hoV S j
    · rfl
    · by_cases e : tookV (nI j) d (v 3) = tookV (nI a) d (v 3) <;> simp [e, bf]
theorem greatestPart_C {σ : Sg} {n : Nat} {v : Nat → Int32} (hc : HC n v (gR σ 0) σ) (S d : Int32) : f_X5_greatestPart S d σ = some (mostV S (v 3) d) := by
  unfold f_X5_greatestPart mostV
  refine loopP (fun N j x => l_X5_greatestPart_5 S d σ (fun x => some x) N x (nI j)) (fun x => some x) (fun a x => if hoV S a then mmax x (partV S (v 3) d a) else x) 6 ?_ ?_ 6 0 FU 0 (by omega) (lt_FU (by omega))
  · intro N x
    show l_X5_greatestPart_5 S d σ _ (N + 1) x (nI 6) = _
    unfold l_X5_greatestPart_5
    rw [if_pos (by decide)]
  · intro N j x hj
    show l_X5_greatestPart_5 S d σ _ (N + 1) x (nI j) = _
    conv => lhs; unfold l_X5_greatestPart_5
    rw [show (6 : Int32) = nI 6 from rfl, if_neg (nI_ge hj (by omega)), X5_holds_v, X5_tookOf_v, hc.2.2.2.1.2.2.1]
    simp only [ckT, bfT, bfF, bndS, bnd2S, nmE, nI_1, partOf_C hc]
    cases hoV S j <;> rfl
theorem partV_rg (S f d : Int32) (a : Nat) : ∃ k, k ≤ 6 ∧ partV S f d a = nI k := by
  unfold partV
  have := fo_ind (g := fun b x => x + b2i (hoV S b && decide (tookV (nI b) d f = tookV (nI a) d f))) (fun i x => ∃ k, k ≤ i ∧ x = nI k) 6 0 0 (fun i x _ _ hx => by
    obtain ⟨k, hk, rfl⟩ := hx
    cases (hoV S i && decide (tookV (nI i) d f = tookV (nI a) d f))
    · exact ⟨k, by omega, Int32.add_zero _⟩
    · exact ⟨k + 1, by omega, nI_1 k⟩) ⟨0, by omega, rfl⟩
  exact this
def bestD (G : Nat → Int32) : Int32 × Int32 := fo (fun d (a : Int32 × Int32) => if a.2 ≤ G d then a else (nI d, G d)) 1 99 (0, G 0)
theorem test_C {σ : Sg} {n : Nat} {v : Nat → Int32} {S : Int32} {K : Int32 → Int32 → Option (Int32 × Sg)} (hc : HC n v (gR σ 0) σ) : l_X5_test_55 S σ K FU 0 (mostV S (v 3) 0) 1 = K (bestD (fun d => mostV S (v 3) (nI d))).1 (bestD (fun d => mostV S (v 3) (nI d))).2 := by
  exact loopP (fun N j (a : Int32 × Int32) => l_X5_test_55 S σ K N a.1 a.2 (nI j)) (fun a => K a.1 a.2) (fun d (a : Int32 × Int32) => if a.2 ≤ mostV S (v 3) (nI d) then a else (nI d, mostV S (v 3) (nI d))) 100
    (fun N a => by
      show l_X5_test_55 S σ K (N + 1) a.1 a.2 (nI 100) = _
      unfold l_X5_test_55
      rw [if_pos (by decide)])
    (fun N j a hj => by
      show l_X5_test_55 S σ K (N + 1) a.1 a.2 (nI j) = _
      conv => lhs; unfold l_X5_test_55
      rw [show (99 : Int32) = nI 99 from rfl, if_neg (nI_nlt (by omega) (by omega)), greatestPart_C hc]
      simp only [ckT, bfT, bfF, bndS, bnd2S, nmE, nI_1]
      split <;> rfl) 99 1 FU (0, mostV S (v 3) 0) (by omega) (lt_FU (by omega))
