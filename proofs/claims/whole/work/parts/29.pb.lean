theorem fo_succ {α : Type} (g : Nat → α → α) (j m : Nat) (a : α) : fo g j (m + 1) a = fo g (j + 1) m (g j a) := rfl
theorem fo_and (P : Nat → Bool) : ∀ m j b, fo (fun i b => b && P i) j m b = (b && al P j m) := by
  intro m
  induction m with
  | zero => intro j b; simp [fo, al]
  | succ m ih =>
    intro j b
    show fo _ (j + 1) m (b && P j) = _
    rw [ih, al_succ, Bool.and_assoc]
theorem al_congr {P Q : Nat → Bool} : ∀ m j, (∀ i, j ≤ i → i < j + m → P i = Q i) → al P j m = al Q j m := by
  intro m
  induction m with
  | zero => intro j _; rfl
  | succ m ih =>
    intro j h
    rw [al_succ, al_succ, h j (Nat.le_refl _) (by omega), ih (j + 1) (fun i h1 h2 => h i (by omega) (by omega))]
theorem al_pairs (P : Nat → Bool) : ∀ m j, al P (2 * j) (2 * m) = al (fun p => P (2 * p) && P (2 * p + 1)) j m := by
  intro m
  induction m with
  | zero => intro j; rfl
  | succ m ih =>
    intro j
    rw [al_succ, show 2 * (m + 1) = 2 * m + 1 + 1 by omega, al_succ, al_succ, show 2 * j + 1 + 1 = 2 * (j + 1) by omega, ih, Bool.and_assoc]
theorem fo_congrI {α : Type} {g g' : Nat → α → α} (I : Nat → α → Prop) : ∀ (m j : Nat) (a : α), (∀ i a, j ≤ i → i < j + m → I i a → g i a = g' i a ∧ I (i + 1) (g i a)) → I j a → fo g j m a = fo g' j m a := by
  intro m
  induction m with
  | zero => intro j a _ _; rfl
  | succ m ih =>
    intro j a h h0
    obtain ⟨e, h1⟩ := h j a (Nat.le_refl _) (by omega) h0
    show fo g (j + 1) m (g j a) = fo g' (j + 1) m (g' j a)
    rw [← e]
    exact ih (j + 1) _ (fun i a h1 h2 => h i a (by omega) (by omega)) h1
/-- is a row of pairs one -/
def pairB (it : Nat → Int32) (p : Nat) : Bool := inV (it (2 * p)) 0 99 && inV (it (2 * p + 1)) 0 9
def tookV (k d f : Int32) : Int32 := if tapsV k d f = -9 then 0 else tapsV k d f
def tookB (it : Nat → Int32) (k f : Int32) (p : Nat) : Bool := decide (tookV k (it (2 * p)) f = it (2 * p + 1))
def canB (it : Nat → Int32) (h : Nat) (k f : Int32) : Bool := al (tookB it k f) 0 h
theorem X5_tookOf_v (k d f : Int32) : f_X5_tookOf k d f = some (tookV k d f) := by
  unfold f_X5_tookOf tookV
  rw [X1_taps_v, bndS]
  split <;> rfl
theorem refP_C {σ : Sg} {r m : Nat} {it : Nat → Int32} {K : Option (Int32 × Sg)} (hs : gS σ (16 * (5 + r) + 1) = nI (2 * m)) (hm : 2 * m ≤ 40) (hr : r < 6) (hi : ∀ i, i < 2 * m → gA σ (5 + r) i = it i) : l_X5_refusedPairs_42 (5 + r) σ K FU 0 = if al (pairB it) 0 m = true then some (0, σ) else K := by
  have hcl : 2 * m ≤ cLen (5 + r) := by rw [cLen_row hr]; exact hm
  suffices H : ∀ (d j N : Nat), j + d = m → d < N → l_X5_refusedPairs_42 (5 + r) σ K N (nI (2 * j)) = if al (pairB it) j d = true then some (0, σ) else K from H m 0 FU (by omega) (lt_FU (by omega))
  intro d
  induction d with
  | zero =>
    intro j N hj hN
    obtain ⟨N, rfl⟩ : ∃ k, N = k + 1 := ⟨N - 1, by omega⟩
    unfold l_X5_refusedPairs_42
    rw [hs, if_pos (nI_le (by omega) (by omega)), if_pos (show al (pairB it) j 0 = true from rfl)]
  | succ d ih =>
    intro j N hj hN
    obtain ⟨N, rfl⟩ : ∃ k, N = k + 1 := ⟨N - 1, by omega⟩
    unfold l_X5_refusedPairs_42
    rw [hs, if_neg (nI_ge (by omega) (by omega)), X0_get_i hs hcl (by omega), bndS, hi _ (by omega), X5_isDate_v, bndS, nI_1, X0_get_i hs hcl (by omega), hi _ (by omega), bndS, X5_within_v, bndS, nmE, show nI (2 * j) + (2 : Int32) = nI (2 * (j + 1)) from nI_add (2 * j) 2, ih (j + 1) N (by omega) (by omega), al_succ]
    unfold pairB
    cases inV (it (2 * j)) 0 99
    · rfl
    · cases inV (it (2 * j + 1)) 0 9
      · rfl
      · rfl
theorem refP_M {τ : Sg} {r m : Nat} {K : Bool → Option (Int32 × Sg)} (hs : gA τ 1 r = nI m) (hm : m ≤ 40) (hr : r < 6) : l_X6_wrongPairs_48 (nI r) τ K FU true 0 = K (al (fun k => inV (gA τ 2 (40 * r + k)) 0 (if k % 2 = 0 then 99 else 9)) 0 m) := by
  have i1 : inB (nI r) (mLen 1) = true := inB_nI (by rw [mL1]; omega) (by rw [mL1]; decide)
  have := loopP (fun N j b => l_X6_wrongPairs_48 (nI r) τ K N b (nI j)) K (fun k b => b && inV (gA τ 2 (40 * r + k)) 0 (if k % 2 = 0 then 99 else 9)) m
    (fun N b => by
      show l_X6_wrongPairs_48 (nI r) τ K (N + 1) b (nI m) = _
      unfold l_X6_wrongPairs_48
      rw [i1, ckT, nI_clamp (by omega), hs, if_pos (nI_le (Nat.le_refl _) (by omega))])
    (fun N j b hj => by
      show l_X6_wrongPairs_48 (nI r) τ K (N + 1) b (nI j) = _
      conv => lhs; unfold l_X6_wrongPairs_48
      rw [i1, ckT, nI_clamp (show r < 2 ^ 31 by omega), hs, if_neg (nI_ge hj (by omega)), ml40, nI_add, inB_nI (by rw [mL2]; omega) (by rw [mL2]; decide), nI_clamp (by omega), show nI j - nI j / (2 : Int32) * (2 : Int32) = nI (j % 2) from nIrem (b := 2) (by omega) (by decide)]
      simp only [ckT, bfT, bfF, bndS, bnd2S, nmE, nI_1, X6_in_v, eq0 (show j % 2 < 2 ^ 31 by omega)]
      cases b
      · rfl
      · by_cases e : j % 2 = 0
        · rw [if_pos e, if_pos e, bfT]
          cases inV (gA τ 2 (40 * r + j)) 0 99 <;> rfl
        · rw [if_neg e, if_neg e, bfT]
          cases inV (gA τ 2 (40 * r + j)) 0 9 <;> rfl) m 0 FU true (by omega) (lt_FU (by omega))
  refine this.trans ?_
  rw [fo_and, Bool.true_and]
/-- a row of pairs: refused on both sides, or told by m pairs -/
theorem refP {σ τ : Sg} (h : Rel σ τ) {r : Nat} (hr : r < 6) : (∃ m, 2 * m ≤ 16 ∧ gS σ (16 * (5 + r) + 1) = nI (2 * m) ∧ f_X5_refusedPairs (some (5 + r)) σ = some (0, σ) ∧ f_X6_wrongPairs (nI r) τ = some (0, τ)) ∨ ∃ σ' τ', f_X5_refusedPairs (some (5 + r)) σ = some (-3, σ') ∧ f_X6_wrongPairs (nI r) τ = some (-3, τ') ∧ Rel σ' τ' := by
  obtain ⟨b1, b2⟩ := h.2.2.1 r hr
  obtain ⟨σ1, τ1, g1, g2, g3⟩ := found_R h (f := 1) (by decide)
  obtain ⟨σ5, τ5, g4, g5, g6⟩ := found_R h (f := 5) (by decide)
  obtain ⟨σ3, τ3, g7, g8, g9⟩ := found_R h (f := 3) (by decide)
  have z1 : f_X5_found 1 σ = some (-3, σ1) := g1
  have z5 : f_X5_found 5 σ = some (-3, σ5) := g4
  have z3 : f_X5_found 3 σ = some (-3, σ3) := g7
  have y1 : f_X6_finds 1 τ = some (-3, τ1) := g2
  have y5 : f_X6_finds 5 τ = some (-3, τ5) := g5
  have y3 : f_X6_finds 3 τ = some (-3, τ3) := g8
  unfold f_X5_refusedPairs f_X6_wrongPairs
  have hin : inB (nI r) (mLen 1) = true := inB_nI (by rw [mL1]; omega) (by rw [mL1]; decide)
  simp only [ocS, hin, ckT, nI_clamp (show r < 2 ^ 31 by omega), z5, z3, y1, y5, y3]
  rcases b2 with b2 | ⟨m, q1, q2, q3⟩
  · rw [b2] at b1 ⊢
    rw [refused_m b1 z1, bnd2S, if_neg (by decide), if_neg (by decide)]
    exact Or.inr ⟨_, _, rfl, rfl, g3⟩
  · have hq := q2
    rw [q2] at b1 ⊢
    rw [refused_p b1 (by omega), bnd2S, if_pos rfl, if_pos (nI_pos' (by omega)), b1, show nI m - nI m / (2 : Int32) * (2 : Int32) = nI (m % 2) from nIrem (b := 2) (by omega) (by decide), nmE, nmE]
    have e1 : (nI (m % 2) = (1 : Int32)) = (m % 2 = 1) := nIeq (b := 1) (by omega) (by decide)
    have e16 : (nI m ≤ (16 : Int32)) = (m ≤ 16) := nIle (b := 16) (by omega) (by decide)
    simp only [eq0 (show m % 2 < 2 ^ 31 by omega), e1, e16, bnd2S, z5, z3]
    by_cases e2 : m % 2 = 0
    · rw [if_pos e2, if_neg (show ¬ m % 2 = 1 by omega)]
      by_cases e3 : m ≤ 16
      · rw [if_pos e3, if_pos e3]
        obtain ⟨p, rfl⟩ : ∃ p, m = 2 * p := ⟨m / 2, by omega⟩
        rw [refP_C b1 q1 hr q3, refP_M hq q1 hr]
        have ea : al (fun k => inV (gA τ 2 (40 * r + k)) 0 (if k % 2 = 0 then 99 else 9)) 0 (2 * p) = al (pairB (fun i => gA τ 2 (40 * r + i))) 0 p := by
          have := al_pairs (fun k => inV (gA τ 2 (40 * r + k)) 0 (if k % 2 = 0 then 99 else 9)) p 0
          rw [Nat.mul_zero] at this
          rw [this]
          refine al_congr _ _ (fun i _ _ => ?_)
          rw [if_pos (show 2 * i % 2 = 0 by omega), if_neg (show ¬ (2 * i + 1) % 2 = 0 by omega)]
          rfl
        rw [ea]
        cases al (pairB (fun i => gA τ 2 (40 * r + i))) 0 p
        · exact Or.inr ⟨_, _, rfl, rfl, g9⟩
        · exact Or.inl ⟨p, e3, rfl, rfl, rfl⟩
      · rw [if_neg e3, if_neg e3]
        exact Or.inr ⟨_, _, rfl, rfl, g6⟩
    · rw [if_neg e2, if_pos (show m % 2 = 1 by omega)]
      exact Or.inr ⟨_, _, rfl, rfl, g6⟩
theorem canBe_C {σ : Sg} {r m n : Nat} {v it : Nat → Int32} {k : Int32} (hc : HC n v (gR σ 0) σ) (hs : gS σ (16 * (5 + r) + 1) = nI (2 * m)) (hm : 2 * m ≤ 40) (hr : r < 6) (hi : ∀ i, i < 2 * m → gA σ (5 + r) i = it i) : f_X5_canBe k (5 + r) σ = some (canB it m k (v 3)) := by
  have hcl : 2 * m ≤ cLen (5 + r) := by rw [cLen_row hr]; exact hm
  unfold f_X5_canBe canB
  suffices H : ∀ (d j N : Nat), j + d = m → d < N → l_X5_canBe_2 k (5 + r) σ N (nI (2 * j)) = some (al (tookB it k (v 3)) j d) from H m 0 FU (by omega) (lt_FU (by omega))
  intro d
  induction d with
  | zero =>
    intro j N hj hN
    obtain ⟨N, rfl⟩ : ∃ k, N = k + 1 := ⟨N - 1, by omega⟩
    unfold l_X5_canBe_2
    rw [hs, if_pos (nI_le (by omega) (by omega))]
    rfl
  | succ d ih =>
    intro j N hj hN
    obtain ⟨N, rfl⟩ : ∃ k, N = k + 1 := ⟨N - 1, by omega⟩
    unfold l_X5_canBe_2
    rw [hs, if_neg (nI_ge (by omega) (by omega)), X0_get_i hs hcl (by omega), bndS, hi _ (by omega), X5_tookOf_v, bndS, nI_1, X0_get_i hs hcl (by omega), hi _ (by omega), bndS, nmE, show nI (2 * j) + (2 : Int32) = nI (2 * (j + 1)) from nI_add (2 * j) 2, ih (j + 1) N (by omega) (by omega), al_succ, hc.2.2.2.1.2.2.1]
    unfold tookB
    by_cases e : tookV k (it (2 * j)) (v 3) = it (2 * j + 1)
    · rw [if_pos e, decide_eq_true e, Bool.true_and]
    · rw [if_neg e, decide_eq_false e, Bool.false_and]
theorem tookBy_M {τ : Sg} {n : Nat} {v : Nat → Int32} (hm : HM n v τ) (hv : VW n v) (k d : Int32) : f_X6_tookBy k d τ = some (tookV k d (v 3)) := by
  unfold f_X6_tookBy tookV
  rw [X6_takesBy_v (hm.now (by decide)) hv.1, bndS]
  split <;> rfl
theorem canBe_M {τ : Sg} {r m n : Nat} {v : Nat → Int32} {k : Int32} (hM : HM n v τ) (hv : VW n v) (hs : gA τ 1 r = nI (2 * m)) (hm : 2 * m ≤ 40) (hr : r < 6) : f_X6_tookSo (nI r) k τ = some (canB (fun i => gA τ 2 (40 * r + i)) m k (v 3)) := by
  have i1 : inB (nI r) (mLen 1) = true := inB_nI (by rw [mL1]; omega) (by rw [mL1]; decide)
  unfold f_X6_tookSo canB
  have := loopP (fun N j b => l_X6_tookSo_5 (nI r) k τ (fun b => some b) N b (nI (2 * j))) (fun b => some b) (fun p b => b && tookB (fun i => gA τ 2 (40 * r + i)) k (v 3) p) m
    (fun N b => by
      show l_X6_tookSo_5 (nI r) k τ _ (N + 1) b (nI (2 * m)) = _
      unfold l_X6_tookSo_5
      rw [i1, ckT, nI_clamp (by omega), hs, if_pos (nI_le (Nat.le_refl _) (by omega))])
    (fun N j b hj => by
      show l_X6_tookSo_5 (nI r) k τ _ (N + 1) b (nI (2 * j)) = _
      conv => lhs; unfold l_X6_tookSo_5
      rw [i1, ckT, nI_clamp (show r < 2 ^ 31 by omega), hs, if_neg (nI_ge (by omega) (by omega)), ml40, nI_add, nI_1, inB_nI (by rw [mL2]; omega) (by rw [mL2]; decide), inB_nI (by rw [mL2]; omega) (by rw [mL2]; decide), nI_clamp (by omega), nI_clamp (by omega), tookBy_M hM hv, show nI (2 * j) + (2 : Int32) = nI (2 * (j + 1)) from nI_add (2 * j) 2]
      simp only [ckT, bfT, bfF, bndS, bnd2S, nmE]
      cases b
      · rfl
      · unfold tookB
        by_cases e : tookV k (gA τ 2 (40 * r + 2 * j)) (v 3) = gA τ 2 (40 * r + 2 * j + 1)
        · rw [if_pos e, show decide (tookV k (gA τ 2 (40 * r + 2 * j)) (v 3) = gA τ 2 (40 * r + (2 * j + 1))) = true from decide_eq_true e]
          rfl
        · rw [if_neg e, show decide (tookV k (gA τ 2 (40 * r + 2 * j)) (v 3) = gA τ 2 (40 * r + (2 * j + 1))) = false from decide_eq_false e]
          rfl) m 0 FU true (by omega) (lt_FU (by omega))
  refine this.trans ?_
  rw [fo_and, Bool.true_and]
theorem kindsBy_C {σ : Sg} {r m n : Nat} {v it : Nat → Int32} (hc : HC n v (gR σ 0) σ) (hs : gS σ (16 * (5 + r) + 1) = nI (2 * m)) (hm : 2 * m ≤ 40) (hr : r < 6) (hi : ∀ i, i < 2 * m → gA σ (5 + r) i = it i) : f_X5_kindsBy (5 + r) σ = some (nI (bsN (fun k => canB it m (nI k) (v 3)) 6)) := by
  unfold f_X5_kindsBy
  have := loopP (fun N j x => l_X5_kindsBy_4 (5 + r) σ (fun x => some x) N x (nI j)) (fun x => some x) (fun k x => if canB it m (nI k) (v 3) then x ||| ((1 : Int32) <<< (nI k &&& 31)) else x) 6
    (fun N x => by
      show l_X5_kindsBy_4 (5 + r) σ _ (N + 1) x (nI 6) = _
      unfold l_X5_kindsBy_4
      rw [if_pos (by decide)])
    (fun N j x hj => by
      show l_X5_kindsBy_4 (5 + r) σ _ (N + 1) x (nI j) = _
      conv => lhs; unfold l_X5_kindsBy_4
      rw [show (6 : Int32) = nI 6 from rfl, if_neg (nI_ge hj (by omega)), canBe_C hc hs hm hr hi]
      simp only [ckT, bfT, bfF, bndS, bnd2S, nmE, nI_1]
      cases canB it m (nI j) (v 3) <;> rfl) 6 0 FU 0 (by omega) (lt_FU (by omega))
  refine this.trans ?_
  rw [fo_bs (fun k => canB it m (nI k) (v 3)) 6 (by omega)]
theorem kindsBy_M {τ : Sg} {r m n : Nat} {v : Nat → Int32} (hM : HM n v τ) (hv : VW n v) (hs : gA τ 1 r = nI (2 * m)) (hm : 2 * m ≤ 40) (hr : r < 6) : f_X6_kindsBy (nI r) τ = some (nI (bsN (fun k => canB (fun i => gA τ 2 (40 * r + i)) m (nI k) (v 3)) 6)) := by
  unfold f_X6_kindsBy
  have := loopP (fun N j x => l_X6_kindsBy_4 (nI r) τ (fun x => some x) N x (nI j)) (fun x => some x) (fun k x => if canB (fun i => gA τ 2 (40 * r + i)) m (nI k) (v 3) then x ||| ((1 : Int32) <<< (nI k &&& 31)) else x) 6
    (fun N x => by
      show l_X6_kindsBy_4 (nI r) τ _ (N + 1) x (nI 6) = _
      unfold l_X6_kindsBy_4
      rw [if_pos (by decide)])
    (fun N j x hj => by
      show l_X6_kindsBy_4 (nI r) τ _ (N + 1) x (nI j) = _
      conv => lhs; unfold l_X6_kindsBy_4
      rw [show (6 : Int32) = nI 6 from rfl, if_neg (nI_ge hj (by omega)), canBe_M hM hv hs hm hr]
      simp only [ckT, bfT, bfF, bndS, bnd2S, nmE, nI_1]
      cases canB (fun i => gA τ 2 (40 * r + i)) m (nI j) (v 3)
      · simp only [bfF, Int32.or_zero, Bool.false_eq_true, if_false]
      · rfl) 6 0 FU 0 (by omega) (lt_FU (by omega))
  refine this.trans ?_
  rw [fo_bs (fun k => canB (fun i => gA τ 2 (40 * r + i)) m (nI k) (v 3)) 6 (by omega)]
theorem refP_none {σ : Sg} : f_X5_refusedPairs none σ = some (-1, σ) := rfl
theorem st_kinds : S_kinds Rel := by
  intro σ τ a1 h
  obtain ⟨h1, h2, h3, h4, h5, n, w, cs, t1, t2, t3, t4, t5⟩ := id h
  have c1 := t3.1
  have m1 := t4.1
  have hv := run_VW t1 t2
  have hn := c1.1
  have hlen := t2.1
  unfold f_X5_kinds f_X6_kinds
  rw [X6_in_v, bndS]
  rcases inV_c a1 (b := 5) (by decide) with ⟨r, hr, rfl, ed⟩ | ⟨ho, ed⟩
  · rw [show (5 : Int32) = nI 5 from rfl, ed, bfT, pick_i (q := 71) (show r < 6 by omega), bndS, ocS, show rBase 71 + r = 5 + r from rfl]
    rcases refP h (show r < 6 by omega) with ⟨m, hm, hs, g1, g2⟩ | ⟨σ', τ', g1, g2, g3⟩
    · have hq := row_items h3 (show r < 6 by omega) hs (by omega)
      rw [g1, g2, bnd2S, bnd2S, if_pos rfl, if_pos rfl, kindsBy_C c1 hs (by omega) (by omega) hq.2, kindsBy_M m1 hv hq.1 (by omega) (by omega)]
      exact ⟨_, _, _, rfl, rfl, h⟩
    · rw [g1, g2, bnd2S, bnd2S, if_neg (by decide), if_neg (by decide)]
      exact ⟨_, _, _, rfl, rfl, g3⟩
  · rw [show (5 : Int32) = nI 5 from rfl, ed, bfF, pick_o (q := 71) ho, bndS, ocN, refP_none]
    exact ⟨_, _, _, rfl, rfl, h⟩
theorem st_whose : S_whose Rel := by
  intro σ τ a1 h
  obtain ⟨h1, h2, h3, h4, h5, n, w, cs, t1, t2, t3, t4, t5⟩ := id h
  have c1 := t3.1
  have m1 := t4.1
  have hv := run_VW t1 t2
  have hn := c1.1
  have hlen := t2.1
  unfold f_X5_whose f_X6_whose
  rw [X6_in_v, bndS]
  rcases inV_c a1 (b := 5) (by decide) with ⟨r, hr, rfl, ed⟩ | ⟨ho, ed⟩
  · rw [show (5 : Int32) = nI 5 from rfl, ed, bfT, pick_i (q := 71) (show r < 6 by omega), bndS, ocS, show rBase 71 + r = 5 + r from rfl]
    rcases refP h (show r < 6 by omega) with ⟨m, hm, hs, g1, g2⟩ | ⟨σ', τ', g1, g2, g3⟩
    · have hq := row_items h3 (show r < 6 by omega) hs (by omega)
      rw [g1, g2, bnd2S, bnd2S, if_pos rfl, if_pos rfl]
      have L1 : ∀ K : Int32 → Option (Int32 × Sg), l_X5_whose_31 (5 + r) σ K FU 0 0 = K (fo (fun i x => if canB (fun i => gA τ 2 (40 * r + i)) m (run n (iniV w) cs (23 + i)) (run n (iniV w) cs 3) then x ||| ((1 : Int32) <<< (nI i &&& 31)) else x) 0 n 0) := fun K => loopP (fun N j x => l_X5_whose_31 (5 + r) σ K N x (nI j)) K _ n
        (fun N x => by
          show l_X5_whose_31 (5 + r) σ K (N + 1) x (nI n) = _
          unfold l_X5_whose_31
          rw [c1.2.2.1, if_pos (nI_le (Nat.le_refl _) (by omega))])
        (fun N j x hj => by
          show l_X5_whose_31 (5 + r) σ K (N + 1) x (nI j) = _
          conv => lhs; unfold l_X5_whose_31
          rw [c1.2.2.1, if_neg (nI_ge hj (by omega)), c1.g0 hj, bndS, canBe_C c1 hs (by omega) (by omega) hq.2]
          simp only [ckT, bfT, bfF, bndS, bnd2S, nmE, nI_1]
          cases canB (fun i => gA τ 2 (40 * r + i)) m (run n (iniV w) cs (23 + j)) (run n (iniV w) cs 3) <;> rfl) n 0 FU 0 (by omega) (lt_FU (by omega))
      have L2 : ∀ K : Int32 → Option (Int32 × Sg), l_X6_whose_26 (nI r) τ K FU 0 0 = K (fo (fun i x => if canB (fun i => gA τ 2 (40 * r + i)) m (run n (iniV w) cs (23 + i)) (run n (iniV w) cs 3) then x ||| ((1 : Int32) <<< (nI i &&& 31)) else x) 0 n 0) := fun K => loopP (fun N j x => l_X6_whose_26 (nI r) τ K N x (nI j)) K _ n
        (fun N x => by
          show l_X6_whose_26 (nI r) τ K (N + 1) x (nI n) = _
          unfold l_X6_whose_26
          rw [m1.2.1, if_pos (nI_le (Nat.le_refl _) (by omega))])
        (fun N j x hj => by
          show l_X6_whose_26 (nI r) τ K (N + 1) x (nI j) = _
          conv => lhs; unfold l_X6_whose_26
          rw [m1.2.1, if_neg (nI_ge hj (by omega)), inB_nI (by rw [mL7]; omega) (by rw [mL7]; decide), ckT, nI_clamp (by omega), m1.k hj, canBe_M m1 hv hq.1 (by omega) (by omega)]
          simp only [ckT, bfT, bfF, bndS, bnd2S, nmE, nI_1]
          cases canB (fun i => gA τ 2 (40 * r + i)) m (run n (iniV w) cs (23 + j)) (run n (iniV w) cs 3)
          · simp only [bfF, Int32.or_zero, Bool.false_eq_true, if_false]
          · rfl) n 0 FU 0 (by omega) (lt_FU (by omega))
      rw [L1, L2]
      exact ⟨_, _, _, rfl, rfl, h⟩
    · rw [g1, g2, bnd2S, bnd2S, if_neg (by decide), if_neg (by decide)]
      exact ⟨_, _, _, rfl, rfl, g3⟩
  · rw [show (5 : Int32) = nI 5 from rfl, ed, bfF, pick_o (q := 71) ho, bndS, ocN, refP_none]
    exact ⟨_, _, _, rfl, rfl, h⟩
/-! the date that tells most -/
theorem hasV : ∀ s < 64, ∀ i < 6, f_X6_has (nI s) (nI i) = some (hoV (nI s) i) := by decide +kernel
def partV (S : Int32) (f d : Int32) (a : Nat) : Int32 := fo (fun b x => x + b2i (hoV S b && decide (tookV (nI b) d f = tookV (nI a) d f))) 0 6 0
def mostV (S : Int32) (f d : Int32) : Int32 := fo (fun a x => if hoV S a then mmax x (partV S f d a) else x) 0 6 0
theorem partOf_C {σ : Sg} {n : Nat} {v : Nat → Int32} (hc : HC n v (gR σ 0) σ) (S d : Int32) (a : Nat) : f_X5_partOf S d (tookV (nI a) d (v 3)) σ = some (partV S (v 3) d a) := by
  unfold f_X5_partOf partV
  refine loopP (fun N j x => l_X5_partOf_6 S d (tookV (nI a) d (v 3)) σ (fun x => some x) N x (nI j)) (fun x => some x) (fun b x => x + b2i (hoV S b && decide (tookV (nI b) d (v 3) = tookV (nI a) d (v 3)))) 6 ?_ ?_ 6 0 FU 0 (by omega) (lt_FU (by omega))
  · intro N x
    show l_X5_partOf_6 S d _ σ _ (N + 1) x (nI 6) = _
    unfold l_X5_partOf_6
    rw [if_pos (by decide)]
  · intro N j x hj
    show l_X5_partOf_6 S d _ σ _ (N + 1) x (nI j) = _
    conv => lhs; unfold l_X5_partOf_6
    rw [show (6 : Int32) = nI 6 from rfl, if_neg (nI_ge hj (by omega)), X5_holds_v, X5_tookOf_v, hc.2.2.2.1.2.2.1]
    simp only [ckT, bfT, bfF, bndS, bnd2S, nmE, nI_1]
    cases hoV S j
    · rfl
    · by_cases e : tookV (nI j) d (v 3) = tookV (nI a) d (v 3) <;> simp [e, bf]
theorem greatestPart_C {σ : Sg} {n : Nat} {v : Nat → Int32} (hc : HC n v (gR σ 0) σ) (S d : Int32) : f_X5_greatestPart S d σ = some (mostV S (v 3) d) := by
  unfold f_X5_greatestPart mostV
  refine loopP (fun N j x => l_X5_greatestPart_5 S d σ (fun x => some x) N x (nI j)) (fun x => some x) (fun a x => if hoV S a then mmax x (partV S (v 3) d a) else x) 6 ?_ ?_ 6 0 FU 0 (by omega) (lt_FU (by omega))
  · intro N x
    show l_X5_greatestPart_5 S d σ _ (N + 1) x (nI 6) = _
    unfold l_X5_greatestPart_5
    rw [if_pos (by decide)]
  · intro N j x hj
    show l_X5_greatestPart_5 S d σ _ (N + 1) x (nI j) = _
    conv => lhs; unfold l_X5_greatestPart_5
    rw [show (6 : Int32) = nI 6 from rfl, if_neg (nI_ge hj (by omega)), X5_holds_v, X5_tookOf_v, hc.2.2.2.1.2.2.1]
    simp only [ckT, bfT, bfF, bndS, bnd2S, nmE, nI_1, partOf_C hc]
    cases hoV S j <;> rfl
theorem part_M {τ : Sg} {n s a : Nat} {v : Nat → Int32} {d x3 x4 x6 : Int32} {K : Int32 → Option (Int32 × Sg)} (hM : HM n v τ) (hv : VW n v) (hs : s < 64) (ha : a < 6) : l_X6_test_70 (nI s) x3 x4 d x6 (nI a) τ K FU 0 0 = K (if hoV (nI s) a then partV (nI s) (v 3) d a else 0) := by
  have := loopP (fun N j x => l_X6_test_70 (nI s) x3 x4 d x6 (nI a) τ K N x (nI j)) K (fun b x => x + b2i (hoV (nI s) a && (hoV (nI s) b && decide (tookV (nI a) d (v 3) = tookV (nI b) d (v 3))))) 6
    (fun N x => by
      show l_X6_test_70 (nI s) x3 x4 d x6 (nI a) τ K (N + 1) x (nI 6) = _
      unfold l_X6_test_70
      rw [if_pos (by decide)])
    (fun N j x hj => by
      show l_X6_test_70 (nI s) x3 x4 d x6 (nI a) τ K (N + 1) x (nI j) = _
      conv => lhs; unfold l_X6_test_70
      rw [show (6 : Int32) = nI 6 from rfl, if_neg (nI_ge hj (by omega)), hasV s hs a ha, hasV s hs j hj]
      simp only [ckT, bfT, bfF, bndS, bnd2S, nmE, nI_1, tookBy_M hM hv]
      cases hoV (nI s) a
      · rfl
      · cases hoV (nI s) j
        · rfl
        · by_cases e : tookV (nI a) d (v 3) = tookV (nI j) d (v 3) <;> simp [e, bf]) 6 0 FU 0 (by omega) (lt_FU (by omega))
  refine this.trans (congrArg K ?_)
  cases hoV (nI s) a
  · rw [if_neg (by decide)]
    rfl
  · rw [if_pos rfl]
    refine fo_congr _ _ _ (fun i x _ _ => ?_)
    congr 2
    rw [Bool.true_and]
    congr 1
    exact decide_eq_decide.mpr ⟨Eq.symm, Eq.symm⟩
theorem partV_rg (S f d : Int32) (a : Nat) : ∃ k, k ≤ 6 ∧ partV S f d a = nI k := by
  unfold partV
  have := fo_ind (g := fun b x => x + b2i (hoV S b && decide (tookV (nI b) d f = tookV (nI a) d f))) (fun i x => ∃ k, k ≤ i ∧ x = nI k) 6 0 0 (fun i x _ _ hx => by
    obtain ⟨k, hk, rfl⟩ := hx
    cases (hoV S i && decide (tookV (nI i) d f = tookV (nI a) d f))
    · exact ⟨k, by omega, Int32.add_zero _⟩
    · exact ⟨k + 1, by omega, nI_1 k⟩) ⟨0, by omega, rfl⟩
  exact this
theorem most_M {τ : Sg} {n s : Nat} {v : Nat → Int32} {d x3 x4 : Int32} {K : Int32 → Option (Int32 × Sg)} (hM : HM n v τ) (hv : VW n v) (hs : s < 64) : l_X6_test_57 (nI s) x3 x4 d τ K FU 0 0 = K (mostV (nI s) (v 3) d) := by
  have := loopP (fun N j x => l_X6_test_57 (nI s) x3 x4 d τ K N x (nI j)) K (fun a x => if (if hoV (nI s) a then partV (nI s) (v 3) d a else 0) ≤ x then x else (if hoV (nI s) a then partV (nI s) (v 3) d a else 0)) 6
    (fun N x => by
      show l_X6_test_57 (nI s) x3 x4 d τ K (N + 1) x (nI 6) = _
      unfold l_X6_test_57
      rw [if_pos (by decide)])
    (fun N j x hj => by
      show l_X6_test_57 (nI s) x3 x4 d τ K (N + 1) x (nI j) = _
      conv => lhs; unfold l_X6_test_57
      rw [show (6 : Int32) = nI 6 from rfl, if_neg (nI_ge hj (by omega)), part_M hM hv hs hj]
      generalize (if hoV (nI s) j = true then partV (nI s) (v 3) d j else 0) = y
      simp only [ckT, bfT, bfF, bndS, bnd2S, nmE, nI_1]
      split <;> rfl) 6 0 FU 0 (by omega) (lt_FU (by omega))
  refine this.trans (congrArg K ?_)
  unfold mostV
  refine fo_congrI (fun i x => ∃ k, k ≤ 6 ∧ x = nI k) 6 0 0 (fun i x _ _ hx => ?_) ⟨0, by omega, rfl⟩
  obtain ⟨k, hk, rfl⟩ := hx
  obtain ⟨p, hp, ep⟩ := partV_rg (nI s) (v 3) d i
  cases hoV (nI s) i
  · simp only [Bool.false_eq_true, if_false]
    rw [if_pos (nI_pos' (by omega))]
    exact ⟨rfl, k, hk, rfl⟩
  · rw [if_pos rfl, if_pos rfl, ep, mmax_n (by omega) (by omega)]
    simp (disch := omega) only [nIle]
    by_cases e : p ≤ k
    · rw [if_pos e, Nat.max_eq_left e]; exact ⟨rfl, k, hk, rfl⟩
    · rw [if_neg e, Nat.max_eq_right (by omega)]; exact ⟨rfl, p, hp, rfl⟩
def bestD (G : Nat → Int32) : Int32 × Int32 := fo (fun d (a : Int32 × Int32) => if a.2 ≤ G d then a else (nI d, G d)) 1 99 (0, G 0)
theorem test_C {σ : Sg} {n : Nat} {v : Nat → Int32} {S : Int32} {K : Int32 → Int32 → Option (Int32 × Sg)} (hc : HC n v (gR σ 0) σ) : l_X5_test_55 S σ K FU 0 (mostV S (v 3) 0) 1 = K (bestD (fun d => mostV S (v 3) (nI d))).1 (bestD (fun d => mostV S (v 3) (nI d))).2 := by
  exact loopP (fun N j (a : Int32 × Int32) => l_X5_test_55 S σ K N a.1 a.2 (nI j)) (fun a => K a.1 a.2) (fun d (a : Int32 × Int32) => if a.2 ≤ mostV S (v 3) (nI d) then a else (nI d, mostV S (v 3) (nI d))) 100
    (fun N a => by
      show l_X5_test_55 S σ K (N + 1) a.1 a.2 (nI 100) = _
      unfold l_X5_test_55
      rw [if_pos (by decide)])
    (fun N j a hj => by
      show l_X5_test_55 S σ K (N + 1) a.1 a.2 (nI j) = _
      conv => lhs; unfold l_X5_test_55
      rw [show (99 : Int32) = nI 99 from rfl, if_neg (nI_nlt (by omega) (by omega)), greatestPart_C hc]
      simp only [ckT, bfT, bfF, bndS, bnd2S, nmE, nI_1]
      split <;> rfl) 99 1 FU (0, mostV S (v 3) 0) (by omega) (lt_FU (by omega))
theorem test_M {τ : Sg} {n s : Nat} {v : Nat → Int32} {K : Int32 → Int32 → Option (Int32 × Sg)} (hM : HM n v τ) (hv : VW n v) (hs : s < 64) : l_X6_test_44 (nI s) τ K FU (-9) 0 0 = K (bestD (fun d => mostV (nI s) (v 3) (nI d))).1 (bestD (fun d => mostV (nI s) (v 3) (nI d))).2 := by
  have := loopP (fun N j (a : Int32 × Int32) => l_X6_test_44 (nI s) τ K N a.1 a.2 (nI j)) (fun a => K a.1 a.2) (fun d (a : Int32 × Int32) => if a.1 = -9 then (nI d, mostV (nI s) (v 3) (nI d)) else if a.2 ≤ mostV (nI s) (v 3) (nI d) then a else (nI d, mostV (nI s) (v 3) (nI d))) 100
    (fun N a => by
      show l_X6_test_44 (nI s) τ K (N + 1) a.1 a.2 (nI 100) = _
      unfold l_X6_test_44
      rw [if_pos (by decide)])
    (fun N j a hj => by
      show l_X6_test_44 (nI s) τ K (N + 1) a.1 a.2 (nI j) = _
      conv => lhs; unfold l_X6_test_44
      rw [show (100 : Int32) = nI 100 from rfl, if_neg (nI_ge hj (by omega)), most_M hM hv hs]
      simp only [ckT, bfT, bfF, bndS, bnd2S, nmE, nI_1]
      by_cases e : a.1 = -9
      · rw [if_pos e, if_pos e]
      · rw [if_neg e, if_neg e]
        split <;> rfl) 100 0 FU (-9, 0) (by omega) (lt_FU (by omega))
  refine this.trans ?_
  have e : fo (fun d (a : Int32 × Int32) => if a.1 = -9 then (nI d, mostV (nI s) (v 3) (nI d)) else if a.2 ≤ mostV (nI s) (v 3) (nI d) then a else (nI d, mostV (nI s) (v 3) (nI d))) 0 100 (-9, 0) = bestD (fun d => mostV (nI s) (v 3) (nI d)) := by
    rw [show (100 : Nat) = 99 + 1 from rfl, fo_succ]
    dsimp only
    rw [if_pos rfl]
    unfold bestD
    refine fo_congrI (fun _ a => ∃ d, d < 100 ∧ a.1 = nI d) 99 1 _ (fun i a _ hi hx => ?_) ⟨0, by omega, rfl⟩
    obtain ⟨d, hd, ed⟩ := hx
    rw [if_neg (by rw [ed]; exact nI9 (by omega))]
    refine ⟨rfl, ?_⟩
    split
    · exact ⟨d, hd, ed⟩
    · exact ⟨i, by omega, rfl⟩
  rw [e]
theorem st_test : S_test Rel := by
  intro σ τ a1 h
  obtain ⟨h1, h2, h3, h4, h5, n, w, cs, t1, t2, t3, t4, t5⟩ := id h
  have c1 := t3.1
  have m1 := t4.1
  have hv := run_VW t1 t2
  have hn := c1.1
  have hlen := t2.1
  unfold f_X5_test f_X6_test
  rw [X6_in_v, bndS]
  rcases inV_c a1 (b := 5) (by decide) with ⟨r, hr, rfl, ed⟩ | ⟨ho, ed⟩
  · rw [show (5 : Int32) = nI 5 from rfl, ed, bfT, pick_i (q := 71) (show r < 6 by omega), bndS, ocS, show rBase 71 + r = 5 + r from rfl]
    rcases refP h (show r < 6 by omega) with ⟨m, hm, hs, g1, g2⟩ | ⟨σ', τ', g1, g2, g3⟩
    · have hq := row_items h3 (show r < 6 by omega) hs (by omega)
      rw [g1, g2, bnd2S, bnd2S, if_pos rfl, if_pos rfl, kindsBy_C c1 hs (by omega) (by omega) hq.2, kindsBy_M m1 hv hq.1 (by omega) (by omega), bndS, bndS]
      have hS := bsN_64 (fun k => canB (fun i => gA τ 2 (40 * r + i)) m (nI k) (run n (iniV w) cs 3)) (Nat.le_refl 6)
      generalize bsN (fun k => canB (fun i => gA τ 2 (40 * r + i)) m (nI k) (run n (iniV w) cs 3)) 6 = S at hS ⊢
      simp only [eq0 (show S < 2 ^ 31 by omega)]
      by_cases e : S = 0
      · rw [if_pos e, if_pos e]
        exact ⟨_, _, _, rfl, rfl, h⟩
      · rw [if_neg e, if_neg e, greatestPart_C c1, bndS, test_C c1, test_M m1 hv hS]
        exact ⟨_, _, _, rfl, rfl, asked_R h _⟩
    · rw [g1, g2, bnd2S, bnd2S, if_neg (by decide), if_neg (by decide)]
      exact ⟨_, _, _, rfl, rfl, g3⟩
  · rw [show (5 : Int32) = nI 5 from rfl, ed, bfF, pick_o (q := 71) ho, bndS, ocN, refP_none]
    exact ⟨_, _, _, rfl, rfl, h⟩
