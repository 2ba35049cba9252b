/-- what a house costs one of the two: 4 for what cannot be had -/
def duC (g : Nat → Int32) (P j : Nat) : Nat := if j % 2 = P then (if g j = -9 then 4 else min (g j).toNatClampNeg 4) else 4
def duS (c : Nat → Nat) (s n : Nat) : Nat := fo (fun j x => if s.testBit j then x + c j else x) 0 n 0
def pcN (s : Nat) : Nat := fo (fun j x => if s.testBit j then x + 1 else x) 0 6 0
theorem bitsN : ∀ s < 64, bitsV (nI s) = nI (pcN s) := by decide +kernel
theorem pcN6 : ∀ s < 64, pcN s ≤ 6 := by decide +kernel
def duF (c : Nat → Nat) (n T : Nat) : Nat := fo (fun s b => if duS c s n ≤ T ∧ b < pcN s then pcN s else b) 0 (2 ^ n) 0
def duG1 (c : Nat → Nat) (m P i : Nat) (b : Nat × Nat) : Nat × Nat := fo (fun k (b : Nat × Nat) => if c (P + 2 * k) = i ∧ i ≤ b.2 then (b.1 + 1, b.2 - i) else b) 0 m b
def duG (c : Nat → Nat) (m P T : Nat) : Nat × Nat := fo (fun i b => duG1 c m P i b) 0 (T + 1) (0, T)
def tri (P a b c j : Nat) : Nat := if j % 2 = P then (if j / 2 = 0 then a else if j / 2 = 1 then b else c) else 4
theorem duFG : ∀ P < 2, ∀ T < 4, ∀ n < 7, ∀ a < 5, ∀ b < 5, ∀ c < 5, duF (tri P a b c) n T = (duG (tri P a b c) ((n + 1 - P) / 2) P T).1 := by decide +kernel
theorem duC_le (g : Nat → Int32) (P j : Nat) : duC g P j < 5 := by
  unfold duC
  split
  · split
    · omega
    · omega
  · omega
theorem duC_tri (g : Nat → Int32) (P : Nat) (hP : P < 2) {j : Nat} (hj : j < 6) : duC g P j = tri P (duC g P P) (duC g P (P + 2)) (duC g P (P + 4)) j := by
  unfold tri
  by_cases e : j % 2 = P
  · rw [if_pos e]
    rcases (show j / 2 = 0 ∨ j / 2 = 1 ∨ j / 2 = 2 by omega) with z | z | z
    · rw [if_pos z, show j = P by omega]
    · rw [if_neg (by omega), if_pos z, show j = P + 2 by omega]
    · rw [if_neg (by omega), if_neg (by omega), show j = P + 4 by omega]
  · rw [if_neg e]
    unfold duC
    rw [if_neg e]
theorem duS_congr {c c' : Nat → Nat} {n : Nat} (h : ∀ j, j < n → c j = c' j) (s : Nat) : duS c s n = duS c' s n := by
  unfold duS
  exact fo_congr _ _ _ (fun i a _ hi => by rw [h i (by omega)])
theorem duFG_g (g : Nat → Int32) {P T n : Nat} (hP : P < 2) (hT : T < 4) (hn : n ≤ 6) : duF (duC g P) n T = (duG (duC g P) ((n + 1 - P) / 2) P T).1 := by
  have e := duFG P hP T hT n (by omega) _ (duC_le g P P) _ (duC_le g P (P + 2)) _ (duC_le g P (P + 4))
  have a : duF (duC g P) n T = duF (tri P (duC g P P) (duC g P (P + 2)) (duC g P (P + 4))) n T := by
    unfold duF
    refine fo_congr _ _ _ (fun s b _ _ => ?_)
    rw [duS_congr (fun j hj => duC_tri g P hP (show j < 6 by omega))]
  have b : duG (duC g P) ((n + 1 - P) / 2) P T = duG (tri P (duC g P P) (duC g P (P + 2)) (duC g P (P + 4))) ((n + 1 - P) / 2) P T := by
    unfold duG
    refine fo_congr _ _ _ (fun i b _ _ => ?_)
    unfold duG1
    refine fo_congr _ _ _ (fun k b _ hk => ?_)
    rw [duC_tri g P hP (show P + 2 * k < 6 by omega)]
  rw [a, b]
  exact e
/-- one set, weighed by the reference -/
def DuI (c : Nat → Nat) (s j : Nat) (b : Int32 × Bool) : Prop := (b.2 = true ∧ ∃ y, b.1 = nI y ∧ y ≤ 5 * j ∧ (y = duS c s j ∨ (4 ≤ y ∧ 4 ≤ duS c s j))) ∨ (b.2 = false ∧ 4 ≤ duS c s j)
theorem duS_succ (c : Nat → Nat) (s j : Nat) : duS c s (j + 1) = if s.testBit j then duS c s j + c j else duS c s j := by
  unfold duS
  rw [fo_snoc, Nat.zero_add]
def duStep (v : Nat → Int32) (s P : Nat) : Nat → Int32 × Bool → Int32 × Bool := fun i b => (b.1 + (if s.testBit i then moreV v i else 0), b.2 && (!(s.testBit i) || (decide (i % 2 = P) && !decide (moreV v i = -9))))
theorem duI_step {n : Nat} {v : Nat → Int32} (hv : VW n v) (hn : n ≤ 6) {s P i : Nat} (hi : i < n) {b : Int32 × Bool} (h : DuI (duC (moreV v) P) s i b) : DuI (duC (moreV v) P) s (i + 1) (duStep v s P i b) := by
  unfold DuI duStep at *
  rw [duS_succ]
  dsimp only
  cases hb : s.testBit i with
  | false =>
    simp only [Bool.false_eq_true, if_false, Bool.not_false, Bool.true_or, Bool.and_true, Int32.add_zero]
    rcases h with ⟨h1, y, h2, h3, h4⟩ | h
    · exact Or.inl ⟨h1, y, h2, by omega, h4⟩
    · exact Or.inr h
  | true =>
    simp only [if_true, Bool.not_true, Bool.false_or]
    rcases h with ⟨h1, y, h2, h3, h4⟩ | ⟨h1, h2⟩
    · rw [h1, Bool.true_and]
      by_cases ep : i % 2 = P
      · rcases more_rg hv hi with q | ⟨x, hx, q⟩
        · refine Or.inr ⟨by rw [q, decide_eq_true ep]; rfl, ?_⟩
          unfold duC
          rw [if_pos ep, if_pos q]
          omega
        · refine Or.inl ⟨by rw [q, decide_eq_true ep, decide_eq_false (nI9 (show x < 2 ^ 31 by omega))]; rfl, y + x, by rw [h2, q, nI_add], by omega, ?_⟩
          have e : duC (moreV v) P i = min x 4 := by
            unfold duC
            rw [if_pos ep, q, if_neg (nI9 (show x < 2 ^ 31 by omega)), nI_clamp (by omega)]
          rw [e]
          omega
      · refine Or.inr ⟨by rw [decide_eq_false ep]; rfl, ?_⟩
        unfold duC
        rw [if_neg ep]
        omega
    · exact Or.inr ⟨by rw [h1]; rfl, by omega⟩
theorem duM1 {n : Nat} {v : Nat → Int32} {τ : Sg} {a2 a3 : Int32} {K : Int32 → Bool → Option Int32} (hM : HM n v τ) (hv : VW n v) {s P : Nat} (hs : s < 64) (hP : P < 2) : ∃ b : Int32 × Bool, l_X6_ownBy_25 (nI P) a2 a3 (nI s) τ K FU 0 true 0 = K b.1 b.2 ∧ DuI (duC (moreV v) P) s n b := by
  have hn := hM.1
  have := loopL (fun N j (b : Int32 × Bool) => l_X6_ownBy_25 (nI P) a2 a3 (nI s) τ K N b.1 b.2 (nI j)) (fun b => K b.1 b.2) (duStep v s P) n (DuI (duC (moreV v) P) s)
    (fun N b _ => by
      show l_X6_ownBy_25 (nI P) a2 a3 (nI s) τ K (N + 1) b.1 b.2 (nI n) = _
      unfold l_X6_ownBy_25
      rw [hM.2.1, if_pos (nI_le (Nat.le_refl _) (by omega))])
    (fun N j b hj hI => by
      refine ⟨?_, duI_step hv hn hj hI⟩
      show l_X6_ownBy_25 (nI P) a2 a3 (nI s) τ K (N + 1) b.1 b.2 (nI j) = _
      conv => lhs; unfold l_X6_ownBy_25
      have e2 : nI j - nI j / (2 : Int32) * (2 : Int32) = nI (j % 2) := nIrem (b := 2) (by omega) (by decide)
      rw [hM.2.1, if_neg (nI_ge hj (by omega)), hasV s hs j (by omega), X6_moreOf_v hM hv hj, e2, hoB s hs j (by omega)]
      simp only [ckT, bfT, bfF, bndS, bnd2S, nmE, nI_1, nIeq (show j % 2 < 2 ^ 31 by omega) (show P < 2 ^ 31 by omega)]
      unfold duStep
      dsimp only
      cases b.2 <;> cases s.testBit j
      · simp only [ckT, bfT, bfF, bndS, bnd2S, nmE]; rfl
      · simp only [ckT, bfT, bfF, bndS, bnd2S, nmE]; rfl
      · simp only [ckT, bfT, bfF, bndS, bnd2S, nmE]; rfl
      · simp only [ckT, bfT, bfF, bndS, bnd2S, nmE]
        by_cases ep : j % 2 = P
        · by_cases eq : moreV v j = -9
          · rw [if_pos ep, if_pos eq, decide_eq_true ep, decide_eq_true eq]; rfl
          · rw [if_pos ep, if_neg eq, decide_eq_true ep, decide_eq_false eq]; rfl
        · rw [if_neg ep, decide_eq_false ep]; rfl) n 0 FU (0, true) (by omega) (lt_FU (by omega)) (Or.inl ⟨rfl, 0, rfl, by omega, Or.inl rfl⟩)
  exact ⟨_, this.1, this.2⟩
theorem duM {n : Nat} {v : Nat → Int32} {τ : Sg} (hM : HM n v τ) (hv : VW n v) {P T : Nat} (hP : P < 2) (hT : T < 4) : f_X6_ownBy (nI P) (nI T) τ = some (nI (duF (duC (moreV v) P) n T)) := by
  have hn := hM.1
  have h64 := p64 hn
  unfold f_X6_ownBy duF
  exact (loopL (fun N s (b : Nat) => l_X6_ownBy_5 (nI P) (nI T) τ (fun (v3_142 : Int32) => (some v3_142)) N (nI b) (nI s)) (fun b => some (nI b)) (fun s b => if duS (duC (moreV v) P) s n ≤ T ∧ b < pcN s then pcN s else b) (2 ^ n) (fun _ b => b ≤ 6)
    (fun N b _ => by
      show l_X6_ownBy_5 (nI P) (nI T) τ _ (N + 1) (nI b) (nI (2 ^ n)) = _
      unfold l_X6_ownBy_5
      rw [hM.2.1, shl1 n (by omega), if_pos (nI_le (Nat.le_refl _) (by omega))])
    (fun N s b hs hI => by
      have h6 := pcN6 s (by omega)
      refine ⟨?_, by split <;> omega⟩
      show l_X6_ownBy_5 (nI P) (nI T) τ _ (N + 1) (nI b) (nI s) = l_X6_ownBy_5 (nI P) (nI T) τ _ N (nI (if duS (duC (moreV v) P) s n ≤ T ∧ b < pcN s then pcN s else b)) (nI (s + 1))
      conv => lhs; unfold l_X6_ownBy_5
      rw [hM.2.1, shl1 n (by omega), if_neg (nI_ge hs (by omega))]
      obtain ⟨x, e, hx⟩ := duM1 (K := fun (v5_106 : Int32) (v6_106 : Bool) => (nm (fun (t0_135 : Int32) => (nm (nI s + (1 : Int32)) (fun y6 => (l_X6_ownBy_5 (nI P) (nI T) τ (fun (v3_142 : Int32) => (some v3_142)) N t0_135 y6))))
    (fun k135 => (nm (k135 (nI b))
    (fun k134 => (bf v6_106
    (if (nI T) < v5_106 then
    k134
    else
    (bnd (f_X6_bits (nI s)) (fun r7 => (if r7 ≤ (nI b) then
    k134
    else
    (bnd (f_X6_bits (nI s)) (fun r8 => (k135 r8)))))))
    k134)))))) (a2 := nI T) (a3 := nI b) (s := s) hM hv (by omega) hP
      refine e.trans ?_
      clear e
      rw [X6_bits_v, bitsN s (by omega)]
      simp only [ckT, bfT, bfF, bndS, bnd2S, nmE, nI_1]
      rcases hx with ⟨h1, y, h2, h3, h4⟩ | ⟨h1, h2⟩
      · rw [h1, h2, bfT]
        simp only [nIlt (show T < 2 ^ 31 by omega) (show y < 2 ^ 31 by omega), nIle (show pcN s < 2 ^ 31 by omega) (show b < 2 ^ 31 by omega)]
        by_cases e1 : T < y
        · rw [if_pos e1, if_neg (by omega)]
        · rw [if_neg e1]
          by_cases e2 : pcN s ≤ b
          · rw [if_pos e2, if_neg (by omega)]
          · rw [if_neg e2, if_pos (by omega)]
      · rw [h1, bfF, if_neg (by omega)]) (2 ^ n) 0 FU 0 (by omega) (lt_FU (by omega)) (by omega)).1
theorem duCi (g : Nat → Int32) {P k i : Nat} (hP : P < 2) (hi : i < 4) (h : g (P + 2 * k) = -9 ∨ ∃ x, x < 6 ∧ g (P + 2 * k) = nI x) : (g (P + 2 * k) = nI i) = (duC g P (P + 2 * k) = i) := by
  unfold duC
  rw [if_pos (by omega)]
  rcases h with q | ⟨x, hx, q⟩
  · rw [q, if_pos rfl]
    refine propext ⟨fun z => absurd z.symm (nI9 (by omega)), fun z => by omega⟩
  · rw [q, if_neg (nI9 (show x < 2 ^ 31 by omega)), nI_clamp (by omega), nIeq (by omega) (by omega)]
    exact propext ⟨fun z => by omega, fun z => by omega⟩
theorem duC1 {n s : Nat} {v : Nat → Int32} {σ : Sg} {a2 : Int32} {K : Int32 → Int32 → Option Int32} (hC : HC n v s σ) (hv : VW n v) {P T i : Nat} (hP : P < 2) (hT : T < 4) (hi : i < 4) {b : Nat × Nat} (hb : b.2 ≤ T) : l_X4_mostAwake_17 s (nI P) a2 (nI i) σ K FU (nI b.1) (nI b.2) (nI P) = K (nI (duG1 (duC (moreV v) P) ((n + 1 - P) / 2) P i b).1) (nI (duG1 (duC (moreV v) P) ((n + 1 - P) / 2) P i b).2) ∧ (duG1 (duC (moreV v) P) ((n + 1 - P) / 2) P i b).2 ≤ T := by
  have hn := hC.1
  exact loopL (fun N k (b : Nat × Nat) => l_X4_mostAwake_17 s (nI P) a2 (nI i) σ K N (nI b.1) (nI b.2) (nI (P + 2 * k))) (fun b => K (nI b.1) (nI b.2)) (fun k (b : Nat × Nat) => if duC (moreV v) P (P + 2 * k) = i ∧ i ≤ b.2 then (b.1 + 1, b.2 - i) else b) ((n + 1 - P) / 2) (fun _ b => b.2 ≤ T)
    (fun N b _ => by
      show l_X4_mostAwake_17 s (nI P) a2 (nI i) σ K (N + 1) (nI b.1) (nI b.2) (nI (P + 2 * ((n + 1 - P) / 2))) = _
      unfold l_X4_mostAwake_17
      rw [hC.2.2.1, if_pos (nI_le (by omega) (by omega))])
    (fun N k b hk hI => by
      refine ⟨?_, by split <;> (first | exact Nat.le_trans (Nat.sub_le _ _) hI | exact hI)⟩
      show l_X4_mostAwake_17 s (nI P) a2 (nI i) σ K (N + 1) (nI b.1) (nI b.2) (nI (P + 2 * k)) = _
      conv => lhs; unfold l_X4_mostAwake_17
      have hj : P + 2 * k < n := by omega
      rw [hC.2.2.1, if_neg (nI_ge hj (by omega)), X4_more_v hC hj]
      have e2 : nI (P + 2 * k) + (2 : Int32) = nI (P + 2 * (k + 1)) := nI_add (P + 2 * k) 2
      simp only [ckT, bfT, bfF, bndS, bnd2S, nmE, nI_1, e2, duCi (moreV v) hP hi (more_rg hv hj), nIlt (show b.2 < 2 ^ 31 by omega) (show i < 2 ^ 31 by omega)]
      by_cases e : duC (moreV v) P (P + 2 * k) = i
      · rw [if_pos e]
        by_cases e3 : b.2 < i
        · rw [if_pos e3, if_neg (by omega)]
        · rw [if_neg e3, if_pos ⟨e, by omega⟩, nIsub (by omega)]
      · rw [if_neg e, if_neg (by omega)]) ((n + 1 - P) / 2) 0 FU b (by omega) (lt_FU (by omega)) hb
theorem duC_v {n s : Nat} {v : Nat → Int32} {σ : Sg} (hC : HC n v s σ) (hv : VW n v) {P T : Nat} (hP : P < 2) (hT : T < 4) : f_X4_mostAwake s (nI P) (nI T) σ = some (nI (duG (duC (moreV v) P) ((n + 1 - P) / 2) P T).1) := by
  have hn := hC.1
  unfold f_X4_mostAwake duG
  exact (loopL (fun N i (b : Nat × Nat) => l_X4_mostAwake_8 s (nI P) (nI T) σ (fun (v3_66 : Int32) => (some v3_66)) N (nI b.1) (nI b.2) (nI i)) (fun b => some (nI b.1)) (fun i b => duG1 (duC (moreV v) P) ((n + 1 - P) / 2) P i b) (T + 1) (fun _ b => b.2 ≤ T)
    (fun N b _ => by
      show l_X4_mostAwake_8 s (nI P) (nI T) σ _ (N + 1) (nI b.1) (nI b.2) (nI (T + 1)) = _
      unfold l_X4_mostAwake_8
      rw [if_pos (nI_lt (by omega) (by omega))])
    (fun N i b hi hI => by
      obtain ⟨p1, p2⟩ := duC1 (a2 := nI T) (K := fun (v3_60 : Int32) (v4_60 : Int32) => (nm (nI i + (1 : Int32)) (fun y5 => (l_X4_mostAwake_8 s (nI P) (nI T) σ (fun (v3_66 : Int32) => (some v3_66)) N v3_60 v4_60 y5)))) hC hv hP hT (show i < 4 by omega) hI
      refine ⟨?_, p2⟩
      show l_X4_mostAwake_8 s (nI P) (nI T) σ _ (N + 1) (nI b.1) (nI b.2) (nI i) = _
      conv => lhs; unfold l_X4_mostAwake_8
      simp only [nIlt (show T < 2 ^ 31 by omega) (show i < 2 ^ 31 by omega)]
      rw [if_neg (by omega)]
      refine p1.trans ?_
      rw [nmE, nI_1]) (T + 1) 0 FU (0, T) (by omega) (lt_FU (by omega)) (Nat.le_refl _)).1
theorem st_duel : S_duel Rel := by
  intro σ τ a1 h
  obtain ⟨h1, h2, h3, h4, h5, n, w, cs, t1, t2, t3, t4, t5⟩ := id h
  have c1 := t3.1
  have m1 := t4.1
  have hv := run_VW t1 t2
  have hn := c1.1
  have hlen := t2.1
  generalize run n (iniV w) cs = v at c1 m1 hv
  unfold f_X5_duel f_X6_duel
  rw [X5_within_v, X6_in_v, bndS, bndS]
  rcases inV_c a1 (b := 3) (by decide) with ⟨T, hT, rfl, ed⟩ | ⟨ho, ed⟩
  · rw [show (3 : Int32) = nI 3 from rfl, ed, bfT, bfT, c1.2.2.1, m1.2.1]
    simp only [eq0 (show n < 2 ^ 31 by omega)]
    by_cases e0 : n = 0
    · rw [if_pos e0, if_pos e0]
      exact ⟨_, _, _, rfl, rfl, h⟩
    · have a0 := duC_v c1 hv (P := 0) (T := T) (by decide) (by omega)
      have a1 := duC_v c1 hv (P := 1) (T := T) (by decide) (by omega)
      have b0 := duM m1 hv (P := 0) (T := T) (by decide) (by omega)
      have b1 := duM m1 hv (P := 1) (T := T) (by decide) (by omega)
      rw [duFG_g _ (by decide) (by omega) hn] at b0 b1
      rw [if_neg e0, if_neg e0, show (0 : Int32) = nI 0 from rfl, show (1 : Int32) = nI 1 from rfl, a0, bndS, a1, bndS, b0, bndS, b1, bndS, nmE, X6_tells_v, bnd2S]
      exact ⟨_, _, _, rfl, rfl, asked_R h _⟩
  · rw [show (3 : Int32) = nI 3 from rfl, ed, bfF, bfF]
    exact ⟨_, _, _, rfl, rfl, h⟩
