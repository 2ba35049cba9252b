/-- what a house costs one of the two: 4 for what cannot be had -/
def duC (g : Nat → Int32) (P j : Nat) : Nat := if j % 2 = P then (if g j = -9 then 4 else min (g j).toNatClampNeg 4) else 4
def duS (c : Nat → Nat) (s n : Nat) : Nat := fo (fun j x => if s.testBit j then x + c j else x) 0 n 0
def pcN (s : Nat) : Nat := fo (fun j x => if s.testBit j then x + 1 else x) 0 6 0
theorem bitsN : ∀ s < 64, bitsV (nI s) = nI (pcN s) := by decide +kernel
theorem pcN6 : ∀ s < 64, pcN s ≤ 6 := by decide +kernel
def duF (c : Nat → Nat) (n T : Nat) : Nat := fo (fun s b => if duS c s n ≤ T ∧ b < pcN s then pcN s else b) 0 (2 ^ n) 0
def duG1 (c : Nat → Nat) (m P i : Nat) (b : Nat × Nat) : Nat × Nat := fo (fun k (b : Nat × Nat) => if c (P + 2 * k) = i ∧ i ≤ b.2 then (b.1 + 1, b.2 - i) else b) 0 m b
def duG (c : Nat → Nat) (m P T : Nat) : Nat × Nat := fo (fun i b => duG1 c m P i b) 0 (T + 1) (0, T)
def tri (P a b c j : Nat) : Nat := if j % 2 = P then (if j / 2 = 0 then a else if j / 2 = 1 then b else c) else 4
theorem duFG : ∀ P < 2, ∀ T < 4, ∀ n < 7, ∀ a < 5, ∀ b < 5, ∀ c < 5, duF (tri P a b c) n T = (duG (tri P a b c) ((n + 1 - P) / 2) P T).1 := by decide +kernel
theorem duC_le (g : Nat → Int32) (P j : Nat) : duC g P j < 5 := by
  unfold duC
  split
  · split
    · omega
    · omega
  · omega
theorem duC_tri (g : Nat → Int32) (P : Nat) (hP : P < 2) {j : Nat} (hj : j < 6) : duC g P j = tri P (duC g P P) (duC g P (P + 2)) (duC g P (P + 4)) j := by
  unfold tri
  by_cases e : j % 2 = P
  · rw [if_pos e]
    rcases (show j / 2 = 0 ∨ j / 2 = 1 ∨ j / 2 = 2 by omega) with z | z | z
    · rw [if_pos z, show j = P by omega]
    · rw [if_neg (by omega), if_pos z, show j = P + 2 by omega]
    · rw [if_neg (by omega), if_neg (by omega), show j = P + 4 by omega]
  · rw [if_neg e]
    unfold duC
    rw [if_neg e]
theorem duS_congr {c c' : Nat → Nat} {n : Nat} (h : ∀ j, j < n → c j = c' j) (s : Nat) : duS c s n = duS c' s n := by
  unfold duS
  exact fo_congr _ _ _ (fun i a _ hi => by rw [h i (by omega)])
theorem duFG_g (g : Nat → Int32) {P T n : Nat} (hP : P < 2) (hT : T < 4) (hn : n ≤ 6) : duF (duC g P) n T = (duG (duC g P) ((n + 1 - P) / 2) P T).1 := by
  have e := duFG P hP T hT n (by omega) _ (duC_le g P P) _ (duC_le g P (P + 2)) _ (duC_le g P (P + 4))
  have a : duF (duC g P) n T = duF (tri P (duC g P P) (duC g P (P + 2)) (duC g P (P + 4))) n T := by
    unfold duF
    refine fo_congr _ _ _ (fun s b _ _ => ?_)
    rw [duS_congr (fun j hj => duC_tri g P hP (show j < 6 by omega))]
  have b : duG (duC g P) ((n + 1 - P) / 2) P T = duG (tri P (duC g P P) (duC g P (P + 2)) (duC g P (P + 4))) ((n + 1 - P) / 2) P T := by
    unfold duG
    refine fo_congr _ _ _ (fun i b _ _ => ?_)
    unfold duG1
    refine fo_congr _ _ _ (fun k b _ hk => ?_)
    rw [duC_tri g P hP (show P + 2 * k < 6 by omega)]
  rw [a, b]
  exact e
/-- one set, weighed by the reference -/
def DuI (c : Nat → Nat) (s j : Nat) (b : Int32 × Bool) : Prop := (b.2 = true ∧ ∃ y, b.1 = nI y ∧ y ≤ 5 * j ∧ (y = duS c s j ∨ (4 ≤ y ∧ 4 ≤ duS c s j))) ∨ (b.2 = false ∧ 4 ≤ duS c s j)
theorem duS_succ (c : Nat → Nat) (s j : Nat) : duS c s (j + 1) = if s.testBit j then duS c s j + c j else duS c s j := by
  unfold duS
  rw [fo_snoc, Nat.zero_add]
def duStep (v : Nat → Int32) (s P : Nat) : Nat → Int32 × Bool → Int32 × Bool := fun i b => (b.1 + (if s.testBit i then moreV v i else 0), b.2 && (!(s.testBit i) || (decide (i % 2 = P) && !decide (moreV v i = -9))))
theorem duI_step {n : Nat} {v : Nat → Int32} (hv : VW n v) (hn : n ≤ 6) {s P i : Nat} (hi : i < n) {b : Int32 × Bool} (h : DuI (duC (moreV v) P) s i b) : DuI (duC (moreV v) P) s (i + 1) (duStep v s P i b) := by
  unfold DuI duStep at *
  rw [duS_succ]
  dsimp only
  cases hb : s.testBit i with
  | false =>
    simp only [Bool.false_eq_true, if_false, Bool.not_false, Bool.true_or, Bool.and_true, Int32.add_zero]
    rcases h with ⟨h1, y, h2, h3, h4⟩ | h
    · exact Or.inl ⟨h1, y, h2, by omega, h4⟩
    · exact Or.inr h
  | true =>
    simp only [if_true, Bool.not_true, Bool.false_or]
    rcases h with ⟨h1, y, h2, h3, h4⟩ | ⟨h1, h2⟩
    · rw [h1, Bool.true_and]
      by_cases ep : i % 2 = P
      · rcases more_rg hv hi with q | ⟨x, hx, q⟩
        · refine Or.inr ⟨by rw [q, decide_eq_true ep]; rfl, ?_⟩
          unfold duC
          rw [if_pos ep, if_pos q]
          omega
        · refine Or.inl ⟨by rw [q, decide_eq_true ep, decide_eq_false (nI9 (show x < 2 ^ 31 by omega))]; rfl, y + x, by rw [h2, q, nI_add], by omega, ?_⟩
          have e : duC (moreV v) P i = min x 4 := by
            unfold duC
            rw [if_pos ep, q, if_neg (nI9 (show x < 2 ^ 31 by omega)), nI_clamp (by omega)]
          rw [e]
          omega
      · refine Or.inr ⟨by rw [decide_eq_false ep]; rfl, ?_⟩
        unfold duC
        rw [if_neg ep]
        omega
    · exact Or.inr ⟨by rw [h1]; rfl, by omega⟩
theorem duCi (g : Nat → Int32) {P k i : Nat} (hP : P < 2) (hi : i < 4) (h : g (P + 2 * k) = -9 ∨ ∃ x, x < 6 ∧ g (P + 2 * k) = nI x) : (g (P + 2 * k) = nI i) = (duC g P (P + 2 * k) = i) := by
  unfold duC
  rw [if_pos (by omega)]
  rcases h with q | ⟨x, hx, q⟩
  · rw [q, if_pos rfl]
    refine propext ⟨fun z => absurd z.symm (nI9 (by omega)), fun z => by omega⟩
  · rw [q, if_neg (nI9 (show x < 2 ^ 31 by omega)), nI_clamp (by omega), nIeq (by omega) (by omega)]
    exact propext ⟨fun z => by omega, fun z => by omega⟩
theorem duC1 {n s : Nat} {v : Nat → Int32} {σ : Sg} {a2 : Int32} {K : Int32 → Int32 → Option Int32} (hC : HC n v s σ) (hv : VW n v) {P T i : Nat} (hP : P < 2) (hT : T < 4) (hi : i < 4) {b : Nat × Nat} (hb : b.2 ≤ T) : l_X4_mostAwake_17 s (nI P) a2 (nI i) σ K FU (nI b.1) (nI b.2) (nI P) = K (nI (duG1 (duC (moreV v) P) ((n + 1 - P) / 2) P i b).1) (nI (duG1 (duC (moreV v) P) ((n + 1 - P) / 2) P i b).2) ∧ (duG1 (duC (moreV v) P) ((n + 1 - P) / 2) P i b).2 ≤ T := by
  have hn := hC.1
  exact loopL (fun N k (b : Nat × Nat) => l_X4_mostAwake_17 s (nI P) a2 (nI i) σ K N (nI b.1) (nI b.2) (nI (P + 2 * k))) (fun b => K (nI b.1) (nI b.2)) (fun k (b : Nat × Nat) => if duC (moreV v) P (P + 2 * k) = i ∧ i ≤ b.2 then (b.1 + 1, b.2 - i) else b) ((n + 1 - P) / 2) (fun _ b => b.2 ≤ T)
    (fun N b _ => by
      show l_X4_mostAwake_17 s (nI P) a2 (nI i) σ K (N + 1) (nI b.1) (nI b.2) (nI (P + 2 * ((n + 1 - P) / 2))) = _
      unfold l_X4_mostAwake_17
      rw [hC.2.2.1, if_pos (nI_le (by omega) (by omega))])
    (fun N k b hk hI => by
      refine ⟨?_, by split <;> (first | exact Nat.le_trans (Nat.sub_le _ _) hI | exact hI)⟩
      show l_X4_mostAwake_17 s (nI P) a2 (nI i) σ K (N + 1) (nI b.1) (nI b.2) (nI (P + 2 * k)) = _
      conv => lhs; unfold l_X4_mostAwake_17
      have hj : P + 2 * k < n := by omega
      rw [hC.2.2.1, if_neg (nI_ge hj (by omega)), X4_more_v hC hj]
      have e2 : nI (P + 2 * k) + (2 : Int32) = nI (P + 2 * (k + 1)) := nI_add (P + 2 * k) 2
      simp only [ckT, bfT, bfF, bndS, bnd2S, nmE, nI_1, e2, duCi (moreV v) hP hi (more_rg hv hj), nIlt (show b.2 < 2 ^ 31 by omega) (show i < 2 ^ 31 by omega)]
      by_cases e : duC (moreV v) P (P + 2 * k) = i
      · rw [if_pos e]
        by_cases e3 : b.2 < i
        · rw [if_pos e3, if_neg (by omega)]
        · rw [if_neg e3, if_pos ⟨e, by omega⟩, nIsub (by omega)]
      · rw [if_neg e, if_neg (by omega)]) ((n + 1 - P) / 2) 0 FU b (by omega) (lt_FU (by omega)) hb
theorem duC_v {n s : Nat} {v : Nat → Int32} {σ : Sg} (hC : HC n v s σ) (hv : VW n v) {P T : Nat} (hP : P < 2) (hT : T < 4) : f_X4_mostAwake s (nI P) (nI T) σ = some (nI (duG (duC (moreV v) P) ((n + 1 - P) / 2) P T).1) := by
  have hn := hC.1
  unfold f_X4_mostAwake duG
  exact (loopL (fun N i (b : Nat × Nat) => l_X4_mostAwake_8 s (nI P) (nI T) σ (fun (v3_66 : Int32) => (some v3_66)) N (nI b.1) (nI b.2) (nI i)) (fun b => some (nI b.1)) (fun i b => duG1 (duC (moreV v) P) ((n + 1 - P) / 2) P i b) (T + 1) (fun _ b => b.2 ≤ T)
    (fun N b _ => by
      show l_X4_mostAwake_8 s (nI P) (nI T) σ _ (N + 1) (nI b.1) (nI b.2) (nI (T + 1)) = _
      unfold l_X4_mostAwake_8
      rw [if_pos (nI_lt (by omega) (by omega))])
    (fun N i b hi hI => by
      obtain ⟨p1, p2⟩ := duC1 (a2 := nI T) (K := fun (v3_60 : Int32) (v4_60 : Int32) => (nm (nI i + (1 : Int32)) (fun y5 => (l_X4_mostAwake_8 s (nI P) (nI T) σ (fun (v3_66 : Int32) => (some v3_66)) N v3_60 v4_60 y5)))) hC hv hP hT (show i < 4 by omega) hI
      refine ⟨?_, p2⟩
      show l_X4_mostAwake_8 s (nI P) (nI T) σ _ (N + 1) (nI b.1) (nI b.2) (nI i) = _
      conv => lhs; unfold l_X4_mostAwake_8
      simp only [nIlt (show T < 2 ^ 31 by omega) (show i < 2 ^ 31 by omega)]
      rw [if_neg (by omega)]
      refine p1.trans ?_
      rw [nmE, nI_1]) (T + 1) 0 FU (0, T) (by omega) (lt_FU (by omega)) (Nat.le_refl _)).1
