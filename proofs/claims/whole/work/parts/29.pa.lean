def preV (g : Nat → Int32) (m : Nat) : Int32 := fo (fun i x => if g i < 0 then x else x + 1) 0 m 0
theorem X5_present_v {σ : Sg} {b : Nat} {g : Nat → Int32} (hg : ∀ i, i < rLen b → gS σ (16 * (rBase b + i) + 1) = g i) : f_X5_present b σ = some (preV g (rLen b)) := by
  have hl := rLen_le b
  unfold f_X5_present preV
  refine loopP (fun N j x => l_X5_present_4 b σ (fun x => some x) N x (nI j)) (fun x => some x) (fun i x => if g i < 0 then x else x + 1) (rLen b) ?_ ?_ (rLen b) 0 FU 0 (by omega) (lt_FU (by omega))
  · intro N x
    show l_X5_present_4 b σ _ (N + 1) x (nI (rLen b)) = _
    unfold l_X5_present_4
    rw [if_pos (nI_le (Nat.le_refl _) (by omega))]
  · intro N j x hj
    show l_X5_present_4 b σ _ (N + 1) x (nI j) = _
    conv => lhs; unfold l_X5_present_4
    rw [if_neg (nI_ge hj (by omega)), inB_nI hj (by omega), nI_clamp (by omega), hg j hj]
    simp only [ckT, bfT, bfF, bndS, bnd2S, nmE, nI_1]
    split <;> rfl
theorem X6_thereOf_v {τ : Sg} {b : Nat} : f_X6_thereOf b τ = some (preV (gA τ b) (mLen b)) := by
  have hl := mLen_le b
  unfold f_X6_thereOf preV
  rw [nmE]
  refine loopP (fun N j x => l_X6_thereOf_10 b (nI (mLen b)) τ (fun x => some x) N x (nI j)) (fun x => some x) (fun i x => if gA τ b i < 0 then x else x + 1) (mLen b) ?_ ?_ (mLen b) 0 FU 0 (by omega) (lt_FU (by omega))
  · intro N x
    show l_X6_thereOf_10 b _ τ _ (N + 1) x (nI (mLen b)) = _
    unfold l_X6_thereOf_10
    rw [if_pos (nI_le (Nat.le_refl _) (by omega))]
  · intro N j x hj
    show l_X6_thereOf_10 b _ τ _ (N + 1) x (nI j) = _
    conv => lhs; unfold l_X6_thereOf_10
    rw [if_neg (nI_ge hj (by omega)), inB_nI hj (by omega), nI_clamp (by omega)]
    simp only [ckT, bfT, bfF, bndS, bnd2S, nmE, nI_1]
    by_cases e : 0 ≤ gA τ b j
    · rw [if_pos e, if_neg (Int32.not_lt.mpr e)]; rfl
    · rw [if_neg e, if_pos (Int32.not_le.mp e)]
      show l_X6_thereOf_10 b _ τ _ N (x + 0) _ = _
      rw [Int32.add_zero]
theorem count_R {σ τ : Sg} (h : Rel σ τ) (a1 : Int32) : ∃ r, f_X5_count a1 σ = some r ∧ f_X6_count a1 τ = some r := by
  obtain ⟨h1, h2, h3, h4, h5, n, w, cs, t1, t2, t3, t4, t5⟩ := id h
  have c1 := t3.1
  have m1 := t4.1
  have hv := run_VW t1 t2
  have hn := c1.1
  have hlen := t2.1
  obtain ⟨d1, d2, d3, d4, d5, d6, d7⟩ := c1.2.2.2.1
  have p1 : f_X5_present 71 σ = some (preV (gA τ 1) 6) := X5_present_v (b := 71) (fun i hi => (h3 i hi).1)
  have p2 : f_X5_present 72 σ = some (preV (gA τ 3) 4) := X5_present_v (b := 72) (fun i hi => (h4 i hi).1)
  have p3 : f_X5_present 73 σ = some (preV (gA τ 13) 3) := X5_present_v (b := 73) (fun i hi => (t5 i hi).1)
  have q1 : f_X6_thereOf 1 τ = some (preV (gA τ 1) 6) := X6_thereOf_v
  have q2 : f_X6_thereOf 3 τ = some (preV (gA τ 3) 4) := X6_thereOf_v
  have q3 : f_X6_thereOf 13 τ = some (preV (gA τ 13) 3) := X6_thereOf_v
  unfold f_X5_count f_X6_count
  simp only [c1.2.2.1, m1.2.1, d1, d3, d4, d5, d6, d7, t3.2.1.1, t4.2.1, X4_awakeSet_v c1, X6_awakeOnes_v m1, X4_manyOf_v c1, X6_kindMany_v m1, p1, p2, p3, q1, q2, q3, m1.2.2.1, m1.now (show 0 < 5 by decide), m1.now (show 1 < 5 by decide), m1.now (show 2 < 5 by decide), m1.now (show 3 < 5 by decide), m1.now (show 4 < 5 by decide), cl0, cl1, cl2, cl3, cl4, mL9, iB9_0, iB9_1, iB9_2, iB9_3, iB9_4, ckT, bfT, bfF, bndS, bnd2S, nmE]
  by_cases e0 : a1 = 0
  · simp only [if_pos e0]; exact ⟨_, rfl, rfl⟩
  simp only [if_neg e0]
  by_cases e1 : a1 = 1
  · simp only [if_pos e1]; exact ⟨_, rfl, rfl⟩
  simp only [if_neg e1]
  by_cases e2 : a1 = 2
  · simp only [if_pos e2]; exact ⟨_, rfl, rfl⟩
  simp only [if_neg e2]
  by_cases e3 : a1 = 3
  · simp only [if_pos e3]; exact ⟨_, rfl, rfl⟩
  simp only [if_neg e3]
  by_cases e4 : a1 = 4
  · simp only [if_pos e4]; exact ⟨_, rfl, rfl⟩
  simp only [if_neg e4]
  by_cases e5 : a1 = 5
  · simp only [if_pos e5]; exact ⟨_, rfl, rfl⟩
  simp only [if_neg e5]
  by_cases e6 : a1 = 6
  · simp only [if_pos e6]; exact ⟨_, rfl, rfl⟩
  simp only [if_neg e6]
  by_cases e7 : a1 = 7
  · simp only [if_pos e7]; exact ⟨_, rfl, rfl⟩
  simp only [if_neg e7]
  by_cases e8 : a1 = 8
  · simp only [if_pos e8]; exact ⟨_, rfl, rfl⟩
  simp only [if_neg e8]
  by_cases e9 : a1 = 9
  · simp only [if_pos e9]; exact ⟨_, rfl, rfl⟩
  simp only [if_neg e9]
  by_cases e10 : a1 = 10
  · simp only [if_pos e10]; exact ⟨_, rfl, rfl⟩
  simp only [if_neg e10]
  by_cases e11 : a1 = 11
  · simp only [if_pos e11]; exact ⟨_, rfl, rfl⟩
  simp only [if_neg e11]
  by_cases e12 : a1 = 12
  · simp only [if_pos e12]; exact ⟨_, rfl, rfl⟩
  simp only [if_neg e12]
  by_cases e13 : a1 = 13
  · simp only [if_pos e13]; exact ⟨_, rfl, rfl⟩
  simp only [if_neg e13]
  exact ⟨_, rfl, rfl⟩
theorem st_count : S_count Rel := fun σ τ a1 h => count_R h a1
/-! digest -/
def dg (g : Nat → Int32) (m : Nat) (x : Int64) : Int64 := fo (fun i x => (31 : Int64) * x + (g i).toInt64) 0 m x
/-- a size: missing, or so many -/
def szE (x : Int32) (m : Nat) : Prop := (x = -1 ∧ m = 0) ∨ x = nI m
theorem szE_end {x : Int32} {m : Nat} (h : szE x m) (hm : m < 2 ^ 31) : x ≤ nI m := by
  rcases h with ⟨rfl, rfl⟩ | rfl
  · decide
  · exact nI_le (Nat.le_refl _) hm
theorem szE_in {x : Int32} {m j : Nat} (h : szE x m) (hj : j < m) : x = nI m := by
  rcases h with ⟨-, rfl⟩ | h
  · omega
  · exact h
theorem dgC_in {σ : Sg} {b q m : Nat} {y : Int32} {K : Int64 → Option Int64} {x : Int64} (hs : szE (gS σ (16 * q + 1)) m) (hm : m ≤ cLen q) : l_X5_digestOf_34 b y q σ K FU x 0 = K (dg (gA σ q) m x) := by
  have hc := cLen_lt q
  refine loopP (fun N j x => l_X5_digestOf_34 b y q σ K N x (nI j)) K (fun i x => (31 : Int64) * x + (gA σ q i).toInt64) m ?_ ?_ m 0 FU x (by omega) (lt_FU (by omega))
  · intro N x
    show l_X5_digestOf_34 b y q σ K (N + 1) x (nI m) = _
    unfold l_X5_digestOf_34
    rw [if_pos (szE_end hs (by omega))]
  · intro N j x hj
    have hs' := szE_in hs hj
    show l_X5_digestOf_34 b y q σ K (N + 1) x (nI j) = _
    conv => lhs; unfold l_X5_digestOf_34
    rw [hs', if_neg (nI_ge hj (by omega)), X0_get_i hs' hm hj, bndS, nmE, nmE, nI_1]
theorem dgC_st {σ : Sg} {b j m N : Nat} {z : Int32} {g : Nat → Int32} {K : Int64 → Option Int64} {x : Int64} (hj : j < rLen b) (z1 : gS σ (16 * (rBase b + j) + 1) = z) (z2 : szE z m) (z3 : m ≤ cLen (rBase b + j)) (z4 : ∀ i, i < m → gA σ (rBase b + j) i = g i) : l_X5_digestOf_2 b σ K (N + 1) x (nI j) = l_X5_digestOf_2 b σ K N (dg g m ((31 : Int64) * x + z.toInt64)) (nI (j + 1)) := by
  have hl := rLen_le b
  have e9 : ∀ y, dg (gA σ (rBase b + j)) m y = dg g m y := fun y => fo_congr _ _ _ (fun i a _ hi => by rw [z4 i (by omega)])
  conv => lhs; unfold l_X5_digestOf_2
  rw [if_neg (nI_ge hj (by omega)), inB_nI hj (by omega), nI_clamp (by omega), ckT, nmE, nmE, dgC_in (m := m) (by rw [z1]; exact z2) z3, z1]
  dsimp only
  rw [nmE, nI_1, e9]
theorem dgC {σ : Sg} {b : Nat} {z : Nat → Int32} {g : Nat → Nat → Int32} {mm : Nat → Nat} (hz : ∀ r, r < rLen b → gS σ (16 * (rBase b + r) + 1) = z r ∧ szE (z r) (mm r) ∧ mm r ≤ cLen (rBase b + r) ∧ ∀ i, i < mm r → gA σ (rBase b + r) i = g r i) (x : Int64) : f_X5_digestOf b x σ = some (fo (fun r x => dg (g r) (mm r) ((31 : Int64) * x + (z r).toInt64)) 0 (rLen b) x) := by
  have hl := rLen_le b
  have := loopP (fun N j x => l_X5_digestOf_2 b σ (fun x => some x) N x (nI j)) (fun x => some x) (fun r x => dg (g r) (mm r) ((31 : Int64) * x + (z r).toInt64)) (rLen b)
    (fun N x => by
      show l_X5_digestOf_2 b σ _ (N + 1) x (nI (rLen b)) = _
      unfold l_X5_digestOf_2
      rw [if_pos (nI_le (Nat.le_refl _) (by omega))])
    (fun N j x hj => by
      obtain ⟨z1, z2, z3, z4⟩ := hz j hj
      exact dgC_st hj z1 z2 z3 z4) (rLen b) 0 FU x (by omega) (lt_FU (by omega))
  exact this
theorem dgM_row {τ : Sg} {r m : Nat} {K : Int64 → Option Int64} {x : Int64} (hr : r < 6) (hs : szE (gA τ 1 r) m) (hm : m ≤ 40) : l_X6_digest_130 (nI r) τ K FU x 0 = K (dg (fun i => gA τ 2 (40 * r + i)) m x) := by
  have i1 : inB (nI r) (mLen 1) = true := inB_nI (by rw [mL1]; omega) (by rw [mL1]; decide)
  refine loopP (fun N j x => l_X6_digest_130 (nI r) τ K N x (nI j)) K (fun i x => (31 : Int64) * x + (gA τ 2 (40 * r + i)).toInt64) m ?_ ?_ m 0 FU x (by omega) (lt_FU (by omega))
  · intro N x
    show l_X6_digest_130 (nI r) τ K (N + 1) x (nI m) = _
    unfold l_X6_digest_130
    rw [i1, ckT, nI_clamp (by omega), if_pos (szE_end hs (by omega))]
  · intro N j x hj
    have hs' := szE_in hs hj
    show l_X6_digest_130 (nI r) τ K (N + 1) x (nI j) = _
    conv => lhs; unfold l_X6_digest_130
    rw [i1, ckT, nI_clamp (show r < 2 ^ 31 by omega), hs', if_neg (nI_ge hj (by omega)), ml40, nI_add, inB_nI (by rw [mL2]; omega) (by rw [mL2]; decide), ckT, nmE, nmE, nI_1, nI_clamp (by omega)]
theorem dgM_txt {τ : Sg} {r m : Nat} {K : Int64 → Option Int64} {x : Int64} (hr : r < 4) (hs : szE (gA τ 3 r) m) (hm : m ≤ 60) : l_X6_digest_197 (nI r) τ K FU x 0 = K (dg (fun i => gA τ 4 (60 * r + i)) m x) := by
  have i1 : inB (nI r) (mLen 3) = true := inB_nI (by rw [mL3]; omega) (by rw [mL3]; decide)
  refine loopP (fun N j x => l_X6_digest_197 (nI r) τ K N x (nI j)) K (fun i x => (31 : Int64) * x + (gA τ 4 (60 * r + i)).toInt64) m ?_ ?_ m 0 FU x (by omega) (lt_FU (by omega))
  · intro N x
    show l_X6_digest_197 (nI r) τ K (N + 1) x (nI m) = _
    unfold l_X6_digest_197
    rw [i1, ckT, nI_clamp (by omega), if_pos (szE_end hs (by omega))]
  · intro N j x hj
    have hs' := szE_in hs hj
    show l_X6_digest_197 (nI r) τ K (N + 1) x (nI j) = _
    conv => lhs; unfold l_X6_digest_197
    rw [i1, ckT, nI_clamp (show r < 2 ^ 31 by omega), hs', if_neg (nI_ge hj (by omega)), ml60, nI_add, inB_nI (by rw [mL4]; omega) (by rw [mL4]; decide), ckT, nmE, nmE, nI_1, nI_clamp (by omega)]
theorem szE_of {x : Int32} {lim : Nat} (h : x = -1 ∨ ∃ m, m ≤ lim ∧ x = nI m) (hl : lim < 2 ^ 31) : szE x x.toNatClampNeg ∧ x.toNatClampNeg ≤ lim := by
  rcases h with rfl | ⟨m, hm, rfl⟩
  · exact ⟨Or.inl ⟨rfl, by decide⟩, Nat.le_trans (by decide) (Nat.zero_le lim)⟩
  · rw [nI_clamp (by omega)]
    exact ⟨Or.inr rfl, hm⟩
theorem st_digest : S_digest Rel := by
  intro σ τ h
  obtain ⟨h1, h2, h3, h4, h5, n, w, cs, t1, t2, t3, t4, t5⟩ := id h
  have c1 := t3.1
  have m1 := t4.1
  have hv := run_VW t1 t2
  have hn := c1.1
  have hlen := t2.1
  have hR : ∀ r, r < 6 → szE (gA τ 1 r) (gA τ 1 r).toNatClampNeg ∧ (gA τ 1 r).toNatClampNeg ≤ 40 := fun r hr => szE_of ((h3 r hr).2.imp id (fun ⟨m, q1, q2, _⟩ => ⟨m, q1, q2⟩)) (by decide)
  have hT : ∀ r, r < 4 → szE (gA τ 3 r) (gA τ 3 r).toNatClampNeg ∧ (gA τ 3 r).toNatClampNeg ≤ 60 := fun r hr => szE_of ((h4 r hr).2.imp id (fun ⟨m, q1, q2, _⟩ => ⟨m, q1, q2⟩)) (by decide)
  obtain ⟨cnt, hcnt⟩ : ∃ cnt : Nat → Int32, ∀ k, f_X5_count (nI k) σ = some (cnt k) ∧ f_X6_count (nI k) τ = some (cnt k) := ⟨fun k => (count_R h (nI k)).choose, fun k => (count_R h (nI k)).choose_spec⟩
  have A1 : ∀ (K : Int64 → Option Int64) x, l_X5_digest_6 σ K FU x 0 = K (fo (fun k x => (31 : Int64) * x + (cnt k).toInt64) 0 14 x) := fun K x => loopP (fun N j x => l_X5_digest_6 σ K N x (nI j)) K _ 14
    (fun N x => by
      show l_X5_digest_6 σ K (N + 1) x (nI 14) = _
      unfold l_X5_digest_6
      rw [if_pos (by decide)])
    (fun N j x hj => by
      show l_X5_digest_6 σ K (N + 1) x (nI j) = _
      conv => lhs; unfold l_X5_digest_6
      rw [show (14 : Int32) = nI 14 from rfl, if_neg (nI_ge hj (by omega)), (hcnt j).1, bndS, nmE, nmE, nI_1]) 14 0 FU x (by omega) (lt_FU (by omega))
  have A2 : ∀ (K : Int64 → Option Int64) x, l_X6_digest_6 τ K FU x 0 = K (fo (fun k x => (31 : Int64) * x + (cnt k).toInt64) 0 14 x) := fun K x => loopP (fun N j x => l_X6_digest_6 τ K N x (nI j)) K _ 14
    (fun N x => by
      show l_X6_digest_6 τ K (N + 1) x (nI 14) = _
      unfold l_X6_digest_6
      rw [if_pos (by decide)])
    (fun N j x hj => by
      show l_X6_digest_6 τ K (N + 1) x (nI j) = _
      conv => lhs; unfold l_X6_digest_6
      rw [show (14 : Int32) = nI 14 from rfl, if_neg (nI_ge hj (by omega)), (hcnt j).2, bndS, nmE, nmE, nI_1]) 14 0 FU x (by omega) (lt_FU (by omega))
  have B1 : ∀ (K : Int64 → Option Int64) x i, i < n → l_X5_digest_47 (nI i) σ K FU x 0 = K (dg (fun k => tellV (run n (iniV w) cs) i (nI k)) 6 x) := fun K x i hi => loopP (fun N j x => l_X5_digest_47 (nI i) σ K N x (nI j)) K _ 6
    (fun N x => by
      show l_X5_digest_47 (nI i) σ K (N + 1) x (nI 6) = _
      unfold l_X5_digest_47
      rw [if_pos (by decide)])
    (fun N j x hj => by
      show l_X5_digest_47 (nI i) σ K (N + 1) x (nI j) = _
      conv => lhs; unfold l_X5_digest_47
      rw [show (6 : Int32) = nI 6 from rfl, if_neg (nI_ge hj (by omega)), X4_tell_v c1 hi, bndS, nmE, nmE, nI_1]) 6 0 FU x (by omega) (lt_FU (by omega))
  have B2 : ∀ (K : Int64 → Option Int64) x i, i < n → l_X6_digest_44 (nI i) τ K FU x 0 = K (dg (fun k => tellV (run n (iniV w) cs) i (nI k)) 6 x) := fun K x i hi => loopP (fun N j x => l_X6_digest_44 (nI i) τ K N x (nI j)) K _ 6
    (fun N x => by
      show l_X6_digest_44 (nI i) τ K (N + 1) x (nI 6) = _
      unfold l_X6_digest_44
      rw [if_pos (by decide)])
    (fun N j x hj => by
      show l_X6_digest_44 (nI i) τ K (N + 1) x (nI j) = _
      conv => lhs; unfold l_X6_digest_44
      rw [show (6 : Int32) = nI 6 from rfl, if_neg (nI_ge hj (by omega)), X6_houseTells_v m1 hv hi, bndS, nmE, nmE, nI_1]) 6 0 FU x (by omega) (lt_FU (by omega))
  have C1 : ∀ (K : Int64 → Option Int64) x, l_X5_digest_33 σ K FU x 0 = K (fo (fun i x => dg (fun k => tellV (run n (iniV w) cs) i (nI k)) 6 x) 0 n x) := fun K x => loopP (fun N j x => l_X5_digest_33 σ K N x (nI j)) K _ n
    (fun N x => by
      show l_X5_digest_33 σ K (N + 1) x (nI n) = _
      unfold l_X5_digest_33
      rw [c1.2.2.1, if_pos (nI_le (Nat.le_refl _) (by omega))])
    (fun N j x hj => by
      show l_X5_digest_33 σ K (N + 1) x (nI j) = _
      conv => lhs; unfold l_X5_digest_33
      rw [c1.2.2.1, if_neg (nI_ge hj (by omega)), B1 _ _ _ hj, nmE, nI_1]) n 0 FU x (by omega) (lt_FU (by omega))
  have C2 : ∀ (K : Int64 → Option Int64) x, l_X6_digest_33 τ K FU x 0 = K (fo (fun i x => dg (fun k => tellV (run n (iniV w) cs) i (nI k)) 6 x) 0 n x) := fun K x => loopP (fun N j x => l_X6_digest_33 τ K N x (nI j)) K _ n
    (fun N x => by
      show l_X6_digest_33 τ K (N + 1) x (nI n) = _
      unfold l_X6_digest_33
      rw [m1.2.1, if_pos (nI_le (Nat.le_refl _) (by omega))])
    (fun N j x hj => by
      show l_X6_digest_33 τ K (N + 1) x (nI j) = _
      conv => lhs; unfold l_X6_digest_33
      rw [m1.2.1, if_neg (nI_ge hj (by omega)), B2 _ _ _ hj, nmE, nI_1]) n 0 FU x (by omega) (lt_FU (by omega))
  have D1 : ∀ (K : Int64 → Option Int64) x, l_X5_digest_86 σ K FU x 0 = K (dg (gA τ 13) 3 x) := fun K x => loopP (fun N j x => l_X5_digest_86 σ K N x (nI j)) K _ 3
    (fun N x => by
      show l_X5_digest_86 σ K (N + 1) x (nI 3) = _
      unfold l_X5_digest_86
      rw [if_pos (by decide)])
    (fun N j x hj => by
      show l_X5_digest_86 σ K (N + 1) x (nI j) = _
      conv => lhs; unfold l_X5_digest_86
      rw [show rLen 73 = 3 from rfl, if_neg (nI_ge hj (by omega)), inB_nI hj (by omega), nI_clamp (by omega), show rBase 73 + j = 15 + j from rfl, (t5 j hj).1]
      simp only [ckT, bfT, bfF, bndS, bnd2S, nmE, nI_1]) 3 0 FU x (by omega) (lt_FU (by omega))
  have D2 : ∀ (K : Int64 → Option Int64) x, l_X6_digest_80 τ K FU x 0 = K (dg (gA τ 13) 3 x) := fun K x => loopP (fun N j x => l_X6_digest_80 τ K N x (nI j)) K _ 3
    (fun N x => by
      show l_X6_digest_80 τ K (N + 1) x (nI 3) = _
      unfold l_X6_digest_80
      rw [if_pos (by decide)])
    (fun N j x hj => by
      show l_X6_digest_80 τ K (N + 1) x (nI j) = _
      conv => lhs; unfold l_X6_digest_80
      rw [show (3 : Int32) = nI 3 from rfl, if_neg (nI_ge hj (by omega)), inB_nI (by rw [mL13]; omega) (by rw [mL13]; decide), nI_clamp (by omega)]
      simp only [ckT, bfT, bfF, bndS, bnd2S, nmE, nI_1]) 3 0 FU x (by omega) (lt_FU (by omega))
  have E1 : ∀ x, f_X5_digestOf 71 x σ = some (fo (fun r x => dg (fun i => gA τ 2 (40 * r + i)) (gA τ 1 r).toNatClampNeg ((31 : Int64) * x + (gA τ 1 r).toInt64)) 0 6 x) := fun x => dgC (b := 71) (z := gA τ 1) (g := fun r i => gA τ 2 (40 * r + i)) (mm := fun r => (gA τ 1 r).toNatClampNeg) (fun r hr => ⟨(h3 r hr).1, (hR r hr).1, by rw [show rBase 71 + r = 5 + r from rfl, cLen_row hr]; exact (hR r hr).2, fun i hi => (row_items h3 hr ((h3 r hr).1.trans (szE_in (hR r hr).1 hi)) (hR r hr).2).2 i hi⟩) x
  have F1 : ∀ x, f_X5_digestOf 72 x σ = some (fo (fun r x => dg (fun i => gA τ 4 (60 * r + i)) (gA τ 3 r).toNatClampNeg ((31 : Int64) * x + (gA τ 3 r).toInt64)) 0 4 x) := fun x => dgC (b := 72) (z := gA τ 3) (g := fun r i => gA τ 4 (60 * r + i)) (mm := fun r => (gA τ 3 r).toNatClampNeg) (fun r hr => ⟨(h4 r hr).1, (hT r hr).1, by rw [show rBase 72 + r = 11 + r from rfl, cLen_txt hr]; exact (hT r hr).2, fun i hi => (txt_items h4 hr ((h4 r hr).1.trans (szE_in (hT r hr).1 hi)) (hT r hr).2).2 i hi⟩) x
  have E2 : ∀ (K : Int64 → Option Int64) x, l_X6_digest_107 τ K FU x 0 = K (fo (fun r x => dg (fun i => gA τ 2 (40 * r + i)) (gA τ 1 r).toNatClampNeg ((31 : Int64) * x + (gA τ 1 r).toInt64)) 0 6 x) := fun K x => loopP (fun N j x => l_X6_digest_107 τ K N x (nI j)) K _ 6
    (fun N x => by
      show l_X6_digest_107 τ K (N + 1) x (nI 6) = _
      unfold l_X6_digest_107
      rw [if_pos (by decide)])
    (fun N j x hj => by
      show l_X6_digest_107 τ K (N + 1) x (nI j) = _
      conv => lhs; unfold l_X6_digest_107
      rw [show (6 : Int32) = nI 6 from rfl, if_neg (nI_ge hj (by omega)), inB_nI (by rw [mL1]; omega) (by rw [mL1]; decide), nI_clamp (by omega)]
      simp only [ckT, bfT, bfF, bndS, bnd2S, nmE, nI_1]
      rw [dgM_row hj (hR j hj).1 (hR j hj).2]) 6 0 FU x (by omega) (lt_FU (by omega))
  have F2 : ∀ (K : Int64 → Option Int64) x, l_X6_digest_175 τ K FU x 0 = K (fo (fun r x => dg (fun i => gA τ 4 (60 * r + i)) (gA τ 3 r).toNatClampNeg ((31 : Int64) * x + (gA τ 3 r).toInt64)) 0 4 x) := fun K x => loopP (fun N j x => l_X6_digest_175 τ K N x (nI j)) K _ 4
    (fun N x => by
      show l_X6_digest_175 τ K (N + 1) x (nI 4) = _
      unfold l_X6_digest_175
      rw [if_pos (by decide)])
    (fun N j x hj => by
      show l_X6_digest_175 τ K (N + 1) x (nI j) = _
      conv => lhs; unfold l_X6_digest_175
      rw [show (4 : Int32) = nI 4 from rfl, if_neg (nI_ge hj (by omega)), inB_nI (by rw [mL3]; omega) (by rw [mL3]; decide), nI_clamp (by omega)]
      simp only [ckT, bfT, bfF, bndS, bnd2S, nmE, nI_1]
      rw [dgM_txt hj (hT j hj).1 (hT j hj).2]) 4 0 FU x (by omega) (lt_FU (by omega))
  unfold f_X5_digest f_X6_digest
  rw [A1, A2, C1, C2, D1, D2, E1, E2, bndS, F1, F2]
  exact ⟨_, rfl, rfl⟩
