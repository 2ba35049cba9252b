theorem nI_sub_toInt {m n : Nat} (hm : m < 2 ^ 31) (hn : n < 2 ^ 31) : (nI m - nI n).toInt = (m : Int) - n := by
  rw [Int32.toInt_sub, nI_toInt hm, nI_toInt hn]
  rw [Int.bmod_def]
  omega
/-- does a part of n from x on lie in m -/
def partB (x : Int32) (n m : Nat) : Bool := decide (¬ x < 0 ∧ x.toInt + n ≤ m)
theorem spans_b {σ : Sg} {q m n : Nat} {x : Int32} (hs : gS σ (16 * q + 1) = nI m) (hm : m ≤ cLen q) (hn : n < 2 ^ 31) : f_X0_spans q x (nI n) σ = some (partB x n m) := by
  have h0 := cLen_lt q
  unfold f_X0_spans partB
  rw [hs]
  simp (disch := omega) only [nIlt0, nIlt, if_false]
  by_cases h1 : x < 0
  · rw [if_pos h1]; simp [h1]
  · rw [if_neg h1]
    have e : (nI m - nI n < x) ↔ ¬ (x.toInt + n ≤ m) := by
      rw [Int32.lt_iff_toInt_lt, nI_sub_toInt (by omega) hn]
      omega
    by_cases h2 : x.toInt + n ≤ m
    · rw [if_neg (fun z => (e.mp z) h2), if_neg (by omega), decide_eq_true ⟨h1, h2⟩]
    · rw [if_pos (e.mpr h2), decide_eq_false (fun z => h2 z.2)]
theorem isPart_b {m n : Nat} {x : Int32} (hm : m < 2 ^ 31) (hn : n < 2 ^ 31) : f_X6_isPart x (nI n) (nI m) = some (partB x n m) := by
  unfold f_X6_isPart partB
  simp only [nIlt hm hn]
  by_cases h1 : x < 0
  · rw [if_pos h1]; simp [h1]
  · rw [if_neg h1]
    have h1' : 0 ≤ x.toInt := by
      rw [Int32.lt_iff_toInt_lt] at h1
      have e0 : (0 : Int32).toInt = 0 := by decide
      omega
    have e : (nI m - nI n < x) ↔ ¬ (x.toInt + n ≤ m) := by
      rw [Int32.lt_iff_toInt_lt, nI_sub_toInt hm hn]
      omega
    by_cases h3 : m < n
    · rw [if_pos h3, decide_eq_false (fun z => by omega)]
    · rw [if_neg h3]
      by_cases h2 : x.toInt + n ≤ m
      · rw [if_neg (fun z => (e.mp z) h2), decide_eq_true ⟨h1, h2⟩]
      · rw [if_pos (e.mpr h2), decide_eq_false (fun z => h2 z.2)]
theorem partB_of {x : Int32} {n m : Nat} (hm : m < 2 ^ 31) (h : partB x n m = true) : ∃ i, x = nI i ∧ i + n ≤ m := by
  obtain ⟨h1, h2⟩ := of_decide_eq_true h
  obtain ⟨i, hi, rfl⟩ := nI_of h1
  rw [nI_toInt hi] at h2
  exact ⟨i, rfl, by omega⟩
/-- items brought over within one array, the way that no item is lost -/
theorem copyM {τ : Sg} {r i t j n : Nat} {up : Bool} {K : Sg → Option (Int32 × Sg)} (hr : r < 6) (ht : t < 6) (hi : i + n ≤ 40) (hj : j + n ≤ 40) (hup : up = decide (r = t ∧ i < j)) :
    l_X6_copy_113 (nI r) (nI i) (nI t) (nI j) (nI n) up K FU 0 τ = K (pA τ 2 (fun y => if 40 * t + j ≤ y ∧ y < 40 * t + j + n then gA τ 2 (40 * r + i + (y - (40 * t + j))) else gA τ 2 y)) := by
  cases up
  · have hd : ¬ (r = t ∧ i < j) := of_decide_eq_false hup.symm
    have := (loopL (fun N k τ => l_X6_copy_113 (nI r) (nI i) (nI t) (nI j) (nI n) false K N (nI k) τ) K (fun k τ => pA τ 2 (upd (gA τ 2) (40 * t + j + k) (gA τ 2 (40 * r + i + k)))) n (fun k τ' => τ' = pA τ 2 (fun y => if 40 * t + j ≤ y ∧ y < 40 * t + j + k then gA τ 2 (40 * r + i + (y - (40 * t + j))) else gA τ 2 y))
      (fun N τ' _ => by
        show l_X6_copy_113 (nI r) (nI i) (nI t) (nI j) (nI n) false K (N + 1) (nI n) τ' = _
        unfold l_X6_copy_113
        rw [if_pos (nI_le (Nat.le_refl _) (by omega))])
      (fun N k τ' hk hI => by
        refine ⟨?_, ?_⟩
        · show l_X6_copy_113 (nI r) (nI i) (nI t) (nI j) (nI n) false K (N + 1) (nI k) τ' = _
          conv => lhs; unfold l_X6_copy_113
          rw [if_neg (nI_ge hk (by omega))]
          simp only [ml40, nI_add, nmE, bfF]
          rw [inB_nI (by rw [mL2]; omega) (by rw [mL2]; decide), inB_nI (by rw [mL2]; omega) (by rw [mL2]; decide), nI_clamp (by omega), nI_clamp (by omega), ckT, ckT, nI_1]
        · rw [hI, pA_pA, gA_same]
          congr 1
          funext y
          unfold upd
          dsimp only
          by_cases e : y = 40 * t + j + k
          · rw [if_pos e, if_neg (by omega), if_pos (by omega)]
            subst e
            congr 1
            omega
          · rw [if_neg e]
            by_cases e2 : 40 * t + j ≤ y ∧ y < 40 * t + j + k
            · rw [if_pos e2, if_pos (by omega)]
            · rw [if_neg e2, if_neg (by omega)])
      n 0 FU τ (by omega) (lt_FU (by omega)) (by
        rw [show (fun y => if 40 * t + j ≤ y ∧ y < 40 * t + j + 0 then gA τ 2 (40 * r + i + (y - (40 * t + j))) else gA τ 2 y) = gA τ 2 from funext fun y => by rw [if_neg (by omega)], pA_self]))
    refine this.1.trans ?_
    rw [this.2]
  · have hd : r = t ∧ i < j := of_decide_eq_true hup.symm
    have := (loopL (fun N k τ => l_X6_copy_113 (nI r) (nI i) (nI t) (nI j) (nI n) true K N (nI k) τ) K (fun k τ => pA τ 2 (upd (gA τ 2) (40 * t + j + (n - 1 - k)) (gA τ 2 (40 * r + i + (n - 1 - k))))) n (fun k τ' => τ' = pA τ 2 (fun y => if 40 * t + j + (n - k) ≤ y ∧ y < 40 * t + j + n then gA τ 2 (40 * r + i + (y - (40 * t + j))) else gA τ 2 y))
      (fun N τ' _ => by
        show l_X6_copy_113 (nI r) (nI i) (nI t) (nI j) (nI n) true K (N + 1) (nI n) τ' = _
        unfold l_X6_copy_113
        rw [if_pos (nI_le (Nat.le_refl _) (by omega))])
      (fun N k τ' hk hI => by
        refine ⟨?_, ?_⟩
        · show l_X6_copy_113 (nI r) (nI i) (nI t) (nI j) (nI n) true K (N + 1) (nI k) τ' = _
          conv => lhs; unfold l_X6_copy_113
          rw [if_neg (nI_ge hk (by omega))]
          have e1 : nI n - (1 : Int32) - nI k = nI (n - 1 - k) := by
            rw [show (1 : Int32) = nI 1 from rfl, nIsub (by omega), nIsub (by omega)]
          simp only [ml40, nI_add, nmE, bfT, e1]
          rw [inB_nI (by rw [mL2]; omega) (by rw [mL2]; decide), inB_nI (by rw [mL2]; omega) (by rw [mL2]; decide), nI_clamp (by omega), nI_clamp (by omega), ckT, ckT, nI_1]
        · rw [hI, pA_pA, gA_same]
          congr 1
          funext y
          unfold upd
          dsimp only
          by_cases e : y = 40 * t + j + (n - 1 - k)
          · rw [if_pos e, if_neg (by omega), if_pos (by omega)]
            subst e
            congr 1
            omega
          · rw [if_neg e]
            by_cases e2 : 40 * t + j + (n - k) ≤ y ∧ y < 40 * t + j + n
            · rw [if_pos e2, if_pos (by omega)]
            · rw [if_neg e2, if_neg (by omega)])
      n 0 FU τ (by omega) (lt_FU (by omega)) (by
        rw [show (fun y => if 40 * t + j + (n - 0) ≤ y ∧ y < 40 * t + j + n then gA τ 2 (40 * r + i + (y - (40 * t + j))) else gA τ 2 y) = gA τ 2 from funext fun y => by rw [if_neg (by omega)], pA_self]))
    refine this.1.trans ?_
    rw [this.2]
    congr 2
    funext y
    rw [Nat.sub_self, Nat.add_zero]
theorem lt0_m1 : ((-1 : Int32) < 0) = True := eq_true (by decide)
theorem st_copy : S_copy Rel := by
  intro σ τ a1 a2 a3 a4 a5 h
  unfold f_X5_copy f_X6_copy
  rw [X6_in_v, X6_in_v, bndS, bndS]
  rcases inV_c a1 (b := 5) (by decide) with ⟨r, hr, rfl, ed⟩ | ⟨ho, ed⟩
  rotate_left
  · rw [show (5 : Int32) = nI 5 from rfl, ed, bfF, pick_o (q := 71) ho, bndS, ocN]
    rcases inV_c a3 (b := 5) (by decide) with ⟨t, ht, rfl, ed2⟩ | ⟨ho2, ed2⟩
    · rw [pick_i (q := 71) (show t < 6 by omega)]
      exact ⟨_, _, _, rfl, rfl, h⟩
    · rw [pick_o (q := 71) ho2]
      exact ⟨_, _, _, rfl, rfl, h⟩
  rcases inV_c a3 (b := 5) (by decide) with ⟨t, ht, rfl, ed2⟩ | ⟨ho2, ed2⟩
  rotate_left
  · rw [show (5 : Int32) = nI 5 from rfl, ed, ed2, bfT, bfF, pick_i (q := 71) (show r < 6 by omega), pick_o (q := 71) ho2]
    exact ⟨_, _, _, rfl, rfl, h⟩
  obtain ⟨σ1, τ1, g1, g2, g3⟩ := found_R h (f := 1) (by decide)
  obtain ⟨σ2, τ2, g4, g5, g6⟩ := found_R h (f := 2) (by decide)
  obtain ⟨σ5, τ5, g7, g8, g9⟩ := found_R h (f := 5) (by decide)
  have z1 : f_X5_found 1 σ = some (-3, σ1) := g1
  have z2 : f_X5_found 2 σ = some (-3, σ2) := g4
  have z5 : f_X5_found 5 σ = some (-3, σ5) := g7
  have y1 : f_X6_finds 1 τ = some (-3, τ1) := g2
  have y2 : f_X6_finds 2 τ = some (-3, τ2) := g5
  have y5 : f_X6_finds 5 τ = some (-3, τ5) := g8
  have i1 : inB (nI r) (mLen 1) = true := inB_nI (by rw [mL1]; omega) (by rw [mL1]; decide)
  have i2 : inB (nI t) (mLen 1) = true := inB_nI (by rw [mL1]; omega) (by rw [mL1]; decide)
  rw [z1, z2, z5, y1, y2, y5, show (5 : Int32) = nI 5 from rfl, ed, ed2, pick_i (q := 71) (show r < 6 by omega), pick_i (q := 71) (show t < 6 by omega), i1, i2, nI_clamp (show r < 2 ^ 31 by omega), nI_clamp (show t < 2 ^ 31 by omega)]
  simp only [ckT, bfT, bfF, bndS, bnd2S, nmE, ocS, show rBase 71 + r = 5 + r from rfl, show rBase 71 + t = 5 + t from rfl]
  by_cases e5 : 0 ≤ a5
  rotate_left
  · rw [if_neg e5, if_neg e5]
    exact ⟨_, _, _, rfl, rfl, g9⟩
  rw [if_pos e5, if_pos e5]
  obtain ⟨n, hn, rfl⟩ := nI_of (Int32.not_lt.mpr e5)
  obtain ⟨b1, b2⟩ := h.2.2.1 r (by omega)
  obtain ⟨c1, c2⟩ := h.2.2.1 t (by omega)
  rw [b1, c1]
  rcases b2 with b2 | ⟨m, q1, q2, q3⟩
  · rw [b2, if_pos (by decide), if_pos (by decide)]
    exact ⟨_, _, _, rfl, rfl, g3⟩
  rw [q2, if_neg (nI_pos (by omega)), if_neg (nI_pos (by omega))]
  rcases c2 with c2 | ⟨m', u1, u2, u3⟩
  · rw [c2, if_neg (by decide), if_neg (by decide)]
    exact ⟨_, _, _, rfl, rfl, g3⟩
  rw [u2, if_pos (nI_pos' (by omega)), if_pos (nI_pos' (by omega)), spans_b (b1.trans q2) (by rw [cLen_row (by omega)]; exact q1) hn, spans_b (c1.trans u2) (by rw [cLen_row (by omega)]; exact u1) hn, isPart_b (by omega) hn, isPart_b (by omega) hn]
  simp only [ckT, bfT, bfF, bndS, bnd2S, nmE]
  cases p1 : partB a2 n m
  · exact ⟨_, _, _, rfl, rfl, g6⟩
  simp only [bfT]
  cases p2 : partB a4 n m'
  · exact ⟨_, _, _, rfl, rfl, g6⟩
  simp only [bfT]
  obtain ⟨i, rfl, hi⟩ := partB_of (by omega) p1
  obtain ⟨j, rfl, hj⟩ := partB_of (by omega) p2
  unfold f_X0_copyOut
  rw [spans_b (b1.trans q2) (by rw [cLen_row (by omega)]; exact q1) hn, spans_b (c1.trans u2) (by rw [cLen_row (by omega)]; exact u1) hn, p1, p2]
  simp only [ckT, bfT, bfF, bndS, bnd2S, nmE]
  have hac : acB (nI i) (nI j) (nI n) (cLen (5 + r)) (cLen (5 + t)) = true := by
    unfold acB
    rw [cLen_row (by omega), cLen_row (by omega)]
    simp (disch := omega) only [nIlt0, nI_clamp]
    simp
    omega
  rw [hac, ckT, nI_clamp (show i < 2 ^ 31 by omega), nI_clamp (show j < 2 ^ 31 by omega), nI_clamp hn]
  have hM : ∀ up : Bool, up = decide (r = t ∧ i < j) → l_X6_copy_113 (nI r) (nI i) (nI t) (nI j) (nI n) up (fun σv => some (1, σv)) FU 0 τ = some (1, pA τ 2 (fun y => if 40 * t + j ≤ y ∧ y < 40 * t + j + n then gA τ 2 (40 * r + i + (y - (40 * t + j))) else gA τ 2 y)) := fun up hup => copyM (by omega) (by omega) (by omega) (by omega) hup
  have hR : Rel (pA σ (5 + t) (va_cpy (gA σ (5 + r)) (gA σ (5 + t)) i j n)) (pA τ 2 (fun y => if 40 * t + j ≤ y ∧ y < 40 * t + j + n then gA τ 2 (40 * r + i + (y - (40 * t + j))) else gA τ 2 y)) := by
    refine Rel_items h (by omega) (c1.trans u2) u1 (fun k hk => ?_) (fun y hy => ?_)
    · unfold va_cpy
      by_cases e : j ≤ k ∧ k < j + n
      · rw [if_pos e, if_pos (by omega), q3 _ (by omega)]
        congr 1
        omega
      · rw [if_neg e, if_neg (by omega)]
        exact u3 k hk
    · rw [if_neg (by omega)]
  simp only [nIeq (show r < 2 ^ 31 by omega) (show t < 2 ^ 31 by omega), nIle (show j < 2 ^ 31 by omega) (show i < 2 ^ 31 by omega)]
  by_cases ert : r = t
  · rw [if_pos ert]
    by_cases eij : j ≤ i
    · rw [if_pos eij, hM false (decide_eq_false (by omega)).symm]
      exact ⟨_, _, _, rfl, rfl, hR⟩
    · rw [if_neg eij, hM true (decide_eq_true ⟨ert, by omega⟩).symm]
      exact ⟨_, _, _, rfl, rfl, hR⟩
  · rw [if_neg ert, hM false (decide_eq_false (fun z => ert z.1)).symm]
    exact ⟨_, _, _, rfl, rfl, hR⟩
/-! marks -/
theorem X4_othersAwake_v {n : Nat} {v : Nat → Int32} {s : Nat} {σ : Sg} (h : HC n v s σ) {i : Nat} (hi : i < n) : f_X4_othersAwake s (nI i) σ = some (bitsV (nI (bsN (awV v) n) &&& (((1 : Int32) <<< (nI i &&& 31)) ^^^ (-1 : Int32)))) := by
  have hn := h.1
  unfold f_X4_othersAwake
  rw [X4_awakeSet_v h, bndS, awSet_n hn, bitC _ (bsN_64 _ hn), bndS, X4_isAwake_v h hi, bndS, ← othb _ (bsN_64 _ hn) i (by omega), bsN_bit _ n hn i hi]
  cases awV v i <;> rfl
theorem st_mark : S_mark Rel := by
  intro σ τ a1 a2 h
  obtain ⟨h1, h2, h3, h4, h5, n, w, cs, t1, t2, t3, t4, t5⟩ := id h
  have c1 := t3.1
  have m1 := t4.1
  have hv := run_VW t1 t2
  have hn := c1.1
  have hlen := t2.1
  generalize run n (iniV w) cs = v at c1 m1 hv
  unfold f_X5_mark f_X6_mark
  rcases i32c a1 (show n < 2 ^ 31 by omega) with ⟨i, hi, rfl⟩ | ho
  rotate_left
  · rw [X4_isHouse_o c1 ho, X6_isOne_o m1 ho]
    exact ⟨_, _, _, rfl, rfl, h⟩
  have i3 : inB ((5 : Int32) + nI i) (mLen 9) = true := by rw [ad5]; exact inB_nI (by rw [mL9]; omega) (by rw [mL9]; decide)
  have i4 : ((5 : Int32) + nI i).toNatClampNeg = 5 + i := by rw [ad5, nI_clamp (by omega)]
  have i5 : inB (nI i) (mLen 7) = true := inB_nI (by rw [mL7]; omega) (by rw [mL7]; decide)
  obtain ⟨σ', τ', g1, g2, g3⟩ := found_R h (f := 3) (by decide)
  have z1 : f_X5_found 3 σ = some (-3, σ') := g1
  have z2 : f_X6_finds 3 τ = some (-3, τ') := g2
  have ht : ∀ k d, f_X6_takesBy k d τ = some (tapsV k d (v 3)) := fun k d => X6_takesBy_v (m1.now (by decide)) hv.1
  simp only [X4_isHouse_i c1 hi, X6_isOne_i m1 hi, X5_within_v, X6_in_v, c1.g0 hi, c1.g3 hi, X4_tapsFor_v c1 hi, X4_fee_v c1 hi, X4_othersAwake_v c1 hi, X4_othersEarlier_v c1 hi, X6_takesOf_v m1 hv hi, X6_earlier_v m1 hi, X6_awakeOnes_v m1, i3, i4, i5, nI_clamp (show i < 2 ^ 31 by omega), m1.k hi, m1.d hi, z1, z2, c1.2.2.2.1.2.2.1, X1_isOf_v, X6_is_v, X1_taps_v, X1_fee_v, X6_paysBy_v, ht, awSet_n hn, ckT, bfT, bfF, bndS, bnd2S, nmE, X6_bits_v]
  cases inV a2 1 5
  · exact ⟨_, _, _, rfl, rfl, h⟩
  simp only [bfT]
  cases isOfV (v (23 + i)) a2
  · exact ⟨_, _, _, rfl, rfl, g3⟩
  simp only [bfT]
  unfold dueV
  by_cases e1 : a2 = 1
  · rw [if_pos e1, if_pos e1]
    by_cases e : tapsV (v (23 + i)) (v (5 + i)) (v 3) = -9
    · rw [if_pos e, if_pos e]
      exact ⟨_, _, _, rfl, rfl, h⟩
    · rw [if_neg e, if_neg e]
      exact ⟨_, _, _, rfl, rfl, h⟩
  rw [if_neg e1, if_neg e1]
  by_cases e2 : a2 = 2
  · rw [if_pos e2, if_pos e2]
    exact ⟨_, _, _, rfl, rfl, h⟩
  rw [if_neg e2, if_neg e2]
  by_cases e3 : a2 = 3
  · rw [if_pos e3, if_pos e3]
    exact ⟨_, _, _, rfl, rfl, h⟩
  rw [if_neg e3, if_neg e3]
  by_cases e4 : a2 = 4
  · rw [if_pos e4, if_pos e4]
    exact ⟨_, _, _, rfl, rfl, h⟩
  rw [if_neg e4, if_neg e4]
  exact ⟨_, _, _, rfl, rfl, h⟩
theorem far100 : ∀ a < 100, ∀ b < 100, f_X6_far (nI a) (nI b) = some (mabs (nI b - nI a)) := by decide +kernel
theorem st_quarrels : S_quarrels Rel := by
  intro σ τ h
  obtain ⟨h1, h2, h3, h4, h5, n, w, cs, t1, t2, t3, t4, t5⟩ := id h
  have c1 := t3.1
  have m1 := t4.1
  have hv := run_VW t1 t2
  have hn := c1.1
  have hlen := t2.1
  generalize run n (iniV w) cs = v at c1 m1 hv
  unfold f_X5_quarrels f_X6_quarrels
  rw [c1.2.2.1, m1.2.1]
  simp only [eq0 (show n < 2 ^ 31 by omega)]
  by_cases e : n = 0
  · rw [if_pos e, if_pos e]
    exact ⟨_, rfl, rfl⟩
  rw [if_neg e, if_neg e, X4_quarrelling_v c1 (by omega), bndS]
  refine ⟨_, rfl, ?_⟩
  unfold quarrelsV
  refine loopP (fun N j x => l_X6_quarrels_14 τ (fun x => some x) N x (nI (j + 1))) (fun x => some x) (fun i x => x + b2i (quarV v i)) (n - 1) ?_ ?_ (n - 1) 0 FU 0 (by omega) (lt_FU (by omega))
  · intro N x
    show l_X6_quarrels_14 τ _ (N + 1) x (nI (n - 1 + 1)) = _
    unfold l_X6_quarrels_14
    rw [m1.2.1, if_pos (nI_le (by omega) (by omega))]
  · intro N j x hj
    show l_X6_quarrels_14 τ _ (N + 1) x (nI (j + 1)) = _
    conv => lhs; unfold l_X6_quarrels_14
    have i1 : inB ((17 : Int32) + nI (j + 1)) (mLen 9) = true := by rw [ad17]; exact inB_nI (by rw [mL9]; omega) (by rw [mL9]; decide)
    have i2 : ((17 : Int32) + nI (j + 1)).toNatClampNeg = 17 + (j + 1) := by rw [ad17, nI_clamp (by omega)]
    have e3 : (17 : Int32) + nI (j + 1) - (1 : Int32) = nI (17 + j) := by rw [ad17, show (1 : Int32) = nI 1 from rfl, nIsub (by omega)]; rfl
    have i4 : inB (nI (17 + j)) (mLen 9) = true := inB_nI (by rw [mL9]; omega) (by rw [mL9]; decide)
    rw [m1.2.1, if_neg (nI_ge (show j + 1 < n by omega) (by omega)), X6_isAwake_v m1 (show j + 1 < n by omega), show nI (j + 1) - (1 : Int32) = nI j from nI_pred j, X6_isAwake_v m1 (show j < n by omega), e3, i1, i2, i4, nI_clamp (by omega), m1.y (show j + 1 < n by omega), m1.y (show j < n by omega)]
    simp only [ckT, bfT, bfF, bndS, bnd2S, nmE, nI_1, m1.2.2.1]
    unfold quarV
    cases ha : awV v (j + 1)
    · cases awV v j <;> rfl
    · cases hb : awV v j
      · rfl
      · obtain ⟨-, -, -, -, y1⟩ := hv.2.2.2.2.2.2 (j + 1) (by omega)
        obtain ⟨-, -, -, -, y2⟩ := hv.2.2.2.2.2.2 j (by omega)
        have ha' : ¬ v (17 + (j + 1)) = -9 := of_decide_eq_true ha
        have hb' : ¬ v (17 + j) = -9 := of_decide_eq_true hb
        obtain ⟨d1, hd1, ed1⟩ := y1.resolve_left ha'
        obtain ⟨d2, hd2, ed2⟩ := y2.resolve_left hb'
        rw [ed1, ed2, far100 d1 hd1 d2 hd2, bndS, bfT, bfT]
        by_cases e : mabs (nI d2 - nI d1) ≤ v 35
        · simp [e]
        · simp [e]
