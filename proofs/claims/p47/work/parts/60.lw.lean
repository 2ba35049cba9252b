/-! the law's own helpers -/
def lowK (z : Int32) : Nat := z.toBitVec.toNat / 2
theorem lowK_lt (z : Int32) : lowK z < 2 ^ 31 := by
  have := z.toBitVec.isLt
  unfold lowK
  omega
theorem ushrK (z : Int32) : ((z.toUInt32 >>> ((1 : Int32).toUInt32 &&& Int32.toUInt32 31)).toInt32) = nI (lowK z) := by
  have h := pk_ushr z 1 1 (by decide)
  have hl := lowK_lt z
  apply Int32.toBitVec_inj.mp
  apply BitVec.eq_of_toNat_eq
  rw [h, pk_tn (by omega)]
  rfl
theorem low_v (z : Int32) {m : Nat} (h0 : 0 < m) (hm : m < 2 ^ 31) : f_L_low z (nI m) = some (nI (lowK z % m)) := by
  unfold f_L_low
  rw [ushrK, decide_eq_true (nI_ne0 h0 hm), ckT, nIrem (lowK_lt z) hm]
def cellV (L : Nat) (xs : Nat → Int32) (k : Nat) : Int32 := if L = 0 then 0 else xs (k % L)
theorem cell_v {L : Nat} {xs : Nat → Int32} (hL : L ≤ 260) {k : Nat} (hk : k < 1000) (σ : Sg) : f_L_cell L xs (nI k) σ = some (cellV L xs k) := by
  unfold f_L_cell cellV
  by_cases e : L = 0
  · rw [if_pos e, if_pos (show nI L = 0 by rw [e]; rfl)]
  · rw [if_neg e, if_neg (nI_ne0 (by omega) (by omega)), decide_eq_true (nI_ne0 (by omega) (by omega)), ckT, nIrem (by omega) (by omega)]
    have hm := Nat.mod_lt k (show L > 0 by omega)
    rw [inB_nI hm (by omega), ckT, nI_clamp (by omega)]
theorem has_v : ∀ s < 64, ∀ i < 6, f_L_has (nI s) (nI i) = some (s.testBit i) := by decide +kernel
theorem bits_v (a : Int32) : f_L_bits a = some (bitsV a) := by
  unfold f_L_bits bitsV
  refine loopP (fun N j x => l_L_bits_4 a (fun x => some x) N x (nI j)) (fun x => some x) (fun i x => x + ((a >>> (nI i &&& 31)) &&& (1 : Int32))) 6 ?_ ?_ 6 0 FU 0 (by omega) (lt_FU (by omega))
  · intro N x
    show l_L_bits_4 a _ (N + 1) x (nI 6) = _
    unfold l_L_bits_4
    rw [if_pos (by decide)]
  · intro N j x hj
    show l_L_bits_4 a _ (N + 1) x (nI j) = _
    conv => lhs; unfold l_L_bits_4
    rw [show (6 : Int32) = nI 6 from rfl, if_neg (nI_ge hj (by omega)), nmE, nmE, nI_1]
theorem bitsN_v {s : Nat} (hs : s < 64) : f_L_bits (nI s) = some (nI (pcN s)) := by rw [bits_v, bitsN s hs]
theorem takes_v : ∀ k < 6, ∀ d < 100, ∀ f < 2, f_L_takes (nI k) (nI d) (nI f) = some (tookV (nI k) (nI d) (nI f)) := by decide +kernel
theorem lpays_v : ∀ k < 6, f_L_pays (nI k) = some (feeV (nI k)) := by decide +kernel
theorem far_v {a b : Nat} (ha : a < 2 ^ 31) (hb : b < 2 ^ 31) : f_L_far (nI a) (nI b) = some (nI (dif a b)) := by
  unfold f_L_far dif
  simp only [nIle hb ha]
  by_cases e : b ≤ a
  · rw [if_pos e, nIsub e]
    congr 2
    omega
  · rw [if_neg e, nIsub (by omega)]
    congr 2
    omega
theorem c41 : cLen 41 = 14 := rfl
theorem c42 : cLen 42 = 23 := rfl
theorem c43 : cLen 43 = 23 := rfl
def isG (g : Nat) : Prop := g = 42 ∨ g = 43
theorem cG {g : Nat} (h : isG g) : cLen g = 23 := by rcases h with rfl | rfl <;> rfl
theorem copy_v (σ : Sg) : f_L_copy 42 43 σ = some (pA σ 43 (fun x => if x < 23 then gA σ 42 x else gA σ 43 x)) := by
  unfold f_L_copy
  have := loopP (fun N j (σ : Sg) => l_L_copy_2 42 43 (fun σ => some σ) N (nI j) σ) (fun σ => some σ) (fun k (σ : Sg) => pA σ 43 (upd (gA σ 43) (0 + k) (gA σ 42 (0 + k)))) 23 (by
    intro N σ
    show l_L_copy_2 42 43 _ (N + 1) (nI 23) σ = _
    unfold l_L_copy_2
    rw [if_pos (by decide)]) (by
    intro N j σ hj
    show l_L_copy_2 42 43 _ (N + 1) (nI j) σ = _
    conv => lhs; unfold l_L_copy_2
    rw [show (23 : Int32) = nI 23 from rfl, if_neg (nI_ge hj (by omega)), c42, c43, inB_nI hj (by decide), ckT, ckT, nmE, nmE, nI_1, nI_clamp (by omega), Nat.zero_add]) 23 0 FU σ (by omega) (lt_FU (by omega))
  have e0 : (0 : Int32) = nI 0 := rfl
  rw [e0]
  refine this.trans ?_
  rw [bringg (a := 42) (b := 43) (i := 0) (j := 0) (by decide)]
  congr 2
  funext x
  simp only [Nat.zero_add, Nat.sub_zero, Nat.zero_le, true_and]
/-- the law's array of a town as it is, and of what stays -/
def XR (n : Nat) (v X : Nat → Int32) : Prop := (∀ k, k < 5 → X k = v k) ∧ (∀ i, i < n → X (5 + i) = v (5 + i) ∧ X (11 + i) = v (11 + i) ∧ X (17 + i) = v (17 + i)) ∧ ∀ i, n ≤ i → i < 6 → X (17 + i) = -9
def TR (n : Nat) (w T : Nat → Int32) : Prop := T 0 = w 35 ∧ T 1 = nI n ∧ ∀ i, i < n → T (2 + i) = w (23 + i) ∧ T (8 + i) = w (29 + i)
theorem XR.cg {n : Nat} {v X X' : Nat → Int32} (h : XR n v X) (hx : ∀ k, k < 23 → X' k = X k) (hn : n ≤ 6) : XR n v X' :=
  ⟨fun k hk => (hx k (by omega)).trans (h.1 k hk), fun i hi => by rw [hx _ (by omega), hx _ (by omega), hx _ (by omega)]; exact h.2.1 i hi, fun i h1 h2 => (hx _ (by omega)).trans (h.2.2 i h1 h2)⟩
theorem XR.up0 {n : Nat} {v X : Nat → Int32} (h : XR n v X) {k : Nat} (hk : k < 5) (x : Int32) : XR n (va_up v k x) (upd X k x) := by
  refine ⟨fun j hj => ?_, fun i hi => ?_, fun i h1 h2 => ?_⟩
  · unfold upd va_up
    split
    · rfl
    · exact h.1 j hj
  · unfold upd va_up
    rw [if_neg (by omega), if_neg (by omega), if_neg (by omega), if_neg (by omega), if_neg (by omega), if_neg (by omega)]
    exact h.2.1 i hi
  · unfold upd
    rw [if_neg (by omega)]
    exact h.2.2 i h1 h2
theorem XR.upi {n : Nat} {v X : Nat → Int32} (h : XR n v X) (hn : n ≤ 6) {b p : Nat} (hb : b = 5 ∨ b = 11 ∨ b = 17) (hp : p < n) (x : Int32) : XR n (va_up v (b + p) x) (upd X (b + p) x) := by
  refine ⟨fun j hj => ?_, fun i hi => ?_, fun i h1 h2 => ?_⟩
  · unfold upd va_up
    rw [if_neg (by omega), if_neg (by omega)]
    exact h.1 j hj
  · obtain ⟨a, b', c⟩ := h.2.1 i hi
    unfold upd va_up
    refine ⟨?_, ?_, ?_⟩ <;> split <;> first | rfl | assumption
  · unfold upd
    rw [if_neg (by omega)]
    exact h.2.2 i h1 h2
section LW
variable {n : Nat} {w v : Nat → Int32} {σ : Sg} {g : Nat}
theorem f2 {v : Nat → Int32} (h : v 3 = 0 ∨ v 3 = 1) : ∃ f, f < 2 ∧ v 3 = nI f := by
  rcases h with e | e
  · exact ⟨0, by decide, e⟩
  · exact ⟨1, by decide, e⟩
theorem m1more : ∀ x < 6, 0 < x → ∀ t < 41, (if (1 : Int32) ≤ (nI x - nI t) then some (nI x - nI t) else some (1 : Int32)) = some (mmax 1 (nI x - nI t)) := by decide +kernel
theorem neg9 : ((-9 : Int32) < 0) = True := eq_true (by decide)
theorem dlt : ∀ d < 100, ¬ nI d < 0 := by decide
theorem lmore_w (hg : isG g) (hT : TR n w (gA σ 41)) (hv : VW n v) (hw : ∀ k, 23 ≤ k → v k = w k) (hn : n ≤ 6) {i : Nat} (hi : i < n) (hX3 : gA σ g 3 = v 3) (hXi : gA σ g (5 + i) = v (5 + i) ∧ gA σ g (11 + i) = v (11 + i) ∧ gA σ g (17 + i) = v (17 + i)) : f_L_more 41 g (nI i) σ = some (moreV v i) := by
  obtain ⟨f, hf, ef⟩ := f2 hv.1
  obtain ⟨⟨k, hk, ek⟩, -, ⟨d, hd, ed⟩, ⟨t, ht, et⟩, hy⟩ := hv.2.2.2.2.2.2 i hi
  obtain ⟨x1, x2, x3⟩ := hXi
  obtain ⟨t1, t2⟩ := hT.2.2 i hi
  unfold f_L_more
  rw [show (2 : Int32) + nI i = nI (2 + i) from nI_add 2 i, show (5 : Int32) + nI i = nI (5 + i) from nI_add 5 i, show (17 : Int32) + nI i = nI (17 + i) from nI_add 17 i, show (11 : Int32) + nI i = nI (11 + i) from nI_add 11 i, show (3 : Int32) = nI 3 from rfl, cG hg, c41]
  simp (disch := omega) only [inB_nI, ckT, nI_clamp]
  rw [t1, x1, x2, x3, hX3, ← hw _ (by omega), ek, ed, ef, takes_v k hk d hd f hf, bndS]
  unfold moreV dueV awV
  rw [ek, ed, ef]
  have hst := duest k hk d hd f hf
  unfold tookV
  rcases hy with ey | ⟨y, hy, ey⟩
  · rw [ey, if_pos (show (-9 : Int32) < 0 by decide), if_neg (show ¬ decide (¬ (-9 : Int32) = -9) = true by decide)]
    rcases hst with e | ⟨x, hx, h0, e⟩
    · rw [e, if_pos rfl, if_pos rfl, if_pos rfl]
    · rw [e, if_neg (nI9 (by omega)), if_neg (nI_ne0 h0 (by omega)), if_neg (nI9 (by omega)), et]
      exact m1more x hx h0 t (by omega)
  · rw [ey, if_neg (dlt y hy), decide_eq_true (nI9 (show y < 2 ^ 31 by omega)), if_pos rfl]
theorem lmore_v (hg : isG g) (hT : TR n w (gA σ 41)) (hX : XR n v (gA σ g)) (hv : VW n v) (hw : ∀ k, 23 ≤ k → v k = w k) (hn : n ≤ 6) {i : Nat} (hi : i < n) : f_L_more 41 g (nI i) σ = some (moreV v i) := lmore_w hg hT hv hw hn hi (hX.1 3 (by decide)) (hX.2.1 i hi)
theorem bsN_cg {P Q : Nat → Bool} : ∀ n, (∀ i, i < n → P i = Q i) → bsN P n = bsN Q n := by
  intro n
  induction n with
  | zero => intro _; rfl
  | succ n ih =>
    intro h
    show bsN P n + _ = bsN Q n + _
    rw [ih (fun i hi => h i (by omega)), h n (by omega)]
theorem bsN_more {P : Nat → Bool} {n : Nat} : ∀ m, (∀ i, n ≤ i → i < n + m → P i = false) → bsN P (n + m) = bsN P n := by
  intro m
  induction m with
  | zero => intro _; rfl
  | succ m ih =>
    intro h
    show bsN P (n + m) + (if P (n + m) = true then 2 ^ (n + m) else 0) = _
    rw [ih (fun i h1 h2 => h i h1 (by omega)), h (n + m) (by omega) (by omega)]
    rfl
theorem lawake_v (hg : isG g) (hX : XR n v (gA σ g)) (hv : VW n v) (hn : n ≤ 6) : f_L_awake g σ = some (nI (bsN (awV v) n)) := by
  unfold f_L_awake
  have := loopP (fun N j x => l_L_awake_4 g σ (fun x => some x) N x (nI j)) (fun x => some x) (fun i x => if decide (¬ gA σ g (17 + i) < 0) = true then x ||| ((1 : Int32) <<< (nI i &&& 31)) else x) 6 (by
    intro N x
    show l_L_awake_4 g σ _ (N + 1) x (nI 6) = _
    unfold l_L_awake_4
    rw [if_pos (by decide)]) (by
    intro N j x hj
    show l_L_awake_4 g σ _ (N + 1) x (nI j) = _
    conv => lhs; unfold l_L_awake_4
    rw [show (6 : Int32) = nI 6 from rfl, if_neg (nI_ge hj (by omega)), show (17 : Int32) + nI j = nI (17 + j) from nI_add 17 j, cG hg]
    simp (disch := omega) only [inB_nI, ckT, nI_clamp, nmE, nI_1]
    by_cases e : gA σ g (17 + j) < 0
    · rw [if_pos e, decide_eq_false (not_not_intro e), if_neg (by decide), Int32.or_zero]
    · rw [if_neg e, decide_eq_true e, if_pos rfl]) 6 0 FU 0 (by omega) (lt_FU (by omega))
  refine this.trans ?_
  rw [fo_bs (fun i => decide (¬ gA σ g (17 + i) < 0)) 6 (by decide)]
  have e6 := bsN_more (P := fun i => decide (¬ gA σ g (17 + i) < 0)) (n := n) (6 - n) (fun i h1 h2 => by
    rw [hX.2.2 i h1 (by omega)]
    decide)
  rw [show n + (6 - n) = 6 by omega] at e6
  rw [e6]
  congr 2
  refine bsN_cg n (fun i hi => ?_)
  rw [(hX.2.1 i hi).2.2]
  unfold awV
  rcases (hv.2.2.2.2.2.2 i hi).2.2.2.2 with e | ⟨d, hd, e⟩
  · rw [e]; decide
  · rw [e, decide_eq_true (dlt d hd), decide_eq_true (nI9 (by omega))]
/-- a walk in the law's array -/
theorem lwalk_v (hg : isG g) (hX : XR n v (gA σ g)) (hv : VW n v) (hn : n ≤ 6) {d : Nat} (hd : d < n) : ∃ f, f_L_walk g (nI d) σ = some (pA σ g f) ∧ XR n (walkV d v) f := by
  obtain ⟨p, hp, ep⟩ := hv.2.2.1
  have hp6 : p < 6 := by rcases hp with q | q <;> omega
  unfold f_L_walk
  rw [cG hg, show inB (0 : Int32) 23 = true by decide, show inB (2 : Int32) 23 = true by decide, ckT, ckT, cl2, hX.1 2 (by decide), ep, far_v (by omega) (by omega), bndS, ckT, nmE, ckT, nmE, cl0, pA_pA, gA_same]
  refine ⟨_, rfl, ?_⟩
  have e : v 0 + nI (dif p d) = v 0 + mabs (nI d - v 2) := by rw [ep, difV d (by omega) p hp6, dif_c]
  rw [hX.1 0 (by decide), e]
  exact (hX.up0 (k := 0) (by decide) _).up0 (k := 2) (by decide) _
theorem one_more {x t : Nat} (hx : x < 6) (h0 : 0 < x) (ht : t < 41) : (mmax 1 (nI x - nI t) = 1) = ¬ (nI t + 1 < nI x) := by
  have : ∀ x < 6, 0 < x → ∀ t < 41, decide (mmax 1 (nI x - nI t) = 1) = decide (¬ (nI t + 1 < nI x)) := by decide +kernel
  exact propext ⟨fun h => of_decide_eq_true ((this x hx h0 t ht).symm.trans (decide_eq_true h)), fun h => of_decide_eq_true ((this x hx h0 t ht).trans (decide_eq_true h))⟩
/-- when a tap wakes -/
theorem wakes_iff (hv : VW n v) {p : Nat} (hp : p < n) : (moreV v p = 1) = ¬ (awV v p = true ∨ dueV v p = -9 ∨ v (11 + p) + 1 < dueV v p) := by
  obtain ⟨-, -, -, ⟨t, ht, et⟩, -⟩ := hv.2.2.2.2.2.2 p hp
  unfold moreV
  cases ha : awV v p
  · rw [if_neg (by decide)]
    rcases due_rg hv hp with e | ⟨x, hx, h0, e⟩
    · rw [e, if_pos rfl]
      exact propext ⟨fun h => absurd h (by decide), fun h => absurd (Or.inr (Or.inl rfl)) h⟩
    · rw [e, if_neg (nI9 (by omega)), et, one_more hx h0 (by omega)]
      have h9 : ¬ nI x = -9 := nI9 (by omega)
      exact propext ⟨fun h z => by
        rcases z with z | z | z
        · exact absurd z (by decide)
        · exact h9 z
        · exact h z, fun h z => h (Or.inr (Or.inr z))⟩
  · rw [if_pos rfl]
    exact propext ⟨fun h => absurd h (by decide), fun h => absurd (Or.inl rfl) h⟩
theorem mmin9 : ∀ u < 10000, ∀ x < 6, mmin 9999 (nI u + nI x) = if (9999 : Int32) ≤ nI u + nI x then 9999 else nI u + nI x := by
  intro u hu x hx
  unfold mmin
  rw [nI_add, show (9999 : Int32) = nI 9999 from rfl]
  simp only [nIlt (show u + x < 2 ^ 31 by omega) (show 9999 < 2 ^ 31 by decide), nIle (show 9999 < 2 ^ 31 by decide) (show u + x < 2 ^ 31 by omega)]
  by_cases e : 9999 ≤ u + x
  · rw [if_pos e, if_neg (by omega)]
  · rw [if_neg e, if_pos (by omega)]
/-- a tap in the law's array -/
theorem ltap_v (hg : isG g) (hT : TR n w (gA σ 41)) (hX : XR n v (gA σ g)) (hv : VW n v) (hw : ∀ k, 23 ≤ k → v k = w k) (hn : n ≤ 6) {p : Nat} (hp : p < n) (ep : v 2 = nI p) : ∃ f, f_L_tap 41 g σ = some (b2i (awV (tapV p v) p), pA σ g f) ∧ XR n (tapV p v) f := by
  have hg41 : (41 : Nat) ≠ g := by rcases hg with rfl | rfl <;> decide
  obtain ⟨x1, x2, x3⟩ := hX.2.1 p hp
  obtain ⟨t1, t2⟩ := hT.2.2 p hp
  have hm : f_L_more 41 g (nI p) (pA σ g (upd (gA σ g) 0 (gA σ g 0 + 1))) = some (moreV v p) := by
    refine lmore_w hg ?_ hv hw hn hp ?_ ?_
    · rw [gA_ne _ _ hg41]; exact hT
    · rw [gA_same]; exact hX.1 3 (by decide)
    · rw [gA_same]
      unfold upd
      rw [if_neg (by omega), if_neg (by omega), if_neg (by omega)]
      exact hX.2.1 p hp
  have k0 := hX.up0 (k := 0) (by decide) (v 0 + 1)
  have k1 := k0.upi hn (b := 11) (Or.inr (Or.inl rfl)) hp (v (11 + p) + 1)
  have h0 : gA σ g 0 = v 0 := hX.1 0 (by decide)
  have h4 : gA σ g 4 = v 4 := hX.1 4 (by decide)
  obtain ⟨k, hk, ek⟩ := (hv.2.2.2.2.2.2 p hp).1
  obtain ⟨d, hd, ed⟩ := (hv.2.2.2.2.2.2 p hp).2.2.1
  obtain ⟨u, hu, eu⟩ := hv.2.1
  obtain ⟨fe, hfe, efe⟩ := fee_rg (k := k)
  have etp : gA σ 41 (2 + p) = nI k := by rw [t1, ← hw _ (by omega)]; exact ek
  unfold f_L_tap
  rw [cG hg, c41, show inB (0 : Int32) 23 = true by decide, show inB (2 : Int32) 23 = true by decide, show inB (4 : Int32) 23 = true by decide, ckT, nmE, cl2, hX.1 2 (by decide), ep, ckT, ckT, nmE, cl0, hm, bndS, nmE, show (11 : Int32) + nI p = nI (11 + p) from nI_add 11 p, show (17 : Int32) + nI p = nI (17 + p) from nI_add 17 p, show (5 : Int32) + nI p = nI (5 + p) from nI_add 5 p, show (2 : Int32) + nI p = nI (2 + p) from nI_add 2 p, cl4]
  simp (disch := omega) only [inB_nI, ckT, nI_clamp, nmE, pA_pA, gA_same, h0, gA_ne _ _ hg41, etp]
  have u11 : upd (gA σ g) 0 (v 0 + 1) (11 + p) = v (11 + p) := by unfold upd; rw [if_neg (by omega)]; exact x2
  rw [u11]
  by_cases hwk : awV v p = true ∨ dueV v p = -9 ∨ v (11 + p) + 1 < dueV v p
  · have hne : ¬ moreV v p = 1 := by rw [wakes_iff hv hp]; exact not_not_intro hwk
    have e17 : upd (upd (gA σ g) 0 (v 0 + 1)) (11 + p) (v (11 + p) + 1) (17 + p) = v (17 + p) := by unfold upd; rw [if_neg (by omega), if_neg (by omega)]; exact x3
    rw [if_neg hne, bfF, e17]
    unfold tapV
    rw [if_pos hwk]
    refine ⟨_, ?_, k1⟩
    unfold awV
    rw [va_up_ne _ _ (by omega), va_up_ne _ _ (by omega)]
    rcases (hv.2.2.2.2.2.2 p hp).2.2.2.2 with e | ⟨y, hy, e⟩
    · rw [e, if_pos (by decide)]; rfl
    · rw [e, if_neg (dlt y hy), decide_eq_true (nI9 (show y < 2 ^ 31 by omega))]; rfl
  · have hme : moreV v p = 1 := by rw [wakes_iff hv hp]; exact hwk
    have e5 : upd (upd (gA σ g) 0 (v 0 + 1)) (11 + p) (v (11 + p) + 1) (5 + p) = v (5 + p) := by unfold upd; rw [if_neg (by omega), if_neg (by omega)]; exact x1
    have e4 : upd (upd (upd (gA σ g) 0 (v 0 + 1)) (11 + p) (v (11 + p) + 1)) (17 + p) (v (5 + p)) 4 = v 4 := by unfold upd; rw [if_neg (by omega), if_neg (by omega), if_neg (by omega)]; exact h4
    rw [if_pos hme, bfT, e5, lpays_v k hk, bndS, e4]
    have e17 : ∀ x, upd (upd (upd (upd (gA σ g) 0 (v 0 + 1)) (11 + p) (v (11 + p) + 1)) (17 + p) (v (5 + p))) 4 x (17 + p) = v (5 + p) := fun x => by unfold upd; rw [if_neg (by omega), if_pos rfl]
    simp only [e17]
    have k2 := k1.upi hn (b := 17) (Or.inr (Or.inr rfl)) hp (v (5 + p))
    have k3 := k2.up0 (k := 4) (by decide) (mmin 9999 (v 4 + feeV (v (23 + p))))
    unfold tapV
    rw [if_neg hwk]
    have hmm := mmin9 u hu fe hfe
    have ha : awV (va_up (va_up (va_up (va_up v 0 (v 0 + 1)) (11 + p) (v (11 + p) + 1)) (17 + p) (v (5 + p))) 4 (mmin 9999 (v 4 + feeV (v (23 + p))))) p = true := by
      unfold awV
      rw [va_up_ne _ _ (by omega), va_up_self, ed]
      exact decide_eq_true (nI9 (by omega))
    rw [ha, ed, if_neg (dlt d hd)]
    rw [ek, eu, efe, hmm] at k3 ⊢
    by_cases e9 : (9999 : Int32) ≤ nI u + nI fe
    · simp only [if_pos e9] at k3 ⊢
      rw [ed] at k3
      exact ⟨_, rfl, k3⟩
    · simp only [if_neg e9] at k3 ⊢
      rw [ed] at k3
      rw [bndS, if_neg (dlt d hd)]
      exact ⟨_, rfl, k3⟩
end LW
