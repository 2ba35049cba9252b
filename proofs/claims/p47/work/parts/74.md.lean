/-! dates given anew -/
section MDD
variable {n : Nat} {w : Nat → Int32} {cs : List Nat} {kc : Option (List Nat)} {RS : Nat → Int32} {RA : Nat → Nat → Int32} {A : Int32} {U V : Int64} {T X Y : Nat → Int32} {σ : Sg}
theorem dates_K {v : Nat → Int32} {s r b0 L : Nat} {σ : Sg} {a3 a4 W : Int32} {f0 : Nat → Int32} {ky : Nat → Nat} (hC : HC n v s σ) (hs0 : gR σ 0 = s) (hv : VW n v) (hr : r < 6) (h0 : 0 < n) (hW : WayOK W ky) (htv : ∀ a : Nat → Nat, (∀ x, x ≤ n - 1 → a x ≤ 100) → tv (fun x => ky (a x)) (n - 1) = tv a (n - 1))
    (hb0 : NX (fun i => ky (daN v i)) n 0 b0) (hL : L < n) (hmax : ∀ i, i < n → ky (daN v i) ≤ ky (daN v L)) {KC : Sg → Option (Int32 × Sg)} :
    ∃ q f, l_X5_dates_80 (5 + r) a3 a4 W KC FU (0 : Int32) (0 : Int32) (pA (pS σ (16 * (5 + r) + 1) (nI n)) (5 + r) f0) = KC (pA (pS σ (16 * (5 + r) + 1) (nI n)) (5 + r) f) ∧ orD n q = 2 ^ n - 1 ∧ tv (fun x => daN v (dgt n q x)) (n - 1) + ky (daN v b0) = ky (daN v L) ∧ ∀ x, x < n → f x = nI (dgt n q x) := by
  have hn := hC.1
  obtain ⟨q, f, p1, p2, p3, p4⟩ := datesCL hC hs0 hv hr hW (K := KC) (a3 := a3) (a4 := a4) n 0 FU 0 f0 (by omega) (lt_FU (by omega)) (by decide) trivial (fun x hx => absurd hx (by omega))
  have hok := GR_ok hn p3
  have hq0 : dgt n q 0 = b0 := by
    have h1 := GR_x (n - 1) 0 q (by rw [show 0 + 1 + (n - 1) = n by omega]; exact p3)
    rw [dgt_r (show 0 + 1 + (n - 1) = n by omega)]
    exact NX_u h1 hb0
  have hcost := gr_cost hn h0 p3 hL hmax
  rw [hq0, htv (fun x => daN v (dgt n q x)) (fun x hx => by
    have := (daN_v hv (ok_lt hn hok (show x < n by omega))).2
    omega)] at hcost
  exact ⟨q, f, p1, hok, hcost, p4⟩
theorem k_dates (h : IW n w cs kc RS RA A U V T X Y σ) (h0 : 0 < n) {r : Nat} (hr : r < 6) : ∃ q f σ' e l, f_X5_dates (nI r) σ = some (nI (daN (run n (iniV w) cs) l - daN (run n (iniV w) cs) e), σ') ∧ IW n w cs kc (va_up RS r (nI n)) (va_up RA r f) A U V T X Y σ' ∧ (∀ x, x < n → f x = nI (dgt n q x)) ∧ orD n q = 2 ^ n - 1 ∧ e < n ∧ l < n ∧ tv (fun x => daN (run n (iniV w) cs) (dgt n q x)) (n - 1) = daN (run n (iniV w) cs) l - daN (run n (iniV w) cs) e := by
  have c1 := h.hc
  have hv := h.vw
  have hn := h.n6
  have hex : ∃ i, i < n ∧ (0 : Nat).testBit i = false := ⟨0, by omega, Nat.zero_testBit 0⟩
  obtain ⟨e, x1, x2⟩ := next_v c1 hv way_u (g := 0) (by decide) hex
  obtain ⟨l, y1, y2⟩ := next_v c1 hv way_d (g := 0) (by decide) hex
  unfold f_X5_dates
  rw [pick_i (q := 71) (show r < 6 by omega), bndS, ocS, show rBase 71 + r = 5 + r from rfl, if_neg (eqn0 h h0), show f_X4_nextByDate (gR σ 0) (0 : Int32) (1 : Int32) σ = some (nI e) from x1, bndS, show f_X4_nextByDate (gR σ 0) (0 : Int32) (-1 : Int32) σ = some (nI l) from y1, bndS, nmE, c1.2.2.1]
  have hle := x2.1
  have hll := y2.1
  obtain ⟨fe1, fe2⟩ := daN_v hv hle
  obtain ⟨fl1, fl2⟩ := daN_v hv hll
  have emin : ∀ i, i < n → daN (run n (iniV w) cs) e ≤ daN (run n (iniV w) cs) i := fun i hi => (x2.2.2 i hi (Nat.zero_testBit i)).1
  have lmax : ∀ i, i < n → 100 - daN (run n (iniV w) cs) l ≤ 100 - daN (run n (iniV w) cs) i := fun i hi => (y2.2.2 i hi (Nat.zero_testBit i)).1
  have hel := emin l hll
  rw [X0_fill_i (k := n) (by rw [cLen_row (by omega)]; omega)]
  simp only [nIlt (show l < 2 ^ 31 by omega) (show e < 2 ^ 31 by omega), bndS]
  have fin : ∀ f : Nat → Int32, (bnd (f_X0_get (stI (gR (pA (pS σ (16 * (5 + r) + 1) (nI n)) (5 + r) f) 0) 3) (nI l) (pA (pS σ (16 * (5 + r) + 1) (nI n)) (5 + r) f)) (fun r16 => (bnd (f_X0_get (stI (gR (pA (pS σ (16 * (5 + r) + 1) (nI n)) (5 + r) f) 0) 3) (nI e) (pA (pS σ (16 * (5 + r) + 1) (nI n)) (5 + r) f)) (fun r18 => (some ((r16 - r18), (pA (pS σ (16 * (5 + r) + 1) (nI n)) (5 + r) f))))))) = some (nI (daN (run n (iniV w) cs) l - daN (run n (iniV w) cs) e), (pA (pS σ (16 * (5 + r) + 1) (nI n)) (5 + r) f)) := fun f => by
    have hCf := c1.row (r := r) (x := nI n) (f := f) (by omega)
    rw [show gR (pA (pS σ (16 * (5 + r) + 1) (nI n)) (5 + r) f) 0 = gR σ 0 from rfl, hCf.g3 hll, bndS, hCf.g3 hle, bndS, fe1, fl1, nIsub hel]
  by_cases ew : l < e
  · rw [if_pos ew]
    obtain ⟨q, f, q1, q2, q3, q4⟩ := dates_K (r := r) (b0 := l) (L := e) (a3 := nI e) (a4 := nI l) (W := -1) (f0 := fun i => if i < n then 0 else gA (pS σ (16 * (5 + r) + 1) (nI n)) (5 + r) i) (KC := (fun (σv128 : Sg) => (bnd (f_X0_get (stI (gR σv128 0) 3) (nI l) σv128) (fun r16 => (bnd (f_X0_get (stI (gR σv128 0) 3) (nI e) σv128) (fun r18 => (some ((r16 - r18), σv128)))))))) c1 rfl hv hr h0 way_d (fun a ha => tv_sub _ ha) y2 hle (fun i hi => by have := emin i hi; omega)
    refine ⟨q, f, _, e, l, q1.trans (fin f), h.rowset hr _ _, q4, q2, hle, hll, by omega⟩
  · rw [if_neg ew]
    obtain ⟨q, f, q1, q2, q3, q4⟩ := dates_K (r := r) (b0 := e) (L := l) (a3 := nI e) (a4 := nI l) (W := 1) (f0 := fun i => if i < n then 0 else gA (pS σ (16 * (5 + r) + 1) (nI n)) (5 + r) i) (KC := (fun (σv128 : Sg) => (bnd (f_X0_get (stI (gR σv128 0) 3) (nI l) σv128) (fun r16 => (bnd (f_X0_get (stI (gR σv128 0) 3) (nI e) σv128) (fun r18 => (some ((r16 - r18), σv128)))))))) c1 rfl hv hr h0 way_u (fun a ha => rfl) x2 hll (fun i hi => by have := lmax i hi; have := (daN_v hv hi).2; omega)
    refine ⟨q, f, _, e, l, q1.trans (fin f), h.rowset hr _ _, q4, q2, hle, hll, by omega⟩
/-- how far neighbours are apart as they are -/
theorem apart_l {L : Nat} {xs : Nat → Int32} {a5 : Int32} {K : Int32 → Option Bool} (h0 : 0 < n) (h : IW n w cs kc RS RA A U V T X Y σ) (hT : TR n w T) (hX : XR n (run n (iniV w) cs) X) : ∀ m j N, j + 1 + m = n → m < N → l_L_law_1165 L xs a5 σ K N (nI (tv (daN (run n (iniV w) cs)) j)) (nI j) = K (nI (tv (daN (run n (iniV w) cs)) (n - 1))) := by
  have hn := h.n6
  have hv := h.vw
  have r1 : gA σ 41 1 = nI n := by rw [h.t]; exact hT.2.1
  intro m
  induction m with
  | zero =>
    intro j N hj hN
    obtain ⟨N, rfl⟩ : ∃ k, N = k + 1 := ⟨N - 1, by omega⟩
    unfold l_L_law_1165
    rw [show inB (1 : Int32) (cLen 41) = true by decide, ckT, cl1, r1, nI_1, if_pos (nI_le (by omega) (by omega)), show j = n - 1 by omega]
  | succ m ih =>
    intro j N hj hN
    obtain ⟨N, rfl⟩ : ∃ k, N = k + 1 := ⟨N - 1, by omega⟩
    have n5 : (5 : Int32) + nI j = nI (5 + j) := nI_add 5 j
    have n6 : (6 : Int32) + nI j = nI (6 + j) := nI_add 6 j
    have j5 : inB (nI (5 + j)) (cLen 42) = true := inB_nI (by rw [c42]; omega) (by decide)
    have j6 : inB (nI (6 + j)) (cLen 42) = true := inB_nI (by rw [c42]; omega) (by decide)
    have k5 : (nI (5 + j)).toNatClampNeg = 5 + j := nI_clamp (by omega)
    have k6 : (nI (6 + j)).toNatClampNeg = 6 + j := nI_clamp (by omega)
    obtain ⟨d1, d2⟩ := daN_v hv (show j < n by omega)
    obtain ⟨d3, d4⟩ := daN_v hv (show j + 1 < n by omega)
    have x5 : gA σ 42 (5 + j) = nI (daN (run n (iniV w) cs) j) := by rw [h.x, (hX.2.1 j (by omega)).1, d1]
    have x6 : gA σ 42 (6 + j) = nI (daN (run n (iniV w) cs) (j + 1)) := by rw [h.x, show 6 + j = 5 + (j + 1) by omega, (hX.2.1 (j + 1) (by omega)).1, d3]
    conv => lhs; unfold l_L_law_1165
    rw [show inB (1 : Int32) (cLen 41) = true by decide, ckT, cl1, r1, nI_1, if_neg (nI_ge (by omega) (by omega)), n5, n6, j5, j6, ckT, ckT, k5, k6, x5, x6, far_v (by omega) (by omega), bndS, nmE, nmE, nI_add, dif_c]
    exact ih (j + 1) N (by omega) (by omega)
/-- the row told, read again -/
theorem row_l {L : Nat} {xs : Nat → Int32} {a5 a15 a16 : Int32} {K : Int32 → Int32 → Sg → Option Bool} {q : Nat} (h0 : 0 < n) (hT : TR n w T) (hX : XR n (run n (iniV w) cs) X) (hv : VW n (run n (iniV w) cs)) (hq : orD n q = 2 ^ n - 1) (hRS : RS 3 = nI n) (hRA : ∀ x, x < n → RA 3 x = nI (dgt n q x))
    (hK : ∀ A σ, IW n w cs kc RS RA A U V T X Y σ → K (nI (tv (fun y => daN (run n (iniV w) cs) (dgt n q y)) (n - 1))) (nI (2 ^ n - 1)) σ = some true) :
    ∀ r x N A σ, x + r = n → r < N → IW n w cs kc RS RA A U V T X Y σ → l_L_law_1221 L xs a5 a15 a16 K N (nI (tv (fun y => daN (run n (iniV w) cs) (dgt n q y)) (x - 1))) (nI (orD x (q / 6 ^ r))) (if x = 0 then -1 else nI (dgt n q (x - 1))) (nI x) σ = some true := by
  intro r
  induction r with
  | zero =>
    intro x N A σ hx hN h
    obtain ⟨N, rfl⟩ : ∃ k, N = k + 1 := ⟨N - 1, by omega⟩
    have hn := h.n6
    obtain rfl : x = n := hx
    unfold l_L_law_1221
    rw [show inB (1 : Int32) (cLen 41) = true by decide, ckT, cl1, h.t, hT.2.1, if_pos (nI_le (Nat.le_refl _) (by omega)), Nat.pow_zero, Nat.div_one, hq]
    exact hK A σ h
  | succ r ih =>
    intro x N A σ hx hN h
    obtain ⟨N, rfl⟩ : ∃ k, N = k + 1 := ⟨N - 1, by omega⟩
    have hn := h.n6
    have hat := k_at h (r := 3) (i := x) (m := n) (by decide) hRS (by omega) (by omega)
    rw [hRA x (by omega)] at hat
    have hd := ok_lt hn hq (show x < n by omega)
    have h1 := h.tells (nI (dgt n q x))
    have hor : nI (orD x (q / 6 ^ (r + 1))) ||| ((1 : Int32) <<< (nI (dgt n q x) &&& 31)) = nI (orD (x + 1) (q / 6 ^ r)) := by
      rw [orP _ (orD64 _ _) _ (by omega), dgt_r (show x + 1 + r = n by omega), ← divP]
      rfl
    have next := ih (x + 1) N _ _ (by omega) (by omega) h1
    rw [if_neg (by omega), Nat.add_sub_cancel] at next
    conv => lhs; unfold l_L_law_1221
    rw [show inB (1 : Int32) (cLen 41) = true by decide, ckT, cl1, h.t, hT.2.1, if_neg (nI_ge (show x < n by omega) (by omega)), show (3 : Int32) = nI 3 from rfl, hat, bnd2S, if_pos rfl, asked_p, bndS, nmE]
    by_cases e0 : x = 0
    · subst e0
      rw [if_pos rfl, if_neg (show ¬ (0 : Int32) ≤ -1 by decide)]
      simp only [nmE, hor, nI_1]
      exact next
    · obtain ⟨z, rfl⟩ : ∃ z, x = z + 1 := ⟨x - 1, by omega⟩
      have hdz := ok_lt hn hq (show z < n by omega)
      rw [Nat.add_sub_cancel, if_neg e0]
      have n5 : ∀ d, (5 : Int32) + nI d = nI (5 + d) := fun d => nI_add 5 d
      have j5 : ∀ d, d < n → inB (nI (5 + d)) (cLen 42) = true := fun d hd => inB_nI (by rw [c42]; omega) (by decide)
      have k5 : ∀ d, d < n → (nI (5 + d)).toNatClampNeg = 5 + d := fun d hd => nI_clamp (by omega)
      have x5 : ∀ d, d < n → gA (pS σ 9 (nI (dgt n q (z + 1)))) 42 (5 + d) = nI (daN (run n (iniV w) cs) d) := fun d hd => by rw [gA_pS, h.x, (hX.2.1 d hd).1, (daN_v hv hd).1]
      have da := (daN_v hv hdz).2
      have db := (daN_v hv hd).2
      rw [if_pos (nI_pos' (by omega)), n5, n5, j5 _ hdz, j5 _ hd, ckT, ckT, k5 _ hdz, k5 _ hd, x5 _ hdz, x5 _ hd, far_v (by omega) (by omega), bndS]
      simp only [nmE, hor, nI_1, nI_add]
      rw [dif_c]
      exact next
end MDD
