section MAA
variable {n : Nat} {w : Nat → Int32} {kc : Option (List Nat)} {RS : Nat → Int32} {RA : Nat → Nat → Int32} {U V : Int64} {T X Y : Nat → Int32}
theorem dif_0 (a : Nat) : dif a a = 0 := by unfold dif; omega
set_option maxHeartbeats 4000000 in
theorem round_l {L : Nat} {xs : Nat → Int32} {a5 a7 a9 a11 a12 : Int32} {a8 : Bool} {K : Bool → Sg → Option Bool} (h0 : 0 < n) (hn5 : n ≤ 5) (hT : TR n w T) {v0 : Nat → Int32} (hv0 : VW n v0) (hw0 : ∀ k, 23 ≤ k → v0 k = w k) {S k c len0 : Nat} (hG : GSet n v0 S) (hk5 : k ≤ 5) {sf : Nat × Nat × Nat × Nat} (hc : FV n v0 k c = some sf) (hor : orD k c = S) (hRS : RS 2 = nI k) (hRA : ∀ x, x < k → RA 2 x = nI (dgt k c x)) (hlen0 : len0 ≤ 8)
    (hK : ∀ cs A σ, IW n w cs kc RS RA A U V T X Y σ → run n (iniV w) cs 0 = nI (tN v0 + sf.2.2.1) → (∀ i, i < n → S.testBit i = true → awV (run n (iniV w) cs) i = true) → K true σ = some true) :
    ∀ r x N cs A σ s, x + r = k → r < N → FV n v0 x (c / 6 ^ r) = some s → IW n w cs kc RS RA A U V T X Y σ → run n (iniV w) cs 0 = nI (tN v0 + s.2.2.1) → run n (iniV w) cs 2 = nI s.2.1 → (∀ i, i < n → s.1.testBit i = true → awV (run n (iniV w) cs) i = true) → (∀ i, i < n → s.1.testBit i = false → moreV (run n (iniV w) cs) i = moreV v0 i) → cs.length ≤ len0 + 6 * x → l_L_law_924 L xs a5 a7 a8 a9 a11 a12 (nI k) K N true (nI x) σ = some true := by
  intro r
  induction r with
  | zero =>
    intro x N cs A σ s hx hN hs h e0 e2 haw hmo hl
    obtain ⟨N, rfl⟩ : ∃ k, N = k + 1 := ⟨N - 1, by omega⟩
    obtain rfl : x = k := hx
    rw [Nat.pow_zero, Nat.div_one] at hs
    obtain rfl : s = sf := Option.some.inj (hs.symm.trans hc)
    have hn := h.n6
    have hall := FS_all (pN_v hn hv0).2 (moN5 hv0) _ _ _ (show FS (tN v0) (pN v0) (moN v0 n) (waN v0 n) x c = some s from hc)
    unfold l_L_law_924
    rw [if_pos (nI_le (Nat.le_refl _) (by omega))]
    exact hK cs A σ h e0 (fun i hi hb => haw i hi (by rw [hall.1, hor]; exact hb))
  | succ r ih =>
    intro x N cs A σ s hx hN hs h e0 e2 haw hmo hl
    obtain ⟨N, rfl⟩ : ∃ k, N = k + 1 := ⟨N - 1, by omega⟩
    have hn := h.n6
    have hS64 : S < 64 := hG.1
    have hall := FS_all (pN_v hn hv0).2 (moN5 hv0) _ _ _ (show FS (tN v0) (pN v0) (moN v0 n) (waN v0 n) x (c / 6 ^ (r + 1)) = some s from hs)
    obtain ⟨tn1, tn2⟩ := tN_v hv0
    cases hx2 : FV n v0 (x + 1) (c / 6 ^ r) with
    | none =>
      have := FS_pre (t := tN v0) (p := pN v0) (mo := moN v0 n) (wa := waN v0 n) (k := k) (c := c) r (x + 1) (by omega) hx2
      unfold FV at hc
      rw [this] at hc
      cases hc
    | some s' =>
      obtain ⟨s0, g1, g2⟩ := FS_i (show FS (tN v0) (pN v0) (moN v0 n) (waN v0 n) (x + 1) (c / 6 ^ r) = some s' from hx2)
      rw [divP] at g1
      obtain rfl : s0 = s := Option.some.inj (g1.symm.trans hs)
      obtain ⟨a1, a2, a3⟩ := adv_i g2
      have hall' := FS_all (pN_v hn hv0).2 (moN5 hv0) _ _ _ (show FS (tN v0) (pN v0) (moN v0 n) (waN v0 n) (x + 1) (c / 6 ^ r) = some s' from hx2)
      have hdg : dgt k c x = c / 6 ^ r % 6 := dgt_r (by omega)
      have hi6 : c / 6 ^ r % 6 < 6 := Nat.mod_lt _ (by decide)
      have hSi : S.testBit (c / 6 ^ r % 6) = true := by rw [← hor]; exact orDd r x (by omega)
      generalize c / 6 ^ r % 6 = i at a1 a2 a3 hdg hi6 hSi
      obtain ⟨hin, hmp⟩ := hG.2 i hi6 hSi
      obtain ⟨mo1, mo2⟩ := moN_v hv0 hin hmp
      obtain ⟨wa1, wa2⟩ := waN_v hv0 hin
      have mo5 := moN5 (n := n) hv0 i
      have hat := k_at h (r := 2) (i := x) (m := k) (by decide) hRS (by omega) (by omega)
      rw [hRA x (by omega), hdg] at hat
      have h1 := h.tells (nI i)
      have t8 : ∀ cs A σ, IW n w cs kc RS RA A U V T X Y σ → gA σ 41 (8 + i) = nI (waN v0 n i) := fun cs A σ h => by rw [h.t, (hT.2.2 i hin).2, ← wa1, hw0 _ (by omega)]
      have n8 : (8 : Int32) + nI i = nI (8 + i) := nI_add 8 i
      have j8 : inB (nI (8 + i)) 14 = true := inB_nI (by omega) (by decide)
      have k8 : (nI (8 + i)).toNatClampNeg = 8 + i := nI_clamp (by omega)
      have core : ∀ cs1 A1 σ1, IW n w cs1 kc RS RA A1 U V T X Y σ1 → cs1.length ≤ cs.length + 1 → run n (iniV w) cs1 0 = nI (tN v0 + s0.2.2.1 + dif s0.2.1 i) → run n (iniV w) cs1 2 = nI i → (∀ j, j < n → moreV (run n (iniV w) cs1) j = moreV (run n (iniV w) cs) j ∧ awV (run n (iniV w) cs1) j = awV (run n (iniV w) cs) j) →
          l_L_law_982 L xs a5 a7 a8 a9 a11 a12 (nI k) (nI x) (nI i) (fun (v17_1013 : Int32) (σv1013 : Sg) => (nm (fun (t0_1039 : Bool) => (nm (nI x + (1 : Int32)) (fun y128 => (l_L_law_924 L xs a5 a7 a8 a9 a11 a12 (nI k) K N t0_1039 y128 σv1013))))
    (fun k1039 => (nm (k1039 false)
    (fun k1038 => (if v17_1013 = (1 : Int32) then
    (bnd (f_X5_count (1 : Int32) σv1013) (fun r129 => (ck (inB ((8 : Int32) + nI i) (cLen 41)) (if (gA σv1013 41 ((8 : Int32) + nI i).toNatClampNeg) < r129 then
    k1038
    else
    (k1039 true)))))
    else
    k1038)))))) FU (0 : Int32) (0 : Int32) σ1 = some true := by
        intro cs1 A1 σ1 q1 ql q2 q3 q4
        obtain ⟨y1, y2⟩ := q4 i hin
        have hm1 : moreV (run n (iniV w) cs1) i = nI (moN v0 n i - 1 + 1) := by rw [y1, hmo i hin a1, mo1, show moN v0 n i - 1 + 1 = moN v0 n i by omega]
        obtain ⟨cs2, σ2, z1, z2, z3, z4, z5, z6, z7⟩ := taps_l (L := L) (xs := xs) (a5 := a5) (a7 := a7) (a9 := a9) (a11 := a11) (a12 := a12) (a13 := nI k) (a15 := nI x) (a16 := nI i) (a8 := a8) (K := (fun (v17_1013 : Int32) (σv1013 : Sg) => (nm (fun (t0_1039 : Bool) => (nm (nI x + (1 : Int32)) (fun y128 => (l_L_law_924 L xs a5 a7 a8 a9 a11 a12 (nI k) K N t0_1039 y128 σv1013))))
    (fun k1039 => (nm (k1039 false)
    (fun k1038 => (if v17_1013 = (1 : Int32) then
    (bnd (f_X5_count (1 : Int32) σv1013) (fun r129 => (ck (inB ((8 : Int32) + nI i) (cLen 41)) (if (gA σv1013 41 ((8 : Int32) + nI i).toNatClampNeg) < r129 then
    k1038
    else
    (k1039 true)))))
    else
    k1038))))))) h0 hin (moN v0 n i - 1) 0 FU cs1 σ1 (by omega) (by omega) (lt_FU (by omega)) q1 (by omega) q3 hm1
        refine z7.trans ?_
        have em : s'.2.2.1 = s0.2.2.1 + (dif s0.2.1 i + moN v0 n i) := by rw [a3]
        have ev : run n (iniV w) cs2 0 = nI (tN v0 + s'.2.2.1) := by
          rw [z3, q2, nI_add, em]
          congr 1
          omega
        have hc8 : ¬ nI (waN v0 n i) < nI (tN v0 + s'.2.2.1) := nI_nlt (by rw [em]; exact a2) (by omega)
        simp only [nmE, if_true, k_count1 z1, bndS, c41, n8, j8, k8, ckT, t8 cs2 _ σ2 z1, ev, hc8, if_false, nI_1]
        refine ih (x + 1) N cs2 _ σ2 s' (by omega) (by omega) hx2 z1 ev (by rw [z4, a3]) (fun j hj hb => ?_) (fun j hj hb => ?_) (by omega)
        · rw [a3] at hb
          have hb : (s0.1 ||| 2 ^ i).testBit j = true := hb
          rw [orPb s0.1 (by rw [hall.1]; exact orD64 _ _) i hi6 j (by omega), Bool.or_eq_true] at hb
          by_cases hji : j = i
          · rw [hji]; exact z5
          · rcases hb with hb | hb
            · rw [(z6 j hj hji).2, (q4 j hj).2]
              exact haw j hj hb
            · exact absurd (of_decide_eq_true hb) hji
        · rw [a3] at hb
          have hb : (s0.1 ||| 2 ^ i).testBit j = false := hb
          rw [orPb s0.1 (by rw [hall.1]; exact orD64 _ _) i hi6 j (by omega), Bool.or_eq_false_iff] at hb
          have hji : ¬ j = i := of_decide_eq_false hb.2
          rw [(z6 j hj hji).1, (q4 j hj).1]
          exact hmo j hj hb.1
      conv => lhs; unfold l_L_law_924
      rw [if_neg (nI_ge (show x < k by omega) (by omega)), bfT, show (2 : Int32) = nI 2 from rfl, hat, bnd2S, if_pos rfl, asked_p, bndS, k_count4 h1, bndS, nmE, e2]
      by_cases hsp : i = s0.2.1
      · rw [if_pos (show nI i = nI s0.2.1 by rw [hsp])]
        exact core cs _ _ h1 (by omega) (by rw [e0, hsp, dif_0, Nat.add_zero]) (by rw [e2, hsp]) (fun j hj => ⟨rfl, rfl⟩)
      · have hne : ¬ nI i = nI s0.2.1 := by rw [nIeq (by omega) (by omega)]; exact hsp
        obtain ⟨σ3, w1, w2⟩ := k_walk h1 hin (by omega) (by rw [e2]; exact Ne.symm hne)
        have er : run n (iniV w) (cs ++ [100 * i]) = walkV i (run n (iniV w) cs) := by rw [run_snoc, stp_walk (by omega)]
        have e0' : run n (iniV w) (cs ++ [100 * i]) 0 = nI (tN v0 + s0.2.2.1 + dif s0.2.1 i) := by
          rw [er]
          unfold walkV
          rw [va_up_ne _ _ (by decide), va_up_self, e0, e2, difV i hi6 s0.2.1 hall.2.2.1, nI_add, dif_c]
        rw [e0'] at w1
        rw [if_neg hne, w1, bnd2S, if_pos (nI_pos' (by omega))]
        exact core _ _ _ w2 (by rw [len_snoc]; omega) e0' (by rw [er]; unfold walkV; rw [va_up_self]) (fun j hj => by rw [er]; exact walk_more i j)
end MAA
