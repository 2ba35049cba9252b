section LDE
variable {n : Nat} {w : Nat → Int32} {cs : List Nat} {kc : Option (List Nat)} {RS : Nat → Int32} {RA : Nat → Nat → Int32} {A : Int32} {U V : Int64} {T X Y : Nat → Int32} {σ : Sg} {g : Nat}
theorem gZZ (g : Nat) (f X Y : Nat → Int32) : gZ g (gX g f X) (gY g f Y) = f := by
  unfold gX gY gZ
  by_cases e : g = 42
  · rw [if_pos e, if_pos e]
  · rw [if_neg e, if_neg e]
theorem dDate_lt (z : Int32) : dDate z < 110 := by
  unfold dDate
  have h1 := Nat.mod_lt (lowK (z >>> ((7 : Int32) &&& 31))) (show 10 > 0 by decide)
  have h2 := Nat.mod_lt (lowK (z >>> ((7 : Int32) &&& 31))) (show 102 > 0 by decide)
  have h3 := Nat.mod_lt (lowK (z >>> ((7 : Int32) &&& 31))) (show 100 > 0 by decide)
  split
  · omega
  · split <;> omega
theorem dOn_lt (z : Int32) : dOn z < 3 := by
  unfold dOn
  have h2 := Nat.mod_lt (lowK (z >>> ((7 : Int32) &&& 31))) (show 3 > 0 by decide)
  have h3 := Nat.mod_lt (lowK (z >>> ((7 : Int32) &&& 31))) (show 2 > 0 by decide)
  split <;> omega
theorem date_v {β : Type} (z : Int32) (K : Int32 → Option β) : (bnd (f_L_low (z >>> ((20 : Int32) &&& 31)) (9 : Int32)) (fun r10 => (nm (fun (t0_203 : Int32) => (bnd (f_L_low (z >>> ((7 : Int32) &&& 31)) t0_203) (fun r11 => (bnd (f_L_low (z >>> ((21 : Int32) &&& 31)) (3 : Int32)) (fun r12 => (nm K (fun k236 => (if r12 = 0 then (bnd (f_L_low (z >>> ((7 : Int32) &&& 31)) (10 : Int32)) (fun r17 => (k236 ((40 : Int32) + r17)))) else (k236 r11))))))))) (fun k203 => (if r10 = 0 then (k203 (102 : Int32)) else (k203 (100 : Int32))))))) = K (nI (dDate z)) := by
  have a20 : f_L_low (z >>> ((20 : Int32) &&& 31)) (9 : Int32) = some (nI (lowK (z >>> ((20 : Int32) &&& 31)) % 9)) := low_v _ (m := 9) (by decide) (by decide)
  have a21 : f_L_low (z >>> ((21 : Int32) &&& 31)) (3 : Int32) = some (nI (lowK (z >>> ((21 : Int32) &&& 31)) % 3)) := low_v _ (m := 3) (by decide) (by decide)
  have b10 : f_L_low (z >>> ((7 : Int32) &&& 31)) (10 : Int32) = some (nI (lowK (z >>> ((7 : Int32) &&& 31)) % 10)) := low_v _ (m := 10) (by decide) (by decide)
  have b102 : f_L_low (z >>> ((7 : Int32) &&& 31)) (102 : Int32) = some (nI (lowK (z >>> ((7 : Int32) &&& 31)) % 102)) := low_v _ (m := 102) (by decide) (by decide)
  have b100 : f_L_low (z >>> ((7 : Int32) &&& 31)) (100 : Int32) = some (nI (lowK (z >>> ((7 : Int32) &&& 31)) % 100)) := low_v _ (m := 100) (by decide) (by decide)
  have m9 := Nat.mod_lt (lowK (z >>> ((20 : Int32) &&& 31))) (show 9 > 0 by decide)
  have m3 := Nat.mod_lt (lowK (z >>> ((21 : Int32) &&& 31))) (show 3 > 0 by decide)
  have c9 : (nI (lowK (z >>> ((20 : Int32) &&& 31)) % 9) = (0 : Int32)) = (lowK (z >>> ((20 : Int32) &&& 31)) % 9 = 0) := eq0 (by omega)
  have c3 : (nI (lowK (z >>> ((21 : Int32) &&& 31)) % 3) = (0 : Int32)) = (lowK (z >>> ((21 : Int32) &&& 31)) % 3 = 0) := eq0 (by omega)
  unfold dDate
  simp only [a20, a21, b10, bndS, nmE, c9, c3]
  by_cases e9 : lowK (z >>> ((20 : Int32) &&& 31)) % 9 = 0
  · simp only [e9, if_true, b102, bndS]
    by_cases e3 : lowK (z >>> ((21 : Int32) &&& 31)) % 3 = 0
    · rw [if_pos e3, if_pos e3, show (40 : Int32) = nI 40 from rfl, nI_add]
    · rw [if_neg e3, if_neg e3]
  · simp only [e9, if_false, b100, bndS]
    by_cases e3 : lowK (z >>> ((21 : Int32) &&& 31)) % 3 = 0
    · rw [if_pos e3, if_pos e3, show (40 : Int32) = nI 40 from rfl, nI_add]
    · rw [if_neg e3, if_neg e3]
theorem on_v {β : Type} (z : Int32) (K : Int32 → Option β) : (bnd (f_L_low (z >>> ((20 : Int32) &&& 31)) (9 : Int32)) (fun r6 => (nm (fun (t0_380 : Int32) => (bnd (f_L_low (z >>> ((7 : Int32) &&& 31)) t0_380) K)) (fun k380 => (if r6 = 0 then (k380 (3 : Int32)) else (k380 (2 : Int32))))))) = K (nI (dOn z)) := by
  have a20 : f_L_low (z >>> ((20 : Int32) &&& 31)) (9 : Int32) = some (nI (lowK (z >>> ((20 : Int32) &&& 31)) % 9)) := low_v _ (m := 9) (by decide) (by decide)
  have b3 : f_L_low (z >>> ((7 : Int32) &&& 31)) (3 : Int32) = some (nI (lowK (z >>> ((7 : Int32) &&& 31)) % 3)) := low_v _ (m := 3) (by decide) (by decide)
  have b2 : f_L_low (z >>> ((7 : Int32) &&& 31)) (2 : Int32) = some (nI (lowK (z >>> ((7 : Int32) &&& 31)) % 2)) := low_v _ (m := 2) (by decide) (by decide)
  have m9 := Nat.mod_lt (lowK (z >>> ((20 : Int32) &&& 31))) (show 9 > 0 by decide)
  have c9 : (nI (lowK (z >>> ((20 : Int32) &&& 31)) % 9) = (0 : Int32)) = (lowK (z >>> ((20 : Int32) &&& 31)) % 9 = 0) := eq0 (by omega)
  unfold dOn
  simp only [a20, bndS, nmE, c9]
  by_cases e9 : lowK (z >>> ((20 : Int32) &&& 31)) % 9 = 0
  · simp only [e9, if_true, b3, bndS]
  · simp only [e9, if_false, b2, bndS]
set_option maxHeartbeats 4000000 in
theorem deed_v (h : IW n w cs kc RS RA A U V T X Y σ) (h0 : 0 < n) (hl : cs.length < 40) (hg : isG g) (hT : TR n w T) (hX : XR n (run n (iniV w) cs) (gZ g X Y)) (z : Int32) : DeedPost n w cs kc RS RA A U V T X Y g (deedV n (run n (iniV w) cs) z) (f_L_deed z 41 g σ) := by
  have hn := h.n6
  have hv := h.vw
  have hrd := h.rd hg
  have h41 := h.t
  have hg41 : (41 : Nat) ≠ g := by rcases hg with rfl | rfl <;> decide
  have hw : ∀ k, 23 ≤ k → run n (iniV w) cs k = w k := fun k hk => run_stat h.stw hk h.cok.1 h.cok.2
  have hT' : TR n w (gA σ 41) := by rw [h41]; exact hT
  have hX' : XR n (run n (iniV w) cs) (gA σ g) := by rw [hrd]; exact hX
  have hi : dHouse n z < n := Nat.mod_lt _ h0
  have l1 : f_L_low z (14 : Int32) = some (nI (dSort z)) := low_v z (m := 14) (by decide) (by decide)
  have l2 : f_L_low (z >>> ((4 : Int32) &&& 31)) (gA σ 41 (1 : Int32).toNatClampNeg) = some (nI (dHouse n z)) := by rw [cl1, h41, hT.2.1]; exact low_v _ h0 (by omega)
  have h40 : ¬ nI cs.length = (40 : Int32) := by rw [eq40 (by omega)]; omega
  have hs : dSort z < 14 := Nat.mod_lt _ (by decide)
  have i1 : inB (1 : Int32) (cLen 41) = true := by decide
  have same : IW n w cs kc RS RA A U V T (gX g (gZ g X Y) X) (gY g (gZ g X Y) Y) σ := by rw [gXX, gYY]; exact h
  unfold f_L_deed
  rw [l1, bndS, k_count3 h, bndS, nmE, i1, if_neg h40]
  simp only [ckT, l2, bndS]
  unfold deedV
  generalize hd : dHouse n z = i at hi ⊢
  by_cases s3 : dSort z < 3
  · have c3 : ((3 : Int32) ≤ nI (dSort z)) = False := le_F (a := 3) (by decide) s3
    have e2 : gA σ g (2 : Int32).toNatClampNeg = run n (iniV w) cs 2 := by rw [cl2]; exact hX'.1 2 (by decide)
    rw [if_pos s3]
    simp only [c3, if_false, cG hg, show inB (2 : Int32) 23 = true by decide, show inB (0 : Int32) 23 = true by decide, ckT, nmE, e2]
    by_cases he : run n (iniV w) cs 2 = nI i
    · rw [if_pos he, if_pos he.symm]
      simp only [bfT, k_walk0 h hi he, bnd2S]
      exact deedP_n (by first | rfl | exact if_pos rfl) same hX
    · rw [if_neg he, if_neg (Ne.symm he)]
      obtain ⟨f, p1, p2⟩ := lwalk_v hg hX' hv hn hi
      have h1 := h.putG hg f
      obtain ⟨σ', q1, q2⟩ := k_walk h1 hi hl he
      have hst : run n (iniV w) (cs ++ [100 * i]) = walkV i (run n (iniV w) cs) := by rw [run_snoc, stp_walk (by omega)]
      have ef : gA σ' g (0 : Int32).toNatClampNeg = run n (iniV w) (cs ++ [100 * i]) 0 := by rw [q2.rd hg, gZZ, cl0, hst]; exact p2.1 0 (by decide)
      simp only [bfF, p1, bndS, q1, bnd2S, ef]
      exact deedP_s (by first | rfl | exact if_pos rfl) q2 (by rw [hst]; exact p2)
  have c3 : ((3 : Int32) ≤ nI (dSort z)) = True := le_T (a := 3) (by omega) (by omega)
  rw [if_neg s3]
  by_cases s9 : dSort z < 9
  · have c9 : ((9 : Int32) ≤ nI (dSort z)) = False := le_F (a := 9) (by decide) s9
    rw [if_pos s9]
    obtain ⟨p, hp, ep⟩ := hv.2.2.1
    have hpn : p < n := by omega
    obtain ⟨f, p1, p2⟩ := ltap_v hg hT' hX' hv hw hn hpn ep
    have h1 := h.putG hg f
    have hst : run n (iniV w) (cs ++ [1000]) = tapV p (run n (iniV w) cs) := by rw [run_snoc, stp_tap (by omega) ep]
    have ep2 : run n (iniV w) (cs ++ [1000]) 2 = nI p := by
      rw [hst]
      unfold tapV
      split
      · rw [va_up_ne _ _ (by omega), va_up_ne _ _ (by omega)]; exact ep
      · rw [va_up_ne _ _ (by omega), va_up_ne _ _ (by omega), va_up_ne _ _ (by omega), va_up_ne _ _ (by omega)]; exact ep
    obtain ⟨σ', q1, q2⟩ := k_tap h1 h0 hl hpn ep2
    simp only [c3, c9, if_true, if_false, nmE, bfF, p1, bnd2S, q1, hst]
    exact deedP_s (by first | rfl | exact if_pos rfl) q2 (by rw [hst]; exact p2)
  have c9 : ((9 : Int32) ≤ nI (dSort z)) = True := le_T (a := 9) (by omega) (by omega)
  rw [if_neg s9]
  by_cases s11 : dSort z < 11
  · have c11 : ((11 : Int32) ≤ nI (dSort z)) = False := le_F (a := 11) (by decide) s11
    rw [if_pos s11]
    simp only [c3, c9, c11, if_true, if_false]
    rw [date_v]
    have hdt := dDate_lt z
    generalize dDate z = dt at hdt ⊢
    have n5 : (5 : Int32) + nI i = nI (5 + i) := nI_add 5 i
    have n11 : (11 : Int32) + nI i = nI (11 + i) := nI_add 11 i
    have j5 : inB (nI (5 + i)) 23 = true := inB_nI (by omega) (by decide)
    have j11 : inB (nI (11 + i)) 23 = true := inB_nI (by omega) (by decide)
    have k5 : (nI (5 + i)).toNatClampNeg = 5 + i := nI_clamp (by omega)
    have k11 : (nI (11 + i)).toNatClampNeg = 11 + i := nI_clamp (by omega)
    have hz5 : gA σ g (5 + i) = run n (iniV w) cs (5 + i) := (hX'.2.1 i hi).1
    obtain ⟨d0, hd0, ed0⟩ := (hv.2.2.2.2.2.2 i hi).2.2.1
    simp only [n5, n11, cG hg, j5, j11, k5, k11, ckT, nmE]
    by_cases e99 : 99 < dt
    · have c99 : (nI dt ≤ (99 : Int32)) = False := le_F (b := 99) (by omega) e99
      rw [if_pos e99]
      simp only [c99, if_false, show ((0 : Int32) ≤ -1) = False from eq_false (by decide), upd_self, pA_self, k_slateB h hi (show 100 ≤ dt by omega) (by omega), bnd2S]
      exact deedP_n (by first | rfl | exact if_pos rfl) same hX
    · have c99 : (nI dt ≤ (99 : Int32)) = True := le_T (b := 99) (by decide) (by omega)
      rw [if_neg e99]
      simp only [c99, if_true]
      by_cases he : run n (iniV w) cs (5 + i) = nI dt
      · have q : (nI dt = gA σ g (5 + i)) = True := eq_true (by rw [hz5]; exact he.symm)
        rw [if_pos he]
        simp only [q, if_true, if_false, show ((0 : Int32) ≤ -4) = False from eq_false (by decide), upd_self, pA_self, k_slate0 h hi (show dt < 100 by omega) he, bnd2S]
        exact deedP_n (by first | rfl | exact if_pos rfl) same hX
      · have q : (nI dt = gA σ g (5 + i)) = False := eq_false (by rw [hz5]; exact Ne.symm he)
        have g0 : ((0 : Int32) ≤ gA σ g (5 + i)) = True := by rw [hz5, ed0]; exact eq_true (nI_pos' (by omega))
        rw [if_neg he]
        have k1 := (hX'.upi hn (b := 5) (Or.inl rfl) hi (nI dt)).upi hn (b := 11) (Or.inr (Or.inl rfl)) hi 0
        have h1 := h.putG hg (upd (upd (gA σ g) (5 + i) (nI dt)) (11 + i) 0)
        obtain ⟨σ', q1, q2⟩ := k_slate h1 hi (show dt < 100 by omega) hl he
        simp only [q, if_false, bfF, g0, if_true, pA_pA, gA_same, q1, bnd2S]
        refine deedP_s (f := upd (upd (gA σ g) (5 + i) (nI dt)) (11 + i) 0) (if_pos hz5.symm) q2 ?_
        rw [run_snoc, stp_slate (by omega) (by omega)]
        exact k1
  have c11 : ((11 : Int32) ≤ nI (dSort z)) = True := le_T (a := 11) (by omega) (by omega)
  rw [if_neg s11]
  by_cases s13 : dSort z < 13
  · have c13 : ((13 : Int32) ≤ nI (dSort z)) = False := le_F (a := 13) (by decide) s13
    rw [if_pos s13]
    simp only [c3, c9, c11, c13, if_true, if_false]
    rw [on_v]
    have hdt := dOn_lt z
    generalize dOn z = dt at hdt ⊢
    have e3 : gA σ g 3 = run n (iniV w) cs 3 := hX'.1 3 (by decide)
    have es : upd (gA σ g) 3 (run n (iniV w) cs 3) = gA σ g := by
      have := hX'.1 3 (by decide)
      rw [← this, upd_self]
    simp only [cG hg, show inB (3 : Int32) 23 = true by decide, ckT, nmE, e3, cl3]
    by_cases e1 : 1 < dt
    · have c1 : (nI dt ≤ (1 : Int32)) = False := le_F (b := 1) (by omega) e1
      rw [if_pos e1]
      simp only [c1, if_false, show ((0 : Int32) ≤ -1) = False from eq_false (by decide), es, pA_self, k_frostB (σ := σ) (show dt = 2 by omega), bnd2S]
      exact deedP_n (by first | rfl | exact if_pos rfl) same hX
    · have c1 : (nI dt ≤ (1 : Int32)) = True := le_T (b := 1) (by decide) (by omega)
      rw [if_neg e1]
      simp only [c1, if_true]
      by_cases he : run n (iniV w) cs 3 = nI dt
      · rw [if_pos he, if_pos he.symm]
        simp only [show ((0 : Int32) ≤ -4) = False from eq_false (by decide), if_false, es, pA_self, k_frost0 h h0 (show dt < 2 by omega) he, bnd2S]
        exact deedP_n (by first | rfl | exact if_pos rfl) same hX
      · rw [if_neg he, if_neg (Ne.symm he)]
        have g0 : ((0 : Int32) ≤ nI dt) = True := eq_true (nI_pos' (by omega))
        have k1 := hX'.up0 (k := 3) (by decide) (nI dt)
        have h1 := h.putG hg (upd (gA σ g) 3 (nI dt))
        obtain ⟨σ', q1, q2⟩ := k_frost h1 h0 (show dt < 2 by omega) hl he
        simp only [bfF, g0, if_true, q1, bnd2S]
        refine deedP_s (f := upd (gA σ g) 3 (nI dt)) (by first | rfl | exact if_pos rfl) q2 ?_
        rw [run_snoc, stp_frost (by omega)]
        exact k1
  have c13 : ((13 : Int32) ≤ nI (dSort z)) = True := le_T (a := 13) (by omega) (by omega)
  rw [if_neg s13]
  obtain ⟨f, p1, p2⟩ := lnight_v hg hX' hv hn
  have h1 := h.putG hg f
  obtain ⟨σ', q1, q2⟩ := k_night h1 h0 hl
  simp only [c3, c9, c11, c13, if_true, nmE, bfF, p1, bnd2S, q1]
  refine deedP_s (f := f) (by first | rfl | exact if_pos rfl) q2 ?_
  rw [run_snoc, stp_night]
  exact p2
end LDE
