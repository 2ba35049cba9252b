section LVV
variable {n : Nat} {w : Nat → Int32} {RS : Nat → Int32} {RA : Nat → Nat → Int32} {U V : Int64} {T : Nat → Int32}
def Dead (n : Nat) (w v : Nat → Int32) : Prop := ∀ i, i < n → w (23 + i) = 3 → awV v i = false
def Purse (k : Nat) (v : Nat → Int32) : Prop := ∃ u, u ≤ 5 * k ∧ v 4 = nI u
theorem len_snoc (cs : List Nat) (c : Nat) : (cs ++ [c]).length = cs.length + 1 := by rw [List.length_append]; rfl
theorem take_snoc (cs : List Nat) (c : Nat) : (cs ++ [c]).take cs.length = cs := by rw [List.take_append_of_le_length (Nat.le_refl _), List.take_length]
set_option maxHeartbeats 8000000 in
theorem turns {L : Nat} {xs : Nat → Int32} (hL : L ≤ 260) {K : Sg → Option Bool} (h0 : 0 < n) (hT : TR n w T)
    (hK : ∀ cs A X Y σ, IW n w cs none RS RA A U V T X Y σ → XR n (run n (iniV w) cs) X → cs.length ≤ 14 → K σ = some true) :
    ∀ m j N cs A X Y σ, j + m = 14 → m < N → IW n w cs none RS RA A U V T X Y σ → XR n (run n (iniV w) cs) X → cs.length ≤ j → Dead n w (run n (iniV w) cs) → Purse cs.length (run n (iniV w) cs) → l_L_law_41 L xs K N (nI j) σ = some true := by
  intro m
  induction m with
  | zero =>
    intro j N cs A X Y σ hj hN h hX hl _ _
    obtain ⟨N, rfl⟩ : ∃ k, N = k + 1 := ⟨N - 1, by omega⟩
    unfold l_L_law_41
    rw [show j = 14 by omega, if_pos (by decide)]
    exact hK cs A X Y σ h hX (by omega)
  | succ m ih =>
    intro j N cs A X Y σ hj hN h hX hl hdead hpurse
    obtain ⟨N, rfl⟩ : ∃ k, N = k + 1 := ⟨N - 1, by omega⟩
    have hn := h.n6
    have hv := h.vw
    have hw : ∀ k, 23 ≤ k → run n (iniV w) cs k = w k := fun k hk => run_stat h.stw hk h.cok.1 h.cok.2
    -- the copy
    have hc := copy_v σ
    rw [h.x, h.y] at hc
    have h2 := h.putY (fun x => if x < 23 then X x else Y x)
    have hY2 : XR n (run n (iniV w) cs) (fun x => if x < 23 then X x else Y x) := hX.cg (fun k hk => if_pos hk) hn
    generalize (fun x => if x < 23 then X x else Y x) = Y2 at hc h2 hY2
    generalize pA σ 43 Y2 = σ2 at hc h2
    have ez : f_L_cell L xs ((7 : Int32) + nI j) σ2 = some (cellV L xs (7 + j)) := by rw [show (7 : Int32) + nI j = nI (7 + j) from nI_add 7 j]; exact cell_v hL (by omega) σ2
    generalize cellV L xs (7 + j) = z at ez
    have es : f_L_low z (14 : Int32) = some (nI (dSort z)) := low_v z (m := 14) (by decide) (by decide)
    have hs : dSort z < 14 := Nat.mod_lt _ (by decide)
    obtain ⟨σ6, f, e6, h6, hX6⟩ := deed_v h2 h0 (by omega) (g := 42) (Or.inl rfl) hT hX z
    have h6 : IW n w (cs ++ (deedV n (run n (iniV w) cs) z).toList) none RS RA A U V T f Y2 σ6 := h6
    have hv6 := h6.vw
    have hY6 : XR n (run n (iniV w) cs) (gA σ6 43) := by rw [h6.y]; exact hY2
    have e7 := lawake_v (g := 43) (σ := σ6) (Or.inr rfl) hY6 hv hn
    have y0 : gA σ6 43 0 = run n (iniV w) cs 0 := hY6.1 0 (by decide)
    conv => lhs; unfold l_L_law_41
    rw [if_neg (show ¬ (14 : Int32) ≤ nI j from nI_ge (b := 14) (by omega) (by decide)), hc, bndS, ez, bndS, k_count3 h2, bndS, es, bndS, e6, bnd2S]
    have r6 : (0 : Int32) ≤ (if (deedV n (run n (iniV w) cs) z).isSome then 1 else 0) := by split <;> decide
    rw [if_pos r6, e7, bndS, k_count6 h6, bndS]
    cases hd : deedV n (run n (iniV w) cs) z with
    | none =>
      rw [hd] at h6 hX6 hv6
      rw [Option.toList_none, List.append_nil] at h6 hX6 hv6 ⊢
      obtain ⟨A', σ', g1, g2⟩ := turn_l (L := L) (xs := xs) (a5 := nI j) (a6 := z) (a7 := nI cs.length) (a9 := 0) (K := (fun (v12_356 : Int32) (σv356 : Sg) => (bnd (f_X5_count (1 : Int32) σv356) (fun r24 => (ck (inB (0 : Int32) (cLen 43)) (nm (r24 - (gA σv356 43 (0 : Int32).toNatClampNeg)) (fun y25 => (bnd (f_X5_count (7 : Int32) σv356) (fun r26 => (ck (inB (4 : Int32) (cLen 43)) (if r26 = ((gA σv356 43 (4 : Int32).toNatClampNeg) + v12_356) then
    (nm (nm (bnd (f_X5_count (4 : Int32) σv356) (fun r27 => (ck (inB (1 : Int32) (cLen 41)) (if r27 < (gA σv356 41 (1 : Int32).toNatClampNeg) then
    (nm (fun (σj527 : Sg) => (nm (nI j + (1 : Int32)) (fun y28 => (l_L_law_41 L xs K N y28 σj527))))
    (fun k527 => (if (0 : Int32) = (1 : Int32) then
    (bnd (f_X5_count (3 : Int32) σv356) (fun r29 => (if r29 = (nI cs.length + (1 : Int32)) then
    (bnd2 (f_X5_undo (nI cs.length) σv356) (fun r30 σ30 => (if r30 = (1 : Int32) then
    (bnd2 (f_L_same 41 43 σ30) (fun r31 σ31 => (bf r31
    (bnd2 (f_L_deed z 41 43 σ31) (fun r32 σ32 => (if r32 = (1 : Int32) then
    (k527 σ32)
    else
    (some false))))
    (some false))))
    else
    (some false))))
    else
    (some false))))
    else
    (k527 σv356))))
    else
    (some false)))))
    (fun k461 => (if (0 : Int32) = 0 then
    (if y25 = 0 then
    k461
    else
    (some false))
    else
    k461)))
    (fun k451 => (if (0 : Int32) = (1 : Int32) then
    (nm (nm (if nI (dSort z) ≤ (8 : Int32) then
    k451
    else
    (if (13 : Int32) ≤ nI (dSort z) then
    k451
    else
    (if y25 = 0 then
    k451
    else
    (some false))))
    (fun k432 => (if nI (dSort z) ≤ (2 : Int32) then
    k432
    else
    (if (9 : Int32) ≤ nI (dSort z) then
    k432
    else
    (if y25 = (1 : Int32) then
    k432
    else
    (some false))))))
    (fun k413 => (if (3 : Int32) ≤ nI (dSort z) then
    k413
    else
    (bnd (f_X5_count (4 : Int32) σv356) (fun r33 => (ck (inB (2 : Int32) (cLen 43)) (bnd (f_L_far r33 (gA σv356 43 (2 : Int32).toNatClampNeg)) (fun r34 => (if y25 = r34 then
    k413
    else
    (some false))))))))))
    else
    k451)))
    else
    (some false)))))))))))) hs hT hY2 (fun i hi => stepOK_same (hdead i hi) rfl) n 0 FU 0 A σ6 (by omega) (lt_FU (by omega)) h6
      refine Eq.trans g2 ?_
      have hY' : XR n (run n (iniV w) cs) (gA σ' 43) := by rw [g1.y]; exact hY2
      have y0 : gA σ' 43 0 = run n (iniV w) cs 0 := hY'.1 0 (by decide)
      have y4 : gA σ' 43 4 = run n (iniV w) cs 4 := hY'.1 4 (by decide)
      have t1 : gA σ' 41 1 = nI n := by rw [g1.t]; exact hT.2.1
      obtain ⟨p, hp, ep⟩ := hv.2.2.1
      have c4 : (nI p < nI n) = True := lt_T (by omega) (by omega)
      rw [pay_same (fun i hi => rfl)]
      simp only [k_count1 g1, k_count7 g1, k_count4 g1, bndS, c41, c43, show inB (0 : Int32) 23 = true by decide, show inB (4 : Int32) 23 = true by decide, show inB (1 : Int32) 14 = true by decide, ckT, nmE, cl0, cl1, cl4, y0, y4, t1, ep, c4, Int32.add_zero, sub_self9, if_true, show ((0 : Int32) = 1) = False from eq_false (by decide), if_false, nI_1]
      exact ih (j + 1) N cs A' f Y2 σ' (by omega) (by omega) g1 hX6 (by omega) hdead hpurse
    | some c =>
      rw [hd] at h6 hX6 hv6
      have h6 : IW n w (cs ++ [c]) none RS RA A U V T f Y2 σ6 := h6
      have hX6 : XR n (run n (iniV w) (cs ++ [c])) f := hX6
      have hv6 : VW n (run n (iniV w) (cs ++ [c])) := hv6
      obtain ⟨hcok, hisW⟩ := deed_is hv h0 hn hd
      have er : run n (iniV w) (cs ++ [c]) = stp n c (run n (iniV w) cs) := run_snoc _ _ _ _
      rw [← er] at hisW
      obtain ⟨u, hu, eu⟩ := hpurse
      have hlen := h.cok.1
      obtain ⟨pk1, u', hu', eu'⟩ := purse_ok hv hn (show u ≤ 5000 by omega) eu hisW
      obtain ⟨mk1, mk2, mk3⟩ := minutes_ok hv hn hisW
      have hstep := fun i (hi : i < n) => step_ok (w := w) hn hw hdead hisW hi
      obtain ⟨A', σ', g1, g2⟩ := turn_l (L := L) (xs := xs) (a5 := nI j) (a6 := z) (a7 := nI cs.length) (a9 := 1) (K := (fun (v12_356 : Int32) (σv356 : Sg) => (bnd (f_X5_count (1 : Int32) σv356) (fun r24 => (ck (inB (0 : Int32) (cLen 43)) (nm (r24 - (gA σv356 43 (0 : Int32).toNatClampNeg)) (fun y25 => (bnd (f_X5_count (7 : Int32) σv356) (fun r26 => (ck (inB (4 : Int32) (cLen 43)) (if r26 = ((gA σv356 43 (4 : Int32).toNatClampNeg) + v12_356) then
    (nm (nm (bnd (f_X5_count (4 : Int32) σv356) (fun r27 => (ck (inB (1 : Int32) (cLen 41)) (if r27 < (gA σv356 41 (1 : Int32).toNatClampNeg) then
    (nm (fun (σj527 : Sg) => (nm (nI j + (1 : Int32)) (fun y28 => (l_L_law_41 L xs K N y28 σj527))))
    (fun k527 => (if (1 : Int32) = (1 : Int32) then
    (bnd (f_X5_count (3 : Int32) σv356) (fun r29 => (if r29 = (nI cs.length + (1 : Int32)) then
    (bnd2 (f_X5_undo (nI cs.length) σv356) (fun r30 σ30 => (if r30 = (1 : Int32) then
    (bnd2 (f_L_same 41 43 σ30) (fun r31 σ31 => (bf r31
    (bnd2 (f_L_deed z 41 43 σ31) (fun r32 σ32 => (if r32 = (1 : Int32) then
    (k527 σ32)
    else
    (some false))))
    (some false))))
    else
    (some false))))
    else
    (some false))))
    else
    (k527 σv356))))
    else
    (some false)))))
    (fun k461 => (if (1 : Int32) = 0 then
    (if y25 = 0 then
    k461
    else
    (some false))
    else
    k461)))
    (fun k451 => (if (1 : Int32) = (1 : Int32) then
    (nm (nm (if nI (dSort z) ≤ (8 : Int32) then
    k451
    else
    (if (13 : Int32) ≤ nI (dSort z) then
    k451
    else
    (if y25 = 0 then
    k451
    else
    (some false))))
    (fun k432 => (if nI (dSort z) ≤ (2 : Int32) then
    k432
    else
    (if (9 : Int32) ≤ nI (dSort z) then
    k432
    else
    (if y25 = (1 : Int32) then
    k432
    else
    (some false))))))
    (fun k413 => (if (3 : Int32) ≤ nI (dSort z) then
    k413
    else
    (bnd (f_X5_count (4 : Int32) σv356) (fun r33 => (ck (inB (2 : Int32) (cLen 43)) (bnd (f_L_far r33 (gA σv356 43 (2 : Int32).toNatClampNeg)) (fun r34 => (if y25 = r34 then
    k413
    else
    (some false))))))))))
    else
    k451)))
    else
    (some false)))))))))))) hs hT hY2 hstep n 0 FU 0 A σ6 (by omega) (lt_FU (by omega)) h6
      refine Eq.trans g2 ?_
      have hY' : XR n (run n (iniV w) cs) (gA σ' 43) := by rw [g1.y]; exact hY2
      have y0 : gA σ' 43 0 = run n (iniV w) cs 0 := hY'.1 0 (by decide)
      have y2 : gA σ' 43 2 = run n (iniV w) cs 2 := hY'.1 2 (by decide)
      have y4 : gA σ' 43 4 = run n (iniV w) cs 4 := hY'.1 4 (by decide)
      have t1 : gA σ' 41 1 = nI n := by rw [g1.t]; exact hT.2.1
      obtain ⟨p, hp, ep⟩ := hv6.2.2.1
      have c4 : (nI p < nI n) = True := lt_T (by omega) (by omega)
      -- undone, and done again
      obtain ⟨σ30, u1, u2⟩ := k_undo g1 (m := cs.length) (by rw [len_snoc]; omega)
      rw [take_snoc] at u2
      rw [len_snoc, show cs.length + 1 - cs.length = 1 by omega] at u1
      obtain ⟨A31, σ31, s1, s2⟩ := same_v u2 (g := 43) (Or.inr rfl) hT hY2
      obtain ⟨σ32, f2, d1, d2, d3⟩ := deed_v s2 h0 (by omega) (g := 43) (Or.inr rfl) hT hY2 z
      rw [hd] at d1 d2 d3
      have d1 : f_L_deed z 41 43 σ31 = some (1, σ32) := d1
      have d2 : IW n w (cs ++ [c]) none RS RA A31 U V T f f2 σ32 := d2
      have next : l_L_law_41 L xs K N (nI (j + 1)) σ32 = some true := ih (j + 1) N (cs ++ [c]) A31 f f2 σ32 (by omega) (by omega) d2 hX6 (by rw [len_snoc]; omega) (fun i hi z3 => (hstep i hi).2.1 z3) ⟨u', by rw [len_snoc]; omega, eu'⟩
      have k8 : (nI (dSort z) ≤ (8 : Int32)) = (dSort z ≤ 8) := nIle (b := 8) (by omega) (by decide)
      have k13 : ((13 : Int32) ≤ nI (dSort z)) = (13 ≤ dSort z) := nIle (a := 13) (by decide) (by omega)
      have k2 : (nI (dSort z) ≤ (2 : Int32)) = (dSort z ≤ 2) := nIle (b := 2) (by omega) (by decide)
      have k9 : ((9 : Int32) ≤ nI (dSort z)) = (9 ≤ dSort z) := nIle (a := 9) (by decide) (by omega)
      have k3 : ((3 : Int32) ≤ nI (dSort z)) = (3 ≤ dSort z) := nIle (a := 3) (by decide) (by omega)
      have u1 : f_X5_undo (nI cs.length) σ' = some (1, σ30) := u1
      simp only [k_count1 g1, k_count7 g1, k_count4 g1, k_count3 g1, bndS, bnd2S, bfT, c41, c43, show inB (0 : Int32) 23 = true by decide, show inB (2 : Int32) 23 = true by decide, show inB (4 : Int32) 23 = true by decide, show inB (1 : Int32) 14 = true by decide, ckT, nmE, cl0, cl1, cl2, cl4, y0, y2, y4, t1, ep, c4, ← pk1, if_true, show ((1 : Int32) = 0) = False from eq_false (by decide), if_false, nI_1, len_snoc, u1, s1, d1, next, k8, k13, k2, k9, k3]
      by_cases z3 : dSort z < 3
      · obtain ⟨d, q, hd', hq, e1, e2, e3⟩ := mk1 z3
        have ed : nI p = nI d := by rw [← ep, e1]
        rw [if_neg (show ¬ 3 ≤ dSort z by omega), if_pos (show dSort z ≤ 8 by omega), if_pos (show dSort z ≤ 2 by omega), ed, e2, far_v (by omega) (by omega), bndS, e3, if_pos rfl]
      · rw [if_pos (show 3 ≤ dSort z by omega)]
        by_cases z9 : dSort z < 9
        · rw [if_neg (show ¬ dSort z ≤ 2 by omega), if_neg (show ¬ 9 ≤ dSort z by omega), if_pos (mk2 z3 z9), if_pos (show dSort z ≤ 8 by omega)]
        · rw [if_neg (show ¬ dSort z ≤ 2 by omega), if_pos (show 9 ≤ dSort z by omega), if_neg (show ¬ dSort z ≤ 8 by omega)]
          by_cases z13 : 13 ≤ dSort z
          · rw [if_pos z13]
          · rw [if_neg z13, if_pos (mk3 z9 (by omega))]
end LVV
