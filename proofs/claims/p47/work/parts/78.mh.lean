/-! the law's last pieces put together -/
section MHH
variable {n : Nat} {w : Nat → Int32} {cs : List Nat} {U V : Int64} {T X Y : Nat → Int32}
set_option maxHeartbeats 8000000 in
theorem seg1385 {L : Nat} {xs : Nat → Int32} (hL : L ≤ 260) (h0 : 0 < n) (hn5 : n ≤ 5) (hT : TR n w T) (hX : XR n (run n (iniV w) cs) X) {R : Nat} (hR : R < 2 ^ n) {RS : Nat → Int32} {RA : Nat → Nat → Int32} {A : Int32} {σ : Sg} (h : IW n w cs (some cs) RS RA A U V T X Y σ) : s_L_law_1385 L xs (nI cs.length) (feesV (run n (iniV w) cs) (nI R) n) (nI R) σ = some true := by
  have hn := h.n6
  have hv := h.vw
  have h64 := p64 hn
  obtain ⟨u, hu, eu⟩ := fees_rg hv (nI R)
  rw [eu]
  -- sets that pay so much
  obtain ⟨σ1, s1, h1⟩ := k_sets h h0 (a := u) (by omega)
  obtain ⟨c1, c2⟩ := cnsm (fun s => decide (feesV (run n (iniV w) cs) (nI s) n = nI u)) (2 ^ n)
  have hcl := cn_le (fun s => decide (feesV (run n (iniV w) cs) (nI s) n = nI u)) (2 ^ n) 0
  have hne : ¬ cn (fun s => decide (feesV (run n (iniV w) cs) (nI s) n = nI u)) 0 (2 ^ n) = 0 := fun z => by
    have := c1 z R hR
    exact absurd eu (of_decide_eq_false this)
  obtain ⟨F, f1, f2, f3, f4⟩ := c2 hne
  rw [f4] at h1
  have hFR : F ≤ R := by
    by_cases e : F ≤ R
    · exact e
    · have := f3 R (by omega)
      exact absurd eu (of_decide_eq_false this)
  generalize cn (fun s => decide (feesV (run n (iniV w) cs) (nI s) n = nI u)) 0 (2 ^ n) = M at hcl hne h1
  have ha1 : f_X5_asked σ1 = some (nI F) := by unfold f_X5_asked; rw [h1.ask]
  have d1 : ¬ lg_cmp (lN M) (1 : Int64) < 0 := by rw [show (1 : Int64) = lN 1 from rfl, lclt (by omega) (by omega)]; omega
  -- those that surely pay
  obtain ⟨I, B, C, i1, i2, i3, i4, i5⟩ := sure_ok (v := run n (iniV w) cs) hn (a := nI u)
  obtain ⟨r1, r2, r3⟩ := i5 R hR eu
  obtain ⟨g1, g2, -⟩ := i5 F f1 (of_decide_eq_true f2)
  have hC : ¬ (sureV (run n (iniV w) cs) n (nI u)).2.2 = 0 := by rw [i4]; exact nI_ne0 r3 (by omega)
  obtain ⟨σ2, s2, h2⟩ := k_sure h1 h0 (a := u) (by omega) hC
  rw [i4] at s2 h2
  have s2 : f_X5_sure (nI u) σ1 = some (nI I, σ2) := s2
  have h2 : IW n w cs (some cs) RS RA (nI (2 ^ n - 1) &&& (nI B ^^^ (-1 : Int32))) (lN M) (lN 1) T X Y σ2 := h2
  rw [notM (2 ^ n - 1) (by omega) B i2] at h2
  have ha2 : f_X5_asked σ2 = some (nI ((2 ^ n - 1) &&& (63 - B))) := by unfold f_X5_asked; rw [h2.ask]
  have hle : (2 ^ n - 1) &&& (63 - B) ≤ 2 ^ n - 1 := Nat.and_le_left
  have e1 : nI I &&& (nI R ^^^ (-1 : Int32)) = 0 := by rw [notN I i1 R (by omega)]; exact r1
  have e2 : nI I &&& (nI F ^^^ (-1 : Int32)) = 0 := by rw [notN I i1 F (by omega)]; exact g1
  have hIB : I &&& B = I := by rw [← r1, Nat.and_assoc, r2]
  have e3 : nI ((2 ^ n - 1) &&& (63 - B)) &&& nI R = 0 := by
    rw [andN _ (by omega) R (by omega), Nat.and_assoc, offB B i2 R (by omega) r2, Nat.and_zero]
    rfl
  have e4 : nI ((2 ^ n - 1) &&& (63 - B)) &&& nI I = 0 := by
    rw [andN _ (by omega) I i1, Nat.and_assoc, offB B i2 I i1 hIB, Nat.and_zero]
    rfl
  -- by turns
  obtain ⟨σ3, s3, h3⟩ := k_duel h2 h0 (t := 2) (by decide)
  have s3 : f_X5_duel (2 : Int32) σ2 = some (1, σ3) := s3
  obtain ⟨b1, b2⟩ := duel3 _ (show (duG (duC (moreV (run n (iniV w) cs)) 0) ((n + 1 - 0) / 2) 0 2).1 < 4 from Nat.lt_succ_of_le (duB_g _ (by decide) (by decide) (by omega))) _ (show (duG (duC (moreV (run n (iniV w) cs)) 1) ((n + 1 - 1) / 2) 1 2).1 < 4 from Nat.lt_succ_of_le (duB_g _ (by decide) (by decide) (by omega)))
  have ha3 := h3.ask
  have ha3 : f_X5_asked σ3 = some (nI (duG (duC (moreV (run n (iniV w) cs)) 0) ((n + 1 - 0) / 2) 0 2).1 - nI (duG (duC (moreV (run n (iniV w) cs)) 1) ((n + 1 - 1) / 2) 1 2).1) := by unfold f_X5_asked; rw [ha3]
  obtain ⟨σ4, s4, h4⟩ := k_duel h3 h0 (t := 0) (by decide)
  have s4 : f_X5_duel (0 : Int32) σ3 = some (1, σ4) := s4
  -- chances
  have ez : f_L_cell L xs (24 : Int32) σ4 = some (cellV L xs 24) := cell_v hL (k := 24) (by decide) σ4
  have ey : f_L_cell L xs (25 : Int32) σ4 = some (cellV L xs 25) := cell_v hL (k := 25) (by decide) σ4
  generalize cellV L xs 24 = z at ez
  generalize cellV L xs 25 = y at ey
  have t1 : gA σ4 41 1 = nI n := by rw [h4.t]; exact hT.2.1
  have el : f_L_low z (nI n) = some (nI (lowK z % n)) := low_v z h0 (by omega)
  have em : f_L_low y (13 : Int32) = some (nI (lowK y % 13)) := low_v y (m := 13) (by decide) (by decide)
  have hi := Nat.mod_lt (lowK z) h0
  have hp := Nat.mod_lt (lowK y) (show 13 > 0 by decide)
  generalize lowK z % n = i at el hi
  generalize lowK y % 13 = p at em hp
  have last : l_L_law_1546 L xs (nI cs.length) (nI i) (nI p) (fun (σv1700 : Sg) => (s_L_law_1700 L xs (nI cs.length) (nI i) σv1700)) FU (0 : Int64) (1 : Int64) (0 : Int32) σ4 = some true := by
    rcases more_rg hv hi with e | ⟨x, hx, e⟩
    · exact odds9_l hi hp e (fun U V σ h => seg1700 hL hi hT hX h) 9 0 FU _ _ σ4 (by decide) (lt_FU (by decide)) h4
    · exact odds_l hi hp hx e (fun U V σ h => seg1700 hL hi hT hX h) 9 0 FU _ _ σ4 (by decide) (lt_FU (by decide)) h4
  unfold s_L_law_1385
  rw [s1, bnd2S, if_pos rfl, upI h1, bndS, if_neg d1, ha1, bndS, if_pos (nI_le hFR (by omega)), bndS, s2, bnd2S, ha2, bndS, if_pos e1, if_pos e2, if_pos e3, if_pos e4, s3, bnd2S, if_pos rfl, ha3, bndS, if_neg b1, bndS, if_neg b2, s4, bnd2S, if_pos rfl, ez, bndS, show inB (1 : Int32) (cLen 41) = true by decide, ckT, cl1, t1, el, bndS, ey, bndS, em, bndS]
  exact last
set_option maxHeartbeats 8000000 in
theorem seg1165 {L : Nat} {xs : Nat → Int32} (hL : L ≤ 260) (h0 : 0 < n) (hn5 : n ≤ 5) (hT : TR n w T) (hX : XR n (run n (iniV w) cs) X) {RS : Nat → Int32} {RA : Nat → Nat → Int32} {A : Int32} {σ : Sg} (h : IW n w cs (some cs) RS RA A U V T X Y σ) : l_L_law_1165 L xs (nI cs.length) σ (fun (v15_1202 : Int32) => (s_L_law_1202 L xs (nI cs.length) v15_1202 σ)) FU (0 : Int32) (0 : Int32) = some true := by
  have hn := h.n6
  have hv := h.vw
  have h64 := p64 hn
  have hp := Nat.two_pow_pos n
  have hap := apart_l (L := L) (xs := xs) (a5 := nI cs.length) (K := fun (v15_1202 : Int32) => (s_L_law_1202 L xs (nI cs.length) v15_1202 σ)) h0 h hT hX (n - 1) 0 FU (by omega) (lt_FU (by omega))
  refine Eq.trans hap ?_
  obtain ⟨q, f, σ1, e, l, d1, h1, d2, d3, d4, d5, d6⟩ := k_dates h h0 (r := 3) (by decide)
  have d1 : f_X5_dates (3 : Int32) σ = _ := d1
  have hbd : tv (daN (run n (iniV w) cs)) (n - 1) ≤ 100 * (n - 1) := tv_bd (n - 1) (fun x hx => Nat.le_of_lt (daN_v hv (show x < n by omega)).2)
  have hle : daN (run n (iniV w) cs) l - daN (run n (iniV w) cs) e ≤ tv (daN (run n (iniV w) cs)) (n - 1) := by
    have m1 : ∀ i j, i ≤ j → j < n → dif (daN (run n (iniV w) cs) i) (daN (run n (iniV w) cs) j) ≤ tv (daN (run n (iniV w) cs)) (n - 1) := fun i j hij hj => by
      have a := tv_ge (daN (run n (iniV w) cs)) hij
      have b := tv_ge (daN (run n (iniV w) cs)) (show j ≤ n - 1 by omega)
      omega
    rcases Nat.le_total e l with z | z
    · have := m1 e l z d5
      unfold dif at this
      omega
    · have := m1 l e z d4
      unfold dif at this
      omega
  have r3 : va_up RS 3 (nI n) 3 = nI n := va_up_self _ _ _
  show s_L_law_1202 L xs (nI cs.length) _ σ = some true
  unfold s_L_law_1202
  rw [d1, bnd2S]
  refine row_l (n := n) (w := w) (cs := cs) (kc := some cs) h0 hT hX hv d3 r3 (fun x hx => by rw [va_up_self]; exact d2 x hx) (fun A2 σ2 h2 => ?_) n 0 FU A σ1 (by omega) (lt_FU (by omega)) h1
  have t1 : gA σ2 41 1 = nI n := by rw [h2.t]; exact hT.2.1
  have ez : f_L_cell L xs (23 : Int32) σ2 = some (cellV L xs 23) := cell_v hL (k := 23) (by decide) σ2
  generalize cellV L xs 23 = z at ez
  have el : f_L_low z ((1 : Int32) <<< (nI n &&& 31)) = some (nI (lowK z % 2 ^ n)) := by rw [shl1 n (by omega)]; exact low_v z hp (by omega)
  have hR := Nat.mod_lt (lowK z) hp
  generalize lowK z % 2 ^ n = R at el hR
  have hpl := pays_l (L := L) (xs := xs) (a5 := nI cs.length) (K := fun (v20_1385 : Int32) => (s_L_law_1385 L xs (nI cs.length) v20_1385 (nI R) σ2)) (R := R) (by omega) h2 hT n 0 FU 0 (by omega) (lt_FU (by omega))
  show s_L_law_1296 L xs (nI cs.length) _ _ _ _ σ2 = some true
  unfold s_L_law_1296
  rw [if_neg (nI_nlt hle (by omega)), d6, if_pos rfl, show inB (1 : Int32) (cLen 41) = true by decide, ckT, cl1, t1, sub1 n (by omega), if_pos rfl, ez, bndS, ckT, el, bndS]
  exact Eq.trans hpl (seg1385 hL h0 hn5 hT hX hR h2)
set_option maxHeartbeats 8000000 in
theorem seg533 {L : Nat} {xs : Nat → Int32} (hL : L ≤ 260) (h0 : 0 < n) (hn5 : n ≤ 5) (hT : TR n w T) (hX : XR n (run n (iniV w) cs) X) {RS : Nat → Int32} {RA : Nat → Nat → Int32} {A : Int32} {σ : Sg} (h : IW n w cs none RS RA A U V T X Y σ) : s_L_law_533 L xs σ = some true := by
  have hn := h.n6
  obtain ⟨σ1, p1, h1⟩ := k_keep h h0
  have ez : f_L_cell L xs (21 : Int32) σ1 = some (cellV L xs 21) := cell_v hL (k := 21) (by decide) σ1
  generalize cellV L xs 21 = z at ez
  have el : f_L_low z (100 : Int32) = some (nI (lowK z % 100)) := low_v z (m := 100) (by decide) (by decide)
  have hd := Nat.mod_lt (lowK z) (show 100 > 0 by decide)
  generalize lowK z % 100 = d at el hd
  unfold s_L_law_533
  rw [p1, bnd2S, k_count3 h1, bndS, if_pos rfl, bndS, ez, bndS, el, bndS]
  rw [show (0 : Int32) = nI 0 from rfl, takes_l (L := L) (xs := xs) (a5 := nI cs.length) hd h1 hT n 0 FU (by omega) (lt_FU (by omega))]
  unfold s_L_law_735
  exact alone_l (n := n) (w := w) (cs := cs) h0 hT (fun x8 RS RA σ h h8 => seg802 hL h0 hn5 hT h8 (fun RS RA A σ h => seg1165 hL h0 hn5 hT hX h) h) n 0 FU false _ _ σ1 (by omega) (lt_FU (by omega)) h1 (fun z => absurd z (by decide))
end MHH
