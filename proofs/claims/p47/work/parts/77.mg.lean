/-! by how many taps it took: the four pairs, and the end -/
section MGG
variable {n : Nat} {w : Nat → Int32} {cs : List Nat} {kc : Option (List Nat)} {U V : Int64} {T X Y : Nat → Int32}
def Pairs (k : Nat) (kd f : Int32) (RS : Nat → Int32) (RA : Nat → Nat → Int32) : Prop := RS 5 = nI 8 ∧ ∀ j, j < k → ∃ d, d < 100 ∧ RA 5 (2 * j) = nI d ∧ RA 5 (2 * j + 1) = tookV kd (nI d) f
theorem took9 : ∀ k < 6, ∀ d < 100, ∀ f < 2, inV (tookV (nI k) (nI d) (nI f)) 0 9 = true := by decide +kernel
theorem tookI : ∀ k < 6, ∀ d < 100, ∀ f < 2, (if (0 : Int32) ≤ tapsV (nI k) (nI d) (nI f) then tapsV (nI k) (nI d) (nI f) else 0) = tookV (nI k) (nI d) (nI f) := by decide +kernel
theorem upd_self9 (g : Nat → Int32) (k : Nat) (x : Int32) : upd g k x k = x := if_pos rfl
theorem upd_ne9 (g : Nat → Int32) {k j : Nat} (x : Int32) (h : j ≠ k) : upd g k x j = g j := if_neg h
set_option maxHeartbeats 4000000 in
theorem pairs_l {L : Nat} {xs : Nat → Int32} {a5 : Int32} {K : Sg → Option Bool} {i : Nat} (hL : L ≤ 260) (hi : i < n)
    (hK : ∀ RS RA A σ, IW n w cs kc RS RA A U V T X Y σ → Pairs 4 (run n (iniV w) cs (23 + i)) (run n (iniV w) cs 3) RS RA → K σ = some true) :
    ∀ r m N RS RA A σ, m + r = 4 → r < N → IW n w cs kc RS RA A U V T X Y σ → Pairs m (run n (iniV w) cs (23 + i)) (run n (iniV w) cs 3) RS RA → l_L_law_1717 L xs a5 (nI i) K N (nI m) σ = some true := by
  intro r
  induction r with
  | zero =>
    intro m N RS RA A σ hm hN h hP
    obtain ⟨N, rfl⟩ : ∃ k, N = k + 1 := ⟨N - 1, by omega⟩
    obtain rfl : m = 4 := hm
    unfold l_L_law_1717
    rw [if_pos (by decide)]
    exact hK RS RA A σ h hP
  | succ r ih =>
    intro m N RS RA A σ hm hN h hP
    obtain ⟨N, rfl⟩ : ∃ k, N = k + 1 := ⟨N - 1, by omega⟩
    have hv := h.vw
    obtain ⟨f, hf, ef⟩ := f2 hv.1
    obtain ⟨k, hk, ek⟩ := (hv.2.2.2.2.2.2 i hi).1
    have ez : f_L_cell L xs ((26 : Int32) + nI m) σ = some (cellV L xs (26 + m)) := by rw [show (26 : Int32) + nI m = nI (26 + m) from nI_add 26 m]; exact cell_v hL (by omega) σ
    generalize cellV L xs (26 + m) = z at ez
    have el : f_L_low z (100 : Int32) = some (nI (lowK z % 100)) := low_v z (m := 100) (by decide) (by decide)
    have hd := Nat.mod_lt (lowK z) (show 100 > 0 by decide)
    generalize lowK z % 100 = d at el hd
    have et := k_takes h hi hd
    rw [ek, ef] at et
    obtain ⟨p1, p2⟩ := hP
    obtain ⟨σ1, l1, h1⟩ := k_lay h (r := 5) (i := 2 * m) (m := 8) (by decide) p1 (by decide) (by omega) (nI d)
    obtain ⟨σ2, l2, h2⟩ := k_lay h1 (r := 5) (i := 2 * m + 1) (m := 8) (by decide) (va_up_self _ _ _) (by decide) (by omega) (tookV (nI k) (nI d) (nI f))
    have e2 : (2 : Int32) * nI m = nI (2 * m) := nImul 2 m
    have l1 : f_X5_lay (5 : Int32) (nI (2 * m)) (nI d) σ = some (1, σ1) := l1
    have l2 : f_X5_lay (5 : Int32) (nI (2 * m + 1)) (tookV (nI k) (nI d) (nI f)) σ1 = some (1, σ2) := l2
    have htk : ∀ F : Int32 → Option Bool, (nm F (fun k1783 => (if (0 : Int32) ≤ tapsV (nI k) (nI d) (nI f) then k1783 (tapsV (nI k) (nI d) (nI f)) else k1783 (0 : Int32)))) = F (tookV (nI k) (nI d) (nI f)) := fun F => by
      rw [nmE, ← tookI k hk d hd f hf]
      split <;> rfl
    conv => lhs; unfold l_L_law_1717
    rw [if_neg (show ¬ (4 : Int32) ≤ nI m from nI_ge (b := 4) (by omega) (by decide)), ez, bndS, el, bndS, et, bndS, e2, l1, bnd2S, if_pos rfl, htk, nI_1, l2, bnd2S, if_pos rfl, nmE, nI_1]
    refine ih (m + 1) N _ _ _ σ2 (by omega) (by omega) h2 ⟨va_up_self _ _ _, fun j hj => ?_⟩
    rw [va_up_self, va_up_self]
    by_cases ejm : j = m
    · subst ejm
      refine ⟨d, hd, ?_, ?_⟩
      · rw [upd_ne9 _ _ (by omega), upd_self9]
      · rw [upd_self9, ek, ef]
    · obtain ⟨d', hd', a1, a2⟩ := p2 j (by omega)
      refine ⟨d', hd', ?_, ?_⟩
      · rw [upd_ne9 _ _ (by omega), upd_ne9 _ _ (by omega)]; exact a1
      · rw [upd_ne9 _ _ (by omega), upd_ne9 _ _ (by omega)]; exact a2
theorem part_pos {S f d : Int32} {a : Nat} (ha : a < 6) (h : hoV S a = true) : ∃ k, 1 ≤ k ∧ k ≤ 6 ∧ partV S f d a = nI k := by
  have := fo_ind (g := fun b x => x + b2i (hoV S b && decide (tookV (nI b) d f = tookV (nI a) d f))) (I := fun j x => ∃ k, k ≤ j ∧ (a < j → 1 ≤ k) ∧ x = nI k) 6 0 0 (fun b x _ _ hx => by
    obtain ⟨k, k1, k2, e⟩ := hx
    cases hb : (hoV S b && decide (tookV (nI b) d f = tookV (nI a) d f))
    · refine ⟨k, by omega, fun hab => ?_, by rw [e]; exact Int32.add_zero _⟩
      by_cases eab : a = b
      · subst eab
        rw [h, Bool.true_and, decide_eq_true rfl] at hb
        exact absurd hb (by decide)
      · exact k2 (by omega)
    · exact ⟨k + 1, by omega, fun _ => by omega, by rw [e]; exact nI_1 k⟩) ⟨0, by omega, fun z => absurd z (by omega), rfl⟩
  obtain ⟨k, k1, k2, e⟩ := this
  exact ⟨k, k2 (by omega), by omega, e⟩
theorem most_pos {S f d : Int32} {a : Nat} (ha : a < 6) (h : hoV S a = true) : ∃ k, 1 ≤ k ∧ k ≤ 6 ∧ mostV S f d = nI k := by
  have := fo_ind (g := fun a x => if hoV S a then mmax x (partV S f d a) else x) (I := fun j x => ∃ k, k ≤ 6 ∧ (a < j → 1 ≤ k) ∧ x = nI k) 6 0 0 (fun b x _ hb6 hx => by
    obtain ⟨k, k1, k2, e⟩ := hx
    cases hb : hoV S b
    · refine ⟨k, k1, fun hab => ?_, by rw [e]; rfl⟩
      by_cases eab : a = b
      · subst eab; rw [h] at hb; exact absurd hb (by decide)
      · exact k2 (by omega)
    · obtain ⟨q, q1, q2, q3⟩ := part_pos (f := f) (d := d) (show b < 6 by omega) hb
      exact ⟨max k q, by omega, fun _ => by omega, by rw [e, q3]; exact mmax_n (by omega) (by omega)⟩) ⟨0, by omega, fun z => absurd z (by omega), rfl⟩
  obtain ⟨k, k1, k2, e⟩ := this
  exact ⟨k, k2 (by omega), k1, e⟩
theorem best_is (G : Nat → Int32) : ∃ e, e < 100 ∧ bestD G = (nI e, G e) := by
  have := fo_ind (g := fun d (a : Int32 × Int32) => if a.2 ≤ G d then a else (nI d, G d)) (I := fun _ a => ∃ e, e < 100 ∧ a = (nI e, G e)) 99 1 (0, G 0) (fun d a _ hd ha => by
    split
    · exact ha
    · exact ⟨d, by omega, rfl⟩) ⟨0, by decide, rfl⟩
  exact this
set_option maxHeartbeats 4000000 in
theorem seg1798 {L : Nat} {xs : Nat → Int32} {i : Nat} (hi : i < n) (hT : TR n w T) (hX : XR n (run n (iniV w) cs) X) {RS : Nat → Int32} {RA : Nat → Nat → Int32} {A : Int32} {σ : Sg} (h : IW n w cs (some cs) RS RA A U V T X Y σ) (hP : Pairs 4 (run n (iniV w) cs (23 + i)) (run n (iniV w) cs 3) RS RA) : s_L_law_1798 L xs (nI cs.length) (nI i) σ = some true := by
  have hn := h.n6
  have hv := h.vw
  have hw : ∀ k, 23 ≤ k → run n (iniV w) cs k = w k := fun k hk => run_stat h.stw hk h.cok.1 h.cok.2
  obtain ⟨f, hf, ef⟩ := f2 hv.1
  obtain ⟨k, hk, ek⟩ := (hv.2.2.2.2.2.2 i hi).1
  obtain ⟨p1, p2⟩ := hP
  rw [ek, ef] at p2
  have hpb : al (pairB (RA 5)) 0 4 = true := al_mk 4 0 (fun j _ hj => by
    obtain ⟨d, hd, a1, a2⟩ := p2 j (by omega)
    unfold pairB
    rw [a1, a2, took9 k hk d hd f hf, show inV (nI d) 0 99 = true from inV_t (b := 99) (by omega) (by decide)]
    rfl)
  have hcb : canB (RA 5) 4 (nI k) (nI f) = true := by
    unfold canB
    exact al_mk 4 0 (fun j _ hj => by
      obtain ⟨d, hd, a1, a2⟩ := p2 j (by omega)
      unfold tookB
      rw [a1, a2]
      exact decide_eq_true rfl)
  have q1 := k_whose h (r := 5) (m := 4) (it := RA 5) (by decide) p1 (by decide) (fun _ _ => rfl) hpb
  have q2 := k_kinds h (r := 5) (m := 4) (it := RA 5) (by decide) p1 (by decide) (fun _ _ => rfl) hpb
  have q1 : f_X5_whose (5 : Int32) σ = _ := q1
  have q2 : f_X5_kinds (5 : Int32) σ = _ := q2
  have b1 : (bsN (fun i => canB (RA 5) 4 (run n (iniV w) cs (23 + i)) (run n (iniV w) cs 3)) n).testBit i = true := by rw [bsN_bit _ n hn i hi, ek, ef]; exact hcb
  have b2 : (bsN (fun k => canB (RA 5) 4 (nI k) (run n (iniV w) cs 3)) 6).testBit k = true := by rw [bsN_bit _ 6 (by decide) k hk, ef]; exact hcb
  have s64 := bsN_64 (fun k => canB (RA 5) 4 (nI k) (run n (iniV w) cs 3)) (Nat.le_refl 6)
  have hpos : 0 < bsN (fun k => canB (RA 5) 4 (nI k) (run n (iniV w) cs 3)) 6 := by
    by_cases e : bsN (fun k => canB (RA 5) 4 (nI k) (run n (iniV w) cs 3)) 6 = 0
    · rw [e, Nat.zero_testBit] at b2
      exact absurd b2 (by decide)
    · omega
  have q3 := k_test h (r := 5) (m := 4) (it := RA 5) (by decide) p1 (by decide) (fun _ _ => rfl) hpb rfl hpos
  have q3 : f_X5_test (5 : Int32) σ = _ := q3
  obtain ⟨e, he, ee⟩ := best_is (fun d => mostV (nI (bsN (fun k => canB (RA 5) 4 (nI k) (run n (iniV w) cs 3)) 6)) (run n (iniV w) cs 3) (nI d))
  obtain ⟨g, g1, g2, g3⟩ := most_pos (S := nI (bsN (fun k => canB (RA 5) 4 (nI k) (run n (iniV w) cs 3)) 6)) (f := run n (iniV w) cs 3) (d := nI e) hk (by rw [hoB _ s64 k hk]; exact b2)
  rw [ee] at q3
  dsimp only at q3
  rw [g3] at q3
  have h1 := h.tells (nI g)
  obtain ⟨σ2, o1, o2⟩ := k_on h1
  obtain ⟨A3, σ3, t1, t2⟩ := same_v o2 (g := 42) (Or.inl rfl) hT hX
  have n2 : (2 : Int32) + nI i = nI (2 + i) := nI_add 2 i
  have j2 : inB (nI (2 + i)) (cLen 41) = true := inB_nI (by rw [c41]; omega) (by decide)
  have k2 : (nI (2 + i)).toNatClampNeg = 2 + i := nI_clamp (by omega)
  have r2 : gA σ 41 (2 + i) = nI k := by rw [h.t, (hT.2.2 i hi).1, ← hw _ (by omega), ek]
  unfold s_L_law_1798
  rw [q1, bnd2S, has_v _ (bsN_64 _ hn) i (by omega), bndS, b1, bfT, q2, bnd2S, n2, j2, ckT, k2, r2, has_v _ s64 k hk, bndS, b2, bfT, q3, bnd2S, if_neg (nI_pos (by omega)), asked_p, bndS, if_neg (show ¬ nI g ≤ (0 : Int32) from nI_ge (a := 0) (by omega) (by omega)), bndS, if_neg (show ¬ (7 : Int32) ≤ nI g from nI_ge (b := 7) (by omega) (by decide)), o1, bnd2S, if_pos rfl, t1, bnd2S, bfT]
theorem seg1700 {L : Nat} {xs : Nat → Int32} {i : Nat} (hL : L ≤ 260) (hi : i < n) (hT : TR n w T) (hX : XR n (run n (iniV w) cs) X) {RS : Nat → Int32} {RA : Nat → Nat → Int32} {A : Int32} {σ : Sg} (h : IW n w cs (some cs) RS RA A U V T X Y σ) : s_L_law_1700 L xs (nI cs.length) (nI i) σ = some true := by
  obtain ⟨σ1, p1, h1⟩ := k_row h (r := 5) (m := 8) (by decide) (by decide)
  have p1 : f_X5_row (5 : Int32) (8 : Int32) σ = some (nI 8, σ1) := p1
  unfold s_L_law_1700
  rw [p1, bnd2S, if_pos (show nI 8 = (8 : Int32) from rfl)]
  exact pairs_l hL hi (fun RS RA A σ h hP => seg1798 hi hT hX h hP) 4 0 FU _ _ _ σ1 (by decide) (lt_FU (by decide)) h1 ⟨va_up_self _ _ _, fun j hj => absurd hj (by omega)⟩
end MGG
