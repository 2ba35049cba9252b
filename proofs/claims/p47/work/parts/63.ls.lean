section LSS
variable {n : Nat} {w : Nat → Int32} {cs : List Nat} {kc : Option (List Nat)} {RS : Nat → Int32} {RA : Nat → Nat → Int32} {A : Int32} {U V : Int64} {T X Y : Nat → Int32} {σ : Sg} {g : Nat}
theorem tell0 (v : Nat → Int32) (i : Nat) : tellV v i (nI 0) = v (23 + i) := by unfold tellV; rw [if_pos (by decide)]
theorem tell1 (v : Nat → Int32) (i : Nat) : tellV v i (nI 1) = v (5 + i) := by unfold tellV; rw [if_neg (by decide), if_pos (by decide)]
theorem tell2 (v : Nat → Int32) (i : Nat) : tellV v i (nI 2) = v (29 + i) := by unfold tellV; rw [if_neg (by decide), if_neg (by decide), if_pos (by decide)]
theorem tell3 (v : Nat → Int32) (i : Nat) : tellV v i (nI 3) = v (11 + i) := by unfold tellV; rw [if_neg (by decide), if_neg (by decide), if_neg (by decide), if_pos (by decide)]
theorem tell4 (v : Nat → Int32) (i : Nat) : tellV v i (nI 4) = v (17 + i) := by unfold tellV; rw [if_neg (by decide), if_neg (by decide), if_neg (by decide), if_neg (by decide), if_pos (by decide)]
theorem tell5 (v : Nat → Int32) (i : Nat) : tellV v i (nI 5) = moreV v i := by unfold tellV; rw [if_neg (by decide), if_neg (by decide), if_neg (by decide), if_neg (by decide), if_neg (by decide)]
theorem hou (h : IW n w cs kc RS RA A U V T X Y σ) {i c : Nat} (hi : i < n) (hc : c < 6) (a : Int32) : f_X5_house (nI i) (nI c) (pS σ 9 a) = some (1, pS σ 9 (tellV (run n (iniV w) cs) i (nI c))) := by
  rw [k_house (h.tells a) hi hc, pS_pS]
theorem asked_p (σ : Sg) (a : Int32) : f_X5_asked (pS σ 9 a) = some a := by unfold f_X5_asked; rw [gS_same]
theorem isof1 : ∀ k < 6, isOfV (nI k) 1 = decide (nI k = 1 ∨ nI k = 4) := by decide
theorem isof2 : ∀ k < 6, isOfV (nI k) 2 = decide (nI k = 2 ∨ nI k = 5) := by decide
set_option maxHeartbeats 4000000 in
theorem same_l {K : Int32 → Int32 → Bool → Sg → Option (Bool × Sg)} (hg : isG g) (hT : TR n w T) (hX : XR n (run n (iniV w) cs) (gZ g X Y)) : ∀ m j N x3 x4 A σ, j + m = n → m < N → IW n w cs kc RS RA A U V T X Y σ → ∃ A' σ', IW n w cs kc RS RA A' U V T X Y σ' ∧ l_L_same_107 41 g K N x3 x4 true (nI j) σ = K (fo (fun i x => x + b2i (isOfV (run n (iniV w) cs (23 + i)) 1)) j m x3) (fo (fun i x => x + b2i (isOfV (run n (iniV w) cs (23 + i)) 2)) j m x4) true σ' := by
  intro m
  induction m with
  | zero =>
    intro j N x3 x4 A σ hj hN h
    obtain ⟨N, rfl⟩ : ∃ k, N = k + 1 := ⟨N - 1, by omega⟩
    have hn := h.n6
    refine ⟨A, σ, h, ?_⟩
    unfold l_L_same_107
    rw [show inB (1 : Int32) (cLen 41) = true by decide, ckT, cl1, h.t, hT.2.1, show j = n by omega, if_pos (nI_le (Nat.le_refl _) (by omega))]
    rfl
  | succ m ih =>
    intro j N x3 x4 A σ hj hN h
    obtain ⟨N, rfl⟩ : ∃ k, N = k + 1 := ⟨N - 1, by omega⟩
    have hn := h.n6
    have hv := h.vw
    have hjn : j < n := by omega
    have hw : ∀ k, 23 ≤ k → run n (iniV w) cs k = w k := fun k hk => run_stat h.stw hk h.cok.1 h.cok.2
    have h41 := h.t
    have hT' : TR n w (gA σ 41) := by rw [h41]; exact hT
    have hX' : XR n (run n (iniV w) cs) (gA σ g) := by rw [h.rd hg]; exact hX
    have r1 : gA σ 41 1 = nI n := hT'.2.1
    have r2 : gA σ 41 (2 + j) = run n (iniV w) cs (23 + j) := by rw [(hT'.2.2 j hjn).1, hw _ (by omega)]
    have r8 : gA σ 41 (8 + j) = run n (iniV w) cs (29 + j) := by rw [(hT'.2.2 j hjn).2, hw _ (by omega)]
    obtain ⟨r5, r11, r17⟩ := hX'.2.1 j hjn
    have hm : ∀ a, f_L_more 41 g (nI j) (pS σ 9 a) = some (moreV (run n (iniV w) cs) j) := fun a => lmore_v (σ := pS σ 9 a) hg hT' hX' hv hw hn hjn
    have q0 : f_X5_house (nI j) (0 : Int32) σ = some (1, pS σ 9 (run n (iniV w) cs (23 + j))) := by have := k_house h hjn (c := 0) (by decide); rw [tell0] at this; exact this
    have q1 : ∀ a, f_X5_house (nI j) (1 : Int32) (pS σ 9 a) = some (1, pS σ 9 (run n (iniV w) cs (5 + j))) := fun a => by have := hou h hjn (c := 1) (by decide) a; rw [tell1] at this; exact this
    have q2 : ∀ a, f_X5_house (nI j) (2 : Int32) (pS σ 9 a) = some (1, pS σ 9 (run n (iniV w) cs (29 + j))) := fun a => by have := hou h hjn (c := 2) (by decide) a; rw [tell2] at this; exact this
    have q3 : ∀ a, f_X5_house (nI j) (3 : Int32) (pS σ 9 a) = some (1, pS σ 9 (run n (iniV w) cs (11 + j))) := fun a => by have := hou h hjn (c := 3) (by decide) a; rw [tell3] at this; exact this
    have q4 : ∀ a, f_X5_house (nI j) (4 : Int32) (pS σ 9 a) = some (1, pS σ 9 (run n (iniV w) cs (17 + j))) := fun a => by have := hou h hjn (c := 4) (by decide) a; rw [tell4] at this; exact this
    have q5 : ∀ a, f_X5_house (nI j) (5 : Int32) (pS σ 9 a) = some (1, pS σ 9 (moreV (run n (iniV w) cs) j)) := fun a => by have := hou h hjn (c := 5) (by decide) a; rw [tell5] at this; exact this
    have n2 : (2 : Int32) + nI j = nI (2 + j) := nI_add 2 j
    have n5 : (5 : Int32) + nI j = nI (5 + j) := nI_add 5 j
    have n8 : (8 : Int32) + nI j = nI (8 + j) := nI_add 8 j
    have n11 : (11 : Int32) + nI j = nI (11 + j) := nI_add 11 j
    have n17 : (17 : Int32) + nI j = nI (17 + j) := nI_add 17 j
    have j2 : inB (nI (2 + j)) 14 = true := inB_nI (by omega) (by decide)
    have j8 : inB (nI (8 + j)) 14 = true := inB_nI (by omega) (by decide)
    have j5 : inB (nI (5 + j)) 23 = true := inB_nI (by omega) (by decide)
    have j11 : inB (nI (11 + j)) 23 = true := inB_nI (by omega) (by decide)
    have j17 : inB (nI (17 + j)) 23 = true := inB_nI (by omega) (by decide)
    have k2 : (nI (2 + j)).toNatClampNeg = 2 + j := nI_clamp (by omega)
    have k8 : (nI (8 + j)).toNatClampNeg = 8 + j := nI_clamp (by omega)
    have k5 : (nI (5 + j)).toNatClampNeg = 5 + j := nI_clamp (by omega)
    have k11 : (nI (11 + j)).toNatClampNeg = 11 + j := nI_clamp (by omega)
    have k17 : (nI (17 + j)).toNatClampNeg = 17 + j := nI_clamp (by omega)
    obtain ⟨A', σ', g1, g2⟩ := ih (j + 1) N (x3 + b2i (isOfV (run n (iniV w) cs (23 + j)) 1)) (x4 + b2i (isOfV (run n (iniV w) cs (23 + j)) 2)) _ (pS σ 9 (moreV (run n (iniV w) cs) j)) (by omega) (by omega) (h.tells _)
    refine ⟨A', σ', g1, ?_⟩
    conv => lhs; unfold l_L_same_107
    rw [show inB (1 : Int32) (cLen 41) = true by decide, ckT, cl1, r1, if_neg (nI_ge hjn (by omega))]
    simp only [c41, cG hg, n2, n5, n8, n11, n17, j2, j5, j8, j11, j17, k2, k5, k8, k11, k17, ckT, nmE, bfT, bndS, bnd2S, gA_pS, r2, r5, r8, r11, r17, q0, q1, q2, q3, q4, q5, asked_p, hm, if_true, nI_1]
    refine Eq.trans ?_ g2
    obtain ⟨k, hk, ek⟩ := (hv.2.2.2.2.2.2 j hjn).1
    rw [ek, isof1 k hk, isof2 k hk]
    by_cases z1 : nI k = 1
    · rw [z1]; rfl
    by_cases z4 : nI k = 4
    · rw [z4]; rfl
    by_cases z2 : nI k = 2
    · rw [z2]; rfl
    by_cases z5 : nI k = 5
    · rw [z5]; rfl
    rw [if_neg z1, if_neg z4, if_neg z2, if_neg z5, decide_eq_false (show ¬ (nI k = 1 ∨ nI k = 4) from fun z => z.elim z1 z4), decide_eq_false (show ¬ (nI k = 2 ∨ nI k = 5) from fun z => z.elim z2 z5)]
theorem same_v (h : IW n w cs kc RS RA A U V T X Y σ) (hg : isG g) (hT : TR n w T) (hX : XR n (run n (iniV w) cs) (gZ g X Y)) : ∃ A' σ', f_L_same 41 g σ = some (true, σ') ∧ IW n w cs kc RS RA A' U V T X Y σ' := by
  have hn := h.n6
  have hv := h.vw
  have hw : ∀ k, 23 ≤ k → run n (iniV w) cs k = w k := fun k hk => run_stat h.stw hk h.cok.1 h.cok.2
  have h41 := h.t
  have hT' : TR n w (gA σ 41) := by rw [h41]; exact hT
  have hX' : XR n (run n (iniV w) cs) (gA σ g) := by rw [h.rd hg]; exact hX
  have r1 : gA σ 41 1 = nI n := hT'.2.1
  have t0 : gA σ 41 0 = run n (iniV w) cs 35 := by rw [hT'.1, hw _ (by omega)]
  have x0 := hX'.1 0 (by decide)
  have x1 := hX'.1 1 (by decide)
  have x2 := hX'.1 2 (by decide)
  have x3 := hX'.1 3 (by decide)
  have x4 := hX'.1 4 (by decide)
  unfold f_L_same
  simp only [c41, cG hg, show inB (0 : Int32) 14 = true by decide, show inB (1 : Int32) 14 = true by decide, show inB (0 : Int32) 23 = true by decide, show inB (1 : Int32) 23 = true by decide, show inB (2 : Int32) 23 = true by decide, show inB (3 : Int32) 23 = true by decide, show inB (4 : Int32) 23 = true by decide, ckT, nmE, bndS, cl0, cl1, cl2, cl3, cl4, r1, t0, x0, x1, x2, x3, x4, k_count0 h, k_count1 h, k_count2 h, k_count4 h, k_count5 h, k_count6 h, k_count7 h, k_count13 h, lawake_v hg hX' hv hn, if_true]
  obtain ⟨A', σ', g1, g2⟩ := same_l (K := (fun (v3_327 : Int32) (v4_327 : Int32) (v5_327 : Bool) (σv327 : Sg) => (bf v5_327
    (bnd (f_X5_count (8 : Int32) σv327) (fun r19 => (if r19 = v3_327 then
    (bnd (f_X5_count (9 : Int32) σv327) (fun r20 => (if r20 = v4_327 then
    (some (true, σv327))
    else
    (some (false, σv327)))))
    else
    (some (false, σv327)))))
    (some (false, σv327))))) hg hT hX n 0 FU 0 0 A σ (by omega) (lt_FU (by omega)) h
  refine ⟨A', σ', g2.trans ?_, g1⟩
  rw [bfT, k_count8 g1, bndS]
  refine (if_pos (by rfl)).trans ?_
  rw [k_count9 g1, bndS]
  exact if_pos (by rfl)
end LSS
