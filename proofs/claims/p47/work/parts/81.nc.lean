theorem fill10 {L : Nat} {xs : Nat → Int32} {a2 a3 a6 : Int32} {b4 : Nat} {K : Sg → Option (Bool × Sg)} {σ : Sg} : l_L_built_10 L xs a2 a3 b4 42 a6 K FU 0 σ = K (pA σ 42 (fun x => if x < 23 then (if 17 ≤ x then -9 else 0) else gA σ 42 x)) := by
  have := (loopL (fun N j σ => l_L_built_10 L xs a2 a3 b4 42 a6 K N (nI j) σ) K (fun j (σ : Sg) => pA σ 42 (upd (gA σ 42) j (if 17 ≤ j then -9 else 0))) 23 (fun j σ' => σ' = pA σ 42 (fun x => if x < j then (if 17 ≤ x then -9 else 0) else gA σ 42 x))
    (fun N σ' _ => by
      show l_L_built_10 L xs a2 a3 b4 42 a6 K (N + 1) (nI 23) σ' = _
      unfold l_L_built_10
      rw [if_pos (by decide)])
    (fun N j σ' hj hI => by
      refine ⟨?_, ?_⟩
      · show l_L_built_10 L xs a2 a3 b4 42 a6 K (N + 1) (nI j) σ' = _
        conv => lhs; unfold l_L_built_10
        rw [show (23 : Int32) = nI 23 from rfl, if_neg (nI_ge hj (by omega)), inB_nI (by rw [c42]; omega) (by rw [c42]; decide), nI_clamp (by omega)]
        have e17 : ((17 : Int32) ≤ nI j) = (17 ≤ j) := nIle (a := 17) (by decide) (by omega)
        simp only [ckT, bfT, bfF, bndS, bnd2S, nmE, nI_1, e17]
        split <;> rfl
      · rw [hI, pA_pA, gA_same]
        congr 1
        funext x
        unfold upd
        dsimp only
        by_cases e : x = j
        · subst e; rw [if_pos rfl, if_pos (show x < x + 1 by omega)]
        · rw [if_neg e]
          by_cases e2 : x < j
          · rw [if_pos e2, if_pos (show x < j + 1 by omega)]
          · rw [if_neg e2, if_neg (show ¬ x < j + 1 by omega)])
    23 0 FU σ (by omega) (lt_FU (by omega)) (by
      rw [show (fun x => if x < 0 then (if 17 ≤ x then (-9 : Int32) else 0) else gA σ 42 x) = gA σ 42 from funext fun x => by rw [if_neg (by omega)], pA_self]))
  refine this.1.trans ?_
  rw [this.2]
set_option maxHeartbeats 4000000 in
theorem head_l {L : Nat} {xs : Nat → Int32} {σ : Sg} (hR : ∀ k, gR σ k = gR sgC0 k) (h18 : gS σ (16 * 18 + 1) = nI 6) (h42 : ∀ k, k < 23 → gA σ 42 k = if 17 ≤ k then -9 else 0) : ∃ σ', s_L_built_41 L xs 0 5 41 42 (zB L xs) σ = l_L_built_198 L xs 0 41 42 (fun (v7_407 : Bool) (σv407 : Sg) => s_L_built_407 L xs 41 v7_407 σv407) FU true (nI (peB L xs 0)) (nI 0) σ' ∧ BI L xs 0 σ' := by
  have hn := nnV_r (zB L xs)
  have ha := a0V_r (zB L xs)
  have hq := qqV_r (zB L xs)
  have hf := ffV_r (zB L xs)
  unfold s_L_built_41
  rw [lw2, bndS, quarB, low_v _ (qmV_r _).1 (Nat.lt_of_le_of_lt (qmV_r _).2 (by decide)), bndS, show inB (0 : Int32) (cLen 41) = true from by decide, ckT, cl0, nmE]
  obtain ⟨σ1, q1⟩ : ∃ x, x = pA σ 41 (upd (gA σ 41) 0 (nI (qqV (zB L xs)))) := ⟨_, rfl⟩
  rw [show pA σ 41 (upd (gA σ 41) 0 (nI (lowK (zB L xs) % qmV (zB L xs)))) = σ1 from q1.symm, lw5, bndS, show inB (1 : Int32) (cLen 41) = true from by decide, ckT, cl1, show (1 : Int32) + nI (lowK (zB L xs >>> ((7 : Int32) &&& 31)) % 5) = nI (nnV (zB L xs)) from nI_add 1 _, nmE]
  obtain ⟨σ2, q2⟩ : ∃ x, x = pA σ1 41 (upd (gA σ1 41) 1 (nI (nnV (zB L xs)))) := ⟨_, rfl⟩
  rw [← q2, lw2, bndS, show inB (3 : Int32) (cLen 42) = true from by decide, ckT, cl3, nmE]
  obtain ⟨σ3, q3⟩ : ∃ x, x = pA σ2 42 (upd (gA σ2 42) 3 (nI (ffV (zB L xs)))) := ⟨_, rfl⟩
  rw [show pA σ2 42 (upd (gA σ2 42) 3 (nI (lowK (zB L xs >>> ((10 : Int32) &&& 31)) % 2))) = σ3 from q3.symm]
  have et : f_X5_text 3 50 σ3 = some (50, pA (pS σ3 (16 * 14 + 1) (nI 50)) 14 (fun i => if i < 50 then 32 else gA σ3 14 i)) := by
    unfold f_X5_text
    rw [show f_X5_pick 72 (3 : Int32) = some (some 14) from pick_i (q := 72) (r := 3) (by decide), bndS, ocS, if_pos (by decide), if_pos (by decide), show f_X0_fill 14 (50 : Int32) 32 σ3 = _ from X0_fill_i (q := 14) (k := 50) (by decide), bndS]
  obtain ⟨σ4, q4⟩ : ∃ x, x = pA (pS σ3 (16 * 14 + 1) (nI 50)) 14 (fun i => if i < 50 then 32 else gA σ3 14 i) := ⟨_, rfl⟩
  rw [← q4] at et
  have f41 : gA σ4 41 = upd (upd (gA σ 41) 0 (nI (qqV (zB L xs)))) 1 (nI (nnV (zB L xs))) := by
    rw [q4, gA_ne _ _ (by decide), gA_pS, q3, gA_ne _ _ (by decide), q2, gA_same, q1, gA_same]
  have f42 : gA σ4 42 = upd (gA σ 42) 3 (nI (ffV (zB L xs))) := by
    rw [q4, gA_ne _ _ (by decide), gA_pS, q3, gA_same, q2, gA_ne _ _ (by decide), q1, gA_ne _ _ (by decide)]
  have f14 : ∀ j, j < 50 → gA σ4 14 j = 32 := fun j hj => by rw [q4, gA_same]; exact if_pos hj
  have fS : gS σ4 (16 * 14 + 1) = nI 50 := by rw [q4, gS_pA, gS_same]
  have f18 : gS σ4 (16 * 18 + 1) = nI 6 := by
    rw [q4, gS_pA, gS_ne _ _ (by decide), q3, gS_pA, q2, gS_pA, q1, gS_pA]; exact h18
  have fR : ∀ k, gR σ4 k = gR sgC0 k := fun k => by
    rw [← hR k, q4, q3, q2, q1]; rfl
  clear q4 q3 q2 q1
  rw [et, bnd2S, nmE, if_pos rfl]
  simp only [lw3, bndS, nmE, bfT]
  obtain ⟨σa, a1, a2, a3, a4⟩ := put_e (σ := σ4) (p := a0V (zB L xs)) (c := 115) fS (by omega) (f14 _ (by omega)) (by decide)
  obtain ⟨σb, b1, b2, b3, b4⟩ := put_e (σ := σa) (p := a0V (zB L xs) + 1) (c := 48 + ffV (zB L xs)) ((a2.1 _).trans fS) (by omega) ((a4 _ (by omega)).trans (f14 _ (by omega))) (by omega)
  obtain ⟨σc, c1, c2, c3, c4⟩ := fig_e (σ := σb) (p := a0V (zB L xs) + 2) (d := qqV (zB L xs)) ((b2.1 _).trans ((a2.1 _).trans fS)) (by omega) ((b4 _ (by omega)).trans ((a4 _ (by omega)).trans (f14 _ (by omega)))) ((b4 _ (by omega)).trans ((a4 _ (by omega)).trans (f14 _ (by omega)))) hq
  have g3 : gA σa 42 3 = nI (ffV (zB L xs)) := by rw [a2.2.1 42 (by decide), f42, upd_self9]
  have g0 : gA σb 41 0 = nI (qqV (zB L xs)) := by rw [b2.2.1 41 (by decide), a2.2.1 41 (by decide), f41, upd_ne9 _ _ (by decide), upd_self9]
  have a1' : f_X5_put 3 (nI (lowK (zB L xs >>> ((11 : Int32) &&& 31)) % 3)) (115 : Int32) σ4 = some (1032, σa) := a1
  have b1' : f_X5_put 3 (nI (lowK (zB L xs >>> ((11 : Int32) &&& 31)) % 3 + 1)) (nI (48 + ffV (zB L xs))) σa = some (1032, σb) := b1
  have c1' : f_L_figures 3 (nI (lowK (zB L xs >>> ((11 : Int32) &&& 31)) % 3) + (2 : Int32)) (nI (qqV (zB L xs))) σb = some (true, σc) := by
    rw [show nI (lowK (zB L xs >>> ((11 : Int32) &&& 31)) % 3) + (2 : Int32) = nI (a0V (zB L xs) + 2) from nI_add _ 2]; exact c1
  rw [a1', bnd2S, if_pos rfl, ckT, g3, show (48 : Int32) + nI (ffV (zB L xs)) = nI (48 + ffV (zB L xs)) from nI_add 48 _, nI_1, b1', bnd2S, if_pos rfl, ckT, g0, c1', bnd2S, bfT]
  have e14 : ∀ j, j ≠ a0V (zB L xs) → j ≠ a0V (zB L xs) + 1 → j ≠ a0V (zB L xs) + 2 → j ≠ a0V (zB L xs) + 2 + 1 → gA σc 14 j = gA σ4 14 j := fun j j0 j1 j2 j3 => (c4 j j2 j3).trans ((b4 j j1).trans (a4 j j0))
  refine ⟨σc, ?_, fun k => (c2.2.2 k).trans ((b2.2.2 k).trans ((a2.2.2 k).trans (fR k))), (c2.1 _).trans ((b2.1 _).trans ((a2.1 _).trans f18)), (c2.1 _).trans ((b2.1 _).trans ((a2.1 _).trans fS)), ⟨fun j hj => (e14 j (by omega) (by omega) (by omega) (by omega)).trans (f14 j (by omega)), (c4 _ (by omega) (by omega)).trans ((b4 _ (by omega)).trans a3), (c4 _ (by omega) (by omega)).trans b3, c3⟩, fun i hi => absurd hi (by omega), fun j h1 h2 => ?_, ⟨?_, ?_, fun i hi => absurd hi (by omega)⟩, fun k hk => ?_⟩
  · skip
    rw [show nI (lowK (zB L xs >>> ((11 : Int32) &&& 31)) % 3) + (4 : Int32) = nI (peB L xs 0) from nI_add _ 4]
    rfl
  · have h1 : a0V (zB L xs) + 4 ≤ j := h1
    exact (e14 j (by omega) (by omega) (by omega) (by omega)).trans (f14 j h2)
  · rw [c2.2.1 41 (by decide), b2.2.1 41 (by decide), a2.2.1 41 (by decide), f41, upd_ne9 _ _ (by decide), upd_self9]
  · rw [c2.2.1 41 (by decide), b2.2.1 41 (by decide), a2.2.1 41 (by decide), f41, upd_self9]
  · rw [c2.2.1 42 (by decide), b2.2.1 42 (by decide), a2.2.1 42 (by decide), f42]
    by_cases e3 : k = 3
    · subst e3; rw [upd_self9, if_pos rfl]
    · rw [upd_ne9 _ _ e3, h42 k hk, if_neg e3, if_neg (show ¬ (5 ≤ k ∧ k < 5 + 0) by omega)]
/-- the street as the script says it -/
def wB (L : Nat) (xs : Nat → Int32) : Nat → Int32 := fun k => if 37 ≤ k then nI (ddV (yB L xs (k - 37))) else if k = 36 then nI (ffV (zB L xs)) else if k = 35 then nI (qqV (zB L xs)) else if 29 ≤ k then nI (xxV (yB L xs (k - 29))) else nI (kkV (yB L xs (k - 23)))
theorem wB35 (L : Nat) (xs : Nat → Int32) : wB L xs 35 = nI (qqV (zB L xs)) := rfl
theorem wB36 (L : Nat) (xs : Nat → Int32) : wB L xs 36 = nI (ffV (zB L xs)) := rfl
theorem wBi (L : Nat) (xs : Nat → Int32) {i : Nat} (hi : i < 6) : wB L xs (23 + i) = nI (kkV (yB L xs i)) ∧ wB L xs (37 + i) = nI (ddV (yB L xs i)) ∧ wB L xs (29 + i) = nI (xxV (yB L xs i)) := by
  unfold wB
  refine ⟨?_, ?_, ?_⟩
  · rw [if_neg (by omega), if_neg (by omega), if_neg (by omega), if_neg (by omega), show 23 + i - 23 = i by omega]
  · rw [if_pos (by omega), show 37 + i - 37 = i by omega]
  · rw [if_neg (by omega), if_neg (by omega), if_neg (by omega), if_pos (by omega), show 29 + i - 29 = i by omega]
theorem wB_st (L : Nat) (xs : Nat → Int32) : STW (nnV (zB L xs)) (wB L xs) := by
  have hn := nnV_r (zB L xs)
  have hf := ffV_r (zB L xs)
  refine ⟨by omega, ?_, ⟨_, qqV_r _, wB35 L xs⟩, fun i hi => ?_⟩
  · rw [wB36]
    rcases (show ffV (zB L xs) = 0 ∨ ffV (zB L xs) = 1 by omega) with e | e
    · left; rw [e]; rfl
    · right; rw [e]; rfl
  · obtain ⟨a, b, c⟩ := wBi L xs (show i < 6 by omega)
    exact ⟨⟨_, kkV_r _, a⟩, ⟨_, xxV_r _, c⟩, _, ddV_r _, b⟩
theorem BI.read {L : Nat} {xs : Nat → Int32} {σ : Sg} {g : Nat} (hg : isS g) (hB : BI L xs (nnV (zB L xs)) σ) : ∃ σ', f_X2_read 14 g σ = some (-9, σ') ∧ FrG g σ σ' ∧ gR σ' 2 = 14 ∧ DS g (nnV (zB L xs)) (wB L xs) σ' := by
  have hn := nnV_r (zB L xs)
  have hl := peB_le L xs (nnV (zB L xs))
  obtain ⟨b1, b2, b3, b4, b5, b6, -, -⟩ := hB
  exact read_C (t := 3) (m := 50) (tx := gA σ 14) (kk := fun i => kkV (yB L xs i)) (dd := fun i => ddV (yB L xs i)) (xx := fun i => xxV (yB L xs i)) (ga := fun i => gaV (yB L xs i)) hg (by decide) (by decide) b3 (fun _ _ => rfl) hn.1 (by omega) (fun _ => kkV_r _) (fun _ => ddV_r _) (fun _ => xxV_r _) (fun _ => gaV_r _) (a0V_r _) (ffV_r _) (qqV_r _) b4 b5 b6 (show peB L xs (nnV (zB L xs)) ≤ 50 by omega) (wB35 L xs) (wB36 L xs) (fun i hi => wBi L xs (by omega))
