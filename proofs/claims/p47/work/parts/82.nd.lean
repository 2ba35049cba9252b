set_option maxHeartbeats 4000000 in
theorem town_l {L : Nat} {xs : Nat → Int32} {σ : Sg} (hB : BI L xs (nnV (zB L xs)) σ) : ∃ σ1 A U V T X Y RS RA, s_L_built_407 L xs 41 true σ = some (true, σ1) ∧ IW (nnV (zB L xs)) (wB L xs) [] none RS RA A U V T X Y σ1 ∧ TR (nnV (zB L xs)) (wB L xs) T ∧ XR (nnV (zB L xs)) (run (nnV (zB L xs)) (iniV (wB L xs)) []) X := by
  have hn := nnV_r (zB L xs)
  have hB0 := hB
  obtain ⟨b1, b2, b3, b4, b5, b6, ⟨b7, b8, b9⟩, b10⟩ := hB
  have r1 : gR σ 1 = 4 := b1 1
  have r0 : gR σ 0 = 3 := b1 0
  have i4 : isS 4 := Or.inr rfl
  have i3 : isS 3 := Or.inl rfl
  obtain ⟨σ2, x1, x2, x3, x4⟩ := hB0.read i4
  have s5 : ∀ {σ σ' : Sg}, FrG 4 σ σ' → gS σ' (16 * 14 + 1) = gS σ (16 * 14 + 1) := fun f => f.1 _ (by decide) (by decide) (by decide) (by decide) (by decide) (by decide)
  have s8 : ∀ {σ σ' : Sg}, FrG 4 σ σ' → gS σ' (16 * 18 + 1) = gS σ (16 * 18 + 1) := fun f => f.1 _ (by decide) (by decide) (by decide) (by decide) (by decide) (by decide)
  have sA : ∀ {σ σ' : Sg} a, a = 14 ∨ a = 41 ∨ a = 42 → FrG 4 σ σ' → gA σ' a = gA σ a := fun a ha f => by
    rcases ha with e | e | e <;> subst e <;> exact f.2.1 _ (by decide) (by decide) (by decide)
  have hB2 : BI L xs (nnV (zB L xs)) (pR σ2 2 0) := by
    refine ⟨fun k => ?_, (s8 x2).trans b2, (s5 x2).trans b3, ?_, fun i hi => ?_, fun j h1 h2 => ?_, ⟨?_, ?_, fun i hi => ?_⟩, fun k hk => ?_⟩
    · by_cases e : k = 2
      · subst e; rfl
      · rw [gR_pR, if_neg e]; exact (x2.2.2.2 k e).trans (b1 k)
    · rw [gA_pR, sA 14 (Or.inl rfl) x2]; exact b4
    · rw [gA_pR, sA 14 (Or.inl rfl) x2]; exact b5 i hi
    · rw [gA_pR, sA 14 (Or.inl rfl) x2]; exact b6 j h1 h2
    · rw [gA_pR, sA 41 (Or.inr (Or.inl rfl)) x2]; exact b7
    · rw [gA_pR, sA 41 (Or.inr (Or.inl rfl)) x2]; exact b8
    · rw [gA_pR, sA 41 (Or.inr (Or.inl rfl)) x2]; exact b9 i hi
    · rw [gA_pR, sA 42 (Or.inr (Or.inr rfl)) x2]; exact b10 k hk
  obtain ⟨σ3, y1, y2, y3, y4⟩ : ∃ σ', f_X2_read 14 4 σ2 = some (-9, σ') ∧ FrG 4 σ2 σ' ∧ gR σ' 2 = 14 ∧ DS 4 (nnV (zB L xs)) (wB L xs) σ' := by
    have hl := peB_le L xs (nnV (zB L xs))
    obtain ⟨d1, d2, d3, d4, d5, d6, -, -⟩ := hB2
    exact read_C (t := 3) (m := 50) (tx := gA σ2 14) (kk := fun i => kkV (yB L xs i)) (dd := fun i => ddV (yB L xs i)) (xx := fun i => xxV (yB L xs i)) (ga := fun i => gaV (yB L xs i)) i4 (by decide) (by decide) d3 (fun _ _ => rfl) hn.1 (by omega) (fun _ => kkV_r _) (fun _ => ddV_r _) (fun _ => xxV_r _) (fun _ => gaV_r _) (a0V_r _) (ffV_r _) (qqV_r _) d4 d5 d6 (show peB L xs (nnV (zB L xs)) ≤ 50 by omega) (wB35 L xs) (wB36 L xs) (fun i hi => wBi L xs (by omega))
  have ra2 : gR σ2 1 = 4 := (x2.2.2.2 1 (by decide)).trans r1
  have ra3 : gR σ3 1 = 4 := (y2.2.2.2 1 (by decide)).trans ra2
  have rb3 : gR σ3 0 = 3 := (y2.2.2.2 0 (by decide)).trans ((x2.2.2.2 0 (by decide)).trans r0)
  obtain ⟨σ4, c1, c2, c3, c4, c5, -, f18, fA, -, -⟩ := townL i4 ra3 hn.1 y4
  have e1 : f_X5_fault 3 σ = some (-9, σ2) := by
    unfold f_X5_fault
    rw [show f_X5_pick 72 (3 : Int32) = some (some 14) from pick_i (q := 72) (r := 3) (by decide), bndS, ocS, refused_p b3 (by decide), bnd2S, if_pos rfl, r1, x1, bnd2S]
  have e2 : f_X5_town 3 σ2 = some (nI (nnV (zB L xs)), σ4) := by
    unfold f_X5_town
    rw [show f_X5_pick 72 (3 : Int32) = some (some 14) from pick_i (q := 72) (r := 3) (by decide), bndS, ocS, refused_p ((s5 x2).trans b3) (by decide), bnd2S, if_pos rfl, ra2, y1, bnd2S, if_pos rfl]
    exact c1
  have g41 : gA σ4 41 = gA σ 41 := (fA 41 (Or.inr (by decide))).trans ((sA 41 (Or.inr (Or.inl rfl)) y2).trans (sA 41 (Or.inr (Or.inl rfl)) x2))
  have g42 : gA σ4 42 = gA σ 42 := (fA 42 (Or.inr (by decide))).trans ((sA 42 (Or.inr (Or.inr rfl)) y2).trans (sA 42 (Or.inr (Or.inr rfl)) x2))
  refine ⟨σ4, gS σ4 9, gL σ4 10, gL σ4 11, gA σ4 41, gA σ4 42, gA σ4 43, fun r => gS σ4 (16 * (5 + r) + 1), fun r => gA σ4 (5 + r), ?_, ⟨⟨by rw [c3]; exact i4, by rw [c4, rb3]; exact i3, Or.inr (by rw [c5, y3]; exact ⟨by decide, by decide⟩)⟩, by rw [c3, c4, rb3]; decide, wB_st L xs, ⟨by decide, fun c hc => by cases hc⟩, by rw [c3]; exact c2, fun c hc => (by cases hc), fun r _ => ⟨rfl, rfl⟩, f18.trans ((s8 y2).trans ((s8 x2).trans b2)), rfl, rfl, rfl, rfl, rfl, rfl⟩, ?_, ?_⟩
  · unfold s_L_built_407
    rw [bfT, e1, bnd2S, if_pos rfl, e2, bnd2S, show inB (1 : Int32) (cLen 41) = true from by decide, ckT, cl1, g41, b8, if_pos rfl]
  · refine ⟨by rw [g41]; exact b7, by rw [g41]; exact b8, fun i hi => ?_⟩
    obtain ⟨u1, u2, u3⟩ := wBi L xs (show i < 6 by omega)
    rw [g41, u1, u3]
    exact b9 i hi
  · rw [g42]
    show XR _ (iniV (wB L xs)) _
    refine ⟨fun k hk => ?_, fun i hi => ⟨?_, ?_, ?_⟩, fun i h1 h2 => ?_⟩
    · rw [b10 k (by omega)]
      unfold iniV
      rw [if_neg (show ¬ 23 ≤ k by omega), if_neg (show ¬ (5 ≤ k ∧ k < 11) by omega), if_neg (show ¬ (5 ≤ k ∧ k < 5 + nnV (zB L xs)) by omega)]
      by_cases e : k = 3
      · rw [if_pos e, if_pos e, wB36]
      · rw [if_neg e, if_neg e]
    · rw [b10 (5 + i) (by omega), if_neg (show ¬ 5 + i = 3 by omega), if_pos (show 5 ≤ 5 + i ∧ 5 + i < 5 + nnV (zB L xs) by omega)]
      unfold iniV
      rw [if_neg (show ¬ 23 ≤ 5 + i by omega), if_neg (show ¬ 5 + i = 3 by omega), if_pos (show 5 ≤ 5 + i ∧ 5 + i < 11 by omega), show 5 + i - 5 = i by omega, (wBi L xs (show i < 6 by omega)).2.1]
    · rw [b10 (11 + i) (by omega), if_neg (show ¬ 11 + i = 3 by omega), if_neg (show ¬ (5 ≤ 11 + i ∧ 11 + i < 5 + nnV (zB L xs)) by omega), if_neg (show ¬ 17 ≤ 11 + i by omega)]
      unfold iniV
      rw [if_neg (show ¬ 23 ≤ 11 + i by omega), if_neg (show ¬ 11 + i = 3 by omega), if_neg (show ¬ (5 ≤ 11 + i ∧ 11 + i < 11) by omega), if_neg (show ¬ 17 ≤ 11 + i by omega)]
    · rw [b10 (17 + i) (by omega), if_neg (show ¬ 17 + i = 3 by omega), if_neg (show ¬ (5 ≤ 17 + i ∧ 17 + i < 5 + nnV (zB L xs)) by omega), if_pos (show 17 ≤ 17 + i by omega)]
      unfold iniV
      rw [if_neg (show ¬ 23 ≤ 17 + i by omega), if_neg (show ¬ 17 + i = 3 by omega), if_neg (show ¬ (5 ≤ 17 + i ∧ 17 + i < 11) by omega), if_pos (show 17 ≤ 17 + i by omega)]
    · rw [b10 (17 + i) (by omega), if_neg (show ¬ 17 + i = 3 by omega), if_neg (show ¬ (5 ≤ 17 + i ∧ 17 + i < 5 + nnV (zB L xs)) by omega), if_pos (show 17 ≤ 17 + i by omega)]
theorem built_l {L : Nat} {xs : Nat → Int32} (hL : L ≤ 260) : ∃ σ1 A U V T X Y RS RA, f_L_built L xs 0 5 41 42 sgC0 = some (true, σ1) ∧ IW (nnV (zB L xs)) (wB L xs) [] none RS RA A U V T X Y σ1 ∧ TR (nnV (zB L xs)) (wB L xs) T ∧ XR (nnV (zB L xs)) (run (nnV (zB L xs)) (iniV (wB L xs)) []) X := by
  obtain ⟨σ, a1, a2⟩ := head_l (L := L) (xs := xs) (σ := pA sgC0 42 (fun x => if x < 23 then (if 17 ≤ x then -9 else 0) else gA sgC0 42 x)) (fun k => rfl) (by rw [gS_pA]; rfl) (fun k hk => by rw [gA_same, if_pos hk])
  obtain ⟨σ', c1, c2⟩ := lay_l (K := fun (v7_407 : Bool) (σv407 : Sg) => s_L_built_407 L xs 41 v7_407 σv407) hL (nnV (zB L xs)) 0 FU σ (by omega) (lt_FU (by have := nnV_r (zB L xs); omega)) a2
  obtain ⟨σ1, A, U, V, T, X, Y, RS, RA, e1, e2⟩ := town_l c2
  refine ⟨σ1, A, U, V, T, X, Y, RS, RA, ?_, e2⟩
  unfold f_L_built
  rw [show f_L_cell L xs (0 : Int32) sgC0 = some (zB L xs) from cell_v hL (k := 0) (by decide) sgC0, bndS, fill10]
  exact a1.trans (c1.trans e1)
theorem law_true {L : Nat} {xs : Nat → Int32} (hL : L ≤ 260) : f_L_law L xs sgC0 = some true := by
  have hn := nnV_r (zB L xs)
  obtain ⟨σ1, A, U, V, T, X, Y, RS, RA, e1, h, hT, hX⟩ := built_l (L := L) (xs := xs) hL
  unfold f_L_law
  rw [e1, bnd2S, bfT]
  refine turns hL hn.1 hT (fun cs A X Y σ h hX _ => seg533 hL hn.1 hn.2 hT hX h) 14 0 FU [] A X Y σ1 (by decide) (lt_FU (by decide)) h hX (by decide) (fun i hi _ => ?_) ⟨0, by decide, ?_⟩
  · show awV (iniV (wB L xs)) i = false
    have e : iniV (wB L xs) (17 + i) = -9 := by
      unfold iniV
      rw [if_neg (show ¬ 23 ≤ 17 + i by omega), if_neg (show ¬ 17 + i = 3 by omega), if_neg (show ¬ (5 ≤ 17 + i ∧ 17 + i < 11) by omega), if_pos (show 17 ≤ 17 + i by omega)]
    unfold awV
    rw [e]
    rfl
  · rfl
