theorem CT.cgs {n : Nat} {w : Nat → Int32} {cs : List Nat} {s : Nat} {σ σ' : Sg} (h : CT n w cs s σ) (kS : ∀ j, 7 ≤ j → j < 15 → gS σ' (16 * s + j) = gS σ (16 * s + j)) (kI : ∀ j, j < 7 → gS σ' (16 * stI s j + 1) = gS σ (16 * stI s j + 1)) (kA : ∀ j, j < 7 → gA σ' (stI s j) = gA σ (stI s j)) : CT n w cs s σ' := by
  obtain ⟨⟨a, b, c, ⟨d1, d2, d3, d4, d5, d6, d7⟩, e, f⟩, ⟨g1, g2⟩, h3⟩ := h
  refine ⟨⟨a, b, (kS 7 (by omega) (by omega)).trans c, ⟨(kS 8 (by omega) (by omega)).trans d1, (kS 9 (by omega) (by omega)).trans d2, (kS 10 (by omega) (by omega)).trans d3, (kS 11 (by omega) (by omega)).trans d4, (kS 12 (by omega) (by omega)).trans d5, (kS 13 (by omega) (by omega)).trans d6, (kS 14 (by omega) (by omega)).trans d7⟩, fun j hj h0 => (kI j (by omega)).trans (e j hj h0), fun i hi => ?_⟩, ⟨(kI 6 (by omega)).trans g1, fun k hk => ?_⟩, ?_⟩
  · rw [kA 0 (by omega), kA 1 (by omega), kA 2 (by omega), kA 3 (by omega), kA 4 (by omega), kA 5 (by omega)]
    exact f i hi
  · rw [kA 6 (by omega)]; exact g2 k hk
  · unfold FD
    rw [kI 2 (by omega)]
    exact h3
theorem Rel_read {σ σ' τ τ' : Sg} {t : Nat} (ht : t < 4) (h : Rel σ τ) (f : FrG (gR σ 1) σ σ') (h2' : gR σ' 2 = 11 + t) (g : FrR τ τ') : Rel σ' τ' := by
  obtain ⟨h1, h2, h3, h4, h5, n, w, cs, t1, t2, t3, t4, t5⟩ := h
  have hs := h1.1
  have hd := h1.2.1
  unfold isS at hs hd
  obtain ⟨f1, f2, f3, f4⟩ := f
  obtain ⟨g1, g2, g3⟩ := g
  have q0 : stI (gR σ 1) 0 = 7 * gR σ 1 - 2 + 0 := rfl
  have q1 : stI (gR σ 1) 1 = 7 * gR σ 1 - 2 + 1 := rfl
  have q2 : stI (gR σ 1) 2 = 7 * gR σ 1 - 2 + 2 := rfl
  have r0 : gR σ' 0 = gR σ 0 := f4 0 (by decide)
  have r1 : gR σ' 1 = gR σ 1 := f4 1 (by decide)
  have ej : ∀ j, stI (gR σ 0) j = 7 * gR σ 0 - 2 + j := fun _ => rfl
  refine ⟨⟨by rw [r0]; exact h1.1, by rw [r1]; exact h1.2.1, Or.inr (by rw [h2']; exact ⟨by omega, by omega⟩)⟩, by rw [r0, r1]; exact h2, ?_, ?_, ?_, n, w, cs, t1, t2, ?_, ?_, ?_⟩
  · exact h3.cg (fun k hk => f1 _ (by omega) (by omega) (by omega) (by omega) (by omega) (by omega)) (fun k hk => f2 _ (by omega) (by omega) (by omega)) ⟨g2 _ (by decide), g2 _ (by decide)⟩
  · exact h4.cg (fun k hk => f1 _ (by omega) (by omega) (by omega) (by omega) (by omega) (by omega)) (fun k hk => f2 _ (by omega) (by omega) (by omega)) ⟨g2 _ (by decide), g2 _ (by decide)⟩
  · obtain ⟨a1, a2, a3, a4, a5, a6⟩ := h5
    refine ⟨?_, ?_, ?_, ?_, ?_, fun i hi => ?_⟩
    · rw [f1 _ (by omega) (by omega) (by omega) (by omega) (by omega) (by omega), g1 _ (by omega)]; exact a1
    · rw [f1 _ (by omega) (by omega) (by omega) (by omega) (by omega) (by omega), g1 _ (by omega)]; exact a2
    · rw [f3, g3]; exact a3
    · rw [f3, g3]; exact a4
    · rw [f1 _ (by omega) (by omega) (by omega) (by omega) (by omega) (by omega)]; exact a5
    · rw [f2 _ (by omega) (by omega) (by omega), g2 _ (by decide)]; exact a6 i hi
  · rw [r0]
    exact t3.cgs (fun j h7 h15 => f1 _ (by omega) (by omega) (by omega) (by omega) (by omega) (by omega)) (fun j hj => f1 _ (by have := ej j; omega) (by have := ej j; omega) (by have := ej j; omega) (by have := ej j; omega) (by have := ej j; omega) (by have := ej j; omega)) (fun j hj => f2 _ (by have := ej j; omega) (by have := ej j; omega) (by have := ej j; omega))
  · exact t4.cg ⟨g1 _ (by omega), g1 _ (by omega), g1 _ (by omega)⟩ ⟨g2 _ (by decide), g2 _ (by decide), g2 _ (by decide), g2 _ (by decide)⟩
  · exact t5.cg (fun k hk => f1 _ (by omega) (by omega) (by omega) (by omega) (by omega) (by omega)) (fun k hk => f2 _ (by omega) (by omega) (by omega)) ⟨g2 _ (by decide), g2 _ (by decide), g2 _ (by decide)⟩
/-- all done again in a town just read: no deed yet -/
theorem replay0 {n d : Nat} {w : Nat → Int32} {σ : Sg} (hd : isS d) (hD : DS d n w σ) (h6 : gS σ (16 * stI d 6 + 1) = nI 0) : ∃ σ', f_X4_replay d σ = some σ' ∧ HC n (iniV w) d σ' ∧ FrC d σ σ' := by
  have hs := hd
  unfold isS at hs
  have e0 : stI d 0 = 7 * d - 2 + 0 := rfl
  have e1 : stI d 1 = 7 * d - 2 + 1 := rfl
  have e2 : stI d 2 = 7 * d - 2 + 2 := rfl
  have e3 : stI d 3 = 7 * d - 2 + 3 := rfl
  have e4 : stI d 4 = 7 * d - 2 + 4 := rfl
  have e5 : stI d 5 = 7 * d - 2 + 5 := rfl
  have e6 : stI d 6 = 7 * d - 2 + 6 := rfl
  obtain ⟨a, b, c, d', e, f, i, j⟩ := hD
  unfold f_X4_replay f_X4_sleep
  rw [X0_takeFrom_i i (by rw [cLen_st hd (by decide)]; exact a) (by rw [cLen_st hd (by decide)]; exact a) (by omega), bndS]
  simp only [nmE]
  have k1 : ∀ x y z f', gS (pS (pS (pS (pA (pS σ (16 * stI d 3 + 1) (nI n)) (stI d 3) f') (16 * d + 10) x) (16 * d + 12) y) (16 * d + 14) z) (16 * d + 7) = nI n := fun x y z f' => by
    rw [gS_ne _ _ (by omega), gS_ne _ _ (by omega), gS_ne _ _ (by omega), gS_pA, gS_ne _ _ (by omega)]; exact b
  rw [k1, X0_fill_i (by rw [cLen_st hd (by decide)]; exact a), bndS, gS_pA, gS_ne _ _ (show 16 * d + 7 ≠ 16 * stI d 4 + 1 by omega), k1, X0_fill_i (by rw [cLen_st hd (by decide)]; exact a), bndS, bndS]
  obtain ⟨N, hN⟩ : ∃ N, FU = N + 1 := ⟨FU - 1, by decide⟩
  rw [hN]
  unfold l_X4_replay_35
  rw [if_pos (by
    rw [gS_ne _ _ (by omega), gS_ne _ _ (by omega), gS_pA, gS_ne _ _ (by omega), gS_pA, gS_ne _ _ (by omega), gS_ne _ _ (by omega), gS_ne _ _ (by omega), gS_ne _ _ (by omega), gS_pA, gS_ne _ _ (by omega), h6]
    decide)]
  refine ⟨_, rfl, ⟨a, hd, ?_, ⟨?_, ?_, ?_, ?_, ?_, ?_, ?_⟩, fun q hq h0 => ?_, fun q hq => ?_⟩, ?_⟩
  · rw [gS_ne _ _ (by omega), gS_ne _ _ (by omega), gS_pA, gS_ne _ _ (by omega), gS_pA, gS_ne _ _ (by omega), k1]
  · rw [gS_ne _ _ (by omega), gS_ne _ _ (by omega), gS_pA, gS_ne _ _ (by omega), gS_pA, gS_ne _ _ (by omega), gS_ne _ _ (by omega), gS_ne _ _ (by omega), gS_ne _ _ (by omega), gS_pA, gS_ne _ _ (by omega), c]; rfl
  · rw [gS_ne _ _ (by omega), gS_ne _ _ (by omega), gS_pA, gS_ne _ _ (by omega), gS_pA, gS_ne _ _ (by omega), gS_ne _ _ (by omega), gS_ne _ _ (by omega), gS_ne _ _ (by omega), gS_pA, gS_ne _ _ (by omega), d']; rfl
  · rw [gS_ne _ _ (by omega), gS_ne _ _ (by omega), gS_pA, gS_ne _ _ (by omega), gS_pA, gS_ne _ _ (by omega), gS_ne _ _ (by omega), gS_ne _ _ (by omega), gS_same, gS_pA, gS_ne _ _ (by omega), d']; rfl
  · rw [gS_ne _ _ (by omega), gS_same]; rfl
  · rw [gS_ne _ _ (by omega), gS_ne _ _ (by omega), gS_pA, gS_ne _ _ (by omega), gS_pA, gS_ne _ _ (by omega), gS_ne _ _ (by omega), gS_same]; rfl
  · rw [gS_same]; rfl
  · rw [gS_ne _ _ (by omega), gS_ne _ _ (by omega), gS_pA, gS_ne _ _ (by omega), gS_pA, gS_ne _ _ (by omega), gS_same]; rfl
  · have eq : stI d q = 7 * d - 2 + q := rfl
    rw [gS_ne _ _ (by omega), gS_ne _ _ (by omega), gS_pA]
    by_cases q5 : q = 5
    · subst q5; rw [gS_same]
    rw [gS_ne _ _ (by omega), gS_pA]
    by_cases q4 : q = 4
    · subst q4; rw [gS_same]
    rw [gS_ne _ _ (by omega), gS_ne _ _ (by omega), gS_ne _ _ (by omega), gS_ne _ _ (by omega), gS_pA]
    by_cases q3 : q = 3
    · subst q3; rw [gS_same]
    rw [gS_ne _ _ (by omega)]
    rcases (show q = 0 ∨ q = 1 ∨ q = 2 by omega) with z | z | z <;> subst z
    · exact e
    · exact f
    · exact i
  · simp only [gA_pS]
    obtain ⟨j1, j2, j3⟩ := j q hq
    refine ⟨?_, ?_, ?_, ?_, ?_, ?_⟩
    · rw [gA_ne _ _ (by omega), gA_pS, gA_ne _ _ (by omega)]
      simp only [gA_pS]
      rw [gA_ne _ _ (by omega), gA_pS, j1]
      unfold iniV; rw [if_pos (by omega)]
    · rw [gA_ne _ _ (by omega), gA_pS, gA_ne _ _ (by omega)]
      simp only [gA_pS]
      rw [gA_ne _ _ (by omega), gA_pS, j2]
      unfold iniV; rw [if_pos (by omega)]
    · rw [gA_ne _ _ (by omega), gA_pS, gA_ne _ _ (by omega)]
      simp only [gA_pS]
      rw [gA_ne _ _ (by omega), gA_pS, j3]
      unfold iniV; rw [if_pos (by omega)]
    · rw [gA_ne _ _ (by omega), gA_pS, gA_ne _ _ (by omega)]
      simp only [gA_pS]
      rw [gA_same, if_pos hq, j3]
      unfold iniV; rw [if_neg (by omega), if_neg (by omega), if_pos (by omega), show 37 + (5 + q - 5) = 37 + q by omega]
    · rw [gA_ne _ _ (by omega), gA_pS, gA_same, if_pos hq]
      unfold iniV; rw [if_neg (by omega), if_neg (by omega), if_neg (by omega), if_neg (by omega)]
    · rw [gA_same, if_pos hq]
      unfold iniV; rw [if_neg (by omega), if_neg (by omega), if_neg (by omega), if_pos (by omega)]
  · exact (FrC.tr (FrC.tr (FrC.tr (FrC.tr (FrC.tr (FrC.tr (FrC.tr (FrC.tr (FrC.s (Or.inr (Or.inl rfl))) (FrC.a (Or.inl rfl))) (FrC.s (Or.inl (by omega)))) (FrC.s (Or.inl (by omega)))) (FrC.s (Or.inl (by omega)))) ((FrC.s (Or.inr (Or.inr (Or.inl rfl)))).tr (FrC.a (Or.inr (Or.inl rfl))))) ((FrC.s (Or.inr (Or.inr (Or.inr rfl)))).tr (FrC.a (Or.inr (Or.inr rfl))))) (FrC.s (Or.inl (by omega)))) (FrC.s (Or.inl (by omega))))
theorem dropC {K : Sg → Option (Int32 × Sg)} {σ : Sg} : l_X5_town_87 K FU 0 σ = K (pS (pS (pS σ (16 * (15 + 0) + 1) (-1)) (16 * (15 + 1) + 1) (-1)) (16 * (15 + 2) + 1) (-1)) :=
  loopP (fun N j σ => l_X5_town_87 K N (nI j) σ) K (fun j (σ : Sg) => pS σ (16 * (15 + j) + 1) (-1)) 3
    (fun N σ => by
      show l_X5_town_87 K (N + 1) (nI 3) σ = _
      unfold l_X5_town_87
      rw [if_pos (by decide)])
    (fun N j σ hj => by
      show l_X5_town_87 K (N + 1) (nI j) σ = _
      conv => lhs; unfold l_X5_town_87
      rw [show rLen 73 = 3 from rfl, if_neg (nI_ge hj (by omega)), inB_nI hj (by omega), nI_clamp (by omega)]
      unfold f_X0_drop
      simp only [ckT, bfT, bfF, bndS, bnd2S, nmE, nI_1]
      rfl) 3 0 FU σ (by omega) (lt_FU (by omega))
/-- the houses laid -/
def H99 (τ : Sg) (j : Nat) (τ' : Sg) : Prop := (∀ k, gS τ' k = gS τ k) ∧ (∀ k, gL τ' k = gL τ k) ∧ (∀ a, a ≠ 7 → a ≠ 8 → a ≠ 9 → gA τ' a = gA τ a) ∧ (∀ i, i < j → gA τ' 7 i = gA τ 6 (3 * i) ∧ gA τ' 8 i = gA τ 6 (3 * i + 2)) ∧ ∀ x, gA τ' 9 x = if 5 ≤ x ∧ x < 5 + j then gA τ 6 (3 * (x - 5) + 1) else gA τ 9 x
theorem townC {n d : Nat} {w : Nat → Int32} {σ : Sg} (hd : isS d) (hgd : gR σ 1 = d) (hn0 : 0 < n) (hD : DS d n w σ) : ∃ σ3 : Sg, (nm (pR σ 0 (gR σ 1)) (fun σ8 => (nm (pR σ8 1 (gR σ 0)) (fun σ9 => (bnd (f_X0_fill (stI (gR σ9 0) 6) (0 : Int32) (0 : Int32) σ9) (fun σ11 => (bnd (f_X4_replay (gR σ11 0) σ11) (fun σ13 => (l_X5_town_87
    (fun (σv122 : Sg) => (some ((gS σv122 (16 * (gR σv122 0) + 7)), σv122))) FU (0 : Int32) σ13))))))))) = some (nI n, σ3) ∧ CT n w [] d σ3 ∧ gR σ3 0 = d ∧ gR σ3 1 = gR σ 0 ∧ gR σ3 2 = gR σ 2 ∧ (∀ k, k < 16 * 15 → ¬ (16 * d ≤ k ∧ k < 16 * d + 16) → gS σ3 k = gS σ k) ∧ gS σ3 (16 * 18 + 1) = gS σ (16 * 18 + 1) ∧ (∀ a, a < 19 → gA σ3 a = gA σ a) ∧ (∀ k, gL σ3 k = gL σ k) ∧ ∀ k, k < 3 → gS σ3 (16 * (15 + k) + 1) = -1 := by
  have hdd := hd
  unfold isS at hdd
  have e6 : stI d 6 = 7 * d - 2 + 6 := rfl
  have e0 : stI d 0 = 7 * d - 2 + 0 := rfl
  have e1 : stI d 1 = 7 * d - 2 + 1 := rfl
  have e2 : stI d 2 = 7 * d - 2 + 2 := rfl
  have e3 : stI d 3 = 7 * d - 2 + 3 := rfl
  have e4 : stI d 4 = 7 * d - 2 + 4 := rfl
  have e5 : stI d 5 = 7 * d - 2 + 5 := rfl
  rw [nmE, nmE, hgd]
  have ga : gR (pR (pR σ 0 d) 1 (gR σ 0)) 0 = d := rfl
  rw [ga, show f_X0_fill (stI d 6) 0 0 (pR (pR σ 0 d) 1 (gR σ 0)) = _ from X0_fill_i (k := 0) (Nat.zero_le _), bndS]
  obtain ⟨σ1, q1⟩ : ∃ x, x = pA (pS (pR (pR σ 0 d) 1 (gR σ 0)) (16 * stI d 6 + 1) (nI 0)) (stI d 6) (fun i => if i < 0 then 0 else gA (pR (pR σ 0 d) 1 (gR σ 0)) (stI d 6) i) := ⟨_, rfl⟩
  rw [← q1]
  have r0 : gR σ1 0 = d := by rw [q1]; rfl
  have r1 : gR σ1 1 = gR σ 0 := by rw [q1]; rfl
  have r2 : gR σ1 2 = gR σ 2 := by rw [q1]; rfl
  have rS : ∀ k, k ≠ 16 * stI d 6 + 1 → gS σ1 k = gS σ k := fun k hk => by rw [q1, gS_pA, gS_ne _ _ hk]; rfl
  have r6 : gS σ1 (16 * stI d 6 + 1) = nI 0 := by rw [q1, gS_pA, gS_same]
  have rA : ∀ a, a ≠ stI d 6 → gA σ1 a = gA σ a := fun a ha => by rw [q1, gA_ne _ _ ha]; rfl
  have rL : ∀ k, gL σ1 k = gL σ k := fun k => by rw [q1]; rfl
  clear q1
  have hD2 : DS d n w σ1 := by
    obtain ⟨u1, u2, u3, u4, u5, u6, u7, u8⟩ := hD
    refine ⟨u1, (rS _ (by omega)).trans u2, (rS _ (by omega)).trans u3, (rS _ (by omega)).trans u4, (rS _ (by omega)).trans u5, (rS _ (by omega)).trans u6, (rS _ (by omega)).trans u7, fun i hi => ?_⟩
    rw [rA _ (by omega), rA _ (by omega), rA _ (by omega)]
    exact u8 i hi
  obtain ⟨σ2, p1, p2, p3⟩ := replay0 hd hD2 r6
  rw [r0, p1, bndS, dropC]
  clear p1
  have hCT : CT n w [] d σ2 := by
    refine ⟨p2, ⟨?_, fun k hk => absurd hk (by simp)⟩, Or.inl (p2.2.2.2.2.1 2 (by decide) hn0)⟩
    rw [p3.1 _ (by omega) (by omega) (by omega) (by omega)]
    exact r6
  have ej : ∀ j, stI d j = 7 * d - 2 + j := fun _ => rfl
  obtain ⟨σ3, s1⟩ : ∃ x, x = pS (pS (pS σ2 (16 * (15 + 0) + 1) (-1)) (16 * (15 + 1) + 1) (-1)) (16 * (15 + 2) + 1) (-1) := ⟨_, rfl⟩
  rw [← s1]
  have tR : ∀ k, gR σ3 k = gR σ1 k := fun k => by rw [s1]; exact p3.2.2.2 k
  have tS : ∀ k, k ≠ 16 * (15 + 0) + 1 → k ≠ 16 * (15 + 1) + 1 → k ≠ 16 * (15 + 2) + 1 → gS σ3 k = gS σ2 k := fun k k1 k2 k3 => by rw [s1, gS_ne _ _ k3, gS_ne _ _ k2, gS_ne _ _ k1]
  have tA : ∀ a, gA σ3 a = gA σ2 a := fun a => by rw [s1]; rfl
  have tL : ∀ k, gL σ3 k = gL σ2 k := fun k => by rw [s1]; rfl
  have tk : ∀ k, k < 3 → gS σ3 (16 * (15 + k) + 1) = -1 := fun k hk => by
    rw [s1]
    rcases (show k = 0 ∨ k = 1 ∨ k = 2 by omega) with z | z | z <;> subst z
    · rw [gS_ne _ _ (by decide), gS_ne _ _ (by decide), gS_same]
    · rw [gS_ne _ _ (by decide), gS_same]
    · rw [gS_same]
  clear s1
  refine ⟨σ3, ?_, hCT.cgs (fun j _ _ => tS _ (by omega) (by omega) (by omega)) (fun j hj => tS _ (by have := ej j; omega) (by have := ej j; omega) (by have := ej j; omega)) (fun j _ => tA _), (tR 0).trans r0, (tR 1).trans r1, (tR 2).trans r2, fun k k1 k2 => ?_, ?_, fun a ha => ?_, fun k => (tL k).trans ((p3.2.2.1 k).trans (rL k)), tk⟩
  · rw [tR 0, r0, tS _ (by omega) (by omega) (by omega), p2.2.2.1]
  · rw [tS _ (by omega) (by omega) (by omega), p3.1 k (by omega) (by omega) (by omega) (by omega), rS _ (by omega)]
  · rw [tS _ (by omega) (by omega) (by omega), p3.1 _ (by omega) (by omega) (by omega) (by omega), rS _ (by omega)]
  · rw [tA, p3.2.1 a (by omega) (by omega) (by omega), rA _ (by omega)]
