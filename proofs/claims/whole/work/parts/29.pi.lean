theorem CT.cgs {n : Nat} {w : Nat → Int32} {cs : List Nat} {s : Nat} {σ σ' : Sg} (h : CT n w cs s σ) (kS : ∀ j, 7 ≤ j → j < 15 → gS σ' (16 * s + j) = gS σ (16 * s + j)) (kI : ∀ j, j < 7 → gS σ' (16 * stI s j + 1) = gS σ (16 * stI s j + 1)) (kA : ∀ j, j < 7 → gA σ' (stI s j) = gA σ (stI s j)) : CT n w cs s σ' := by
  obtain ⟨⟨a, b, c, ⟨d1, d2, d3, d4, d5, d6, d7⟩, e, f⟩, ⟨g1, g2⟩, h3⟩ := h
  refine ⟨⟨a, b, (kS 7 (by omega) (by omega)).trans c, ⟨(kS 8 (by omega) (by omega)).trans d1, (kS 9 (by omega) (by omega)).trans d2, (kS 10 (by omega) (by omega)).trans d3, (kS 11 (by omega) (by omega)).trans d4, (kS 12 (by omega) (by omega)).trans d5, (kS 13 (by omega) (by omega)).trans d6, (kS 14 (by omega) (by omega)).trans d7⟩, fun j hj h0 => (kI j (by omega)).trans (e j hj h0), fun i hi => ?_⟩, ⟨(kI 6 (by omega)).trans g1, fun k hk => ?_⟩, ?_⟩
  · rw [kA 0 (by omega), kA 1 (by omega), kA 2 (by omega), kA 3 (by omega), kA 4 (by omega), kA 5 (by omega)]
    exact f i hi
  · rw [kA 6 (by omega)]; exact g2 k hk
  · unfold FD
    rw [kI 2 (by omega)]
    exact h3
theorem Rel_read {σ σ' τ τ' : Sg} {t : Nat} (ht : t < 4) (h : Rel σ τ) (f : FrG (gR σ 1) σ σ') (h2' : gR σ' 2 = 11 + t) (g : FrR τ τ') : Rel σ' τ' := by
  obtain ⟨h1, h2, h3, h4, h5, n, w, cs, t1, t2, t3, t4, t5⟩ := h
  have hs := h1.1
  have hd := h1.2.1
  unfold isS at hs hd
  obtain ⟨f1, f2, f3, f4⟩ := f
  obtain ⟨g1, g2, g3⟩ := g
  have q0 : stI (gR σ 1) 0 = 7 * gR σ 1 - 2 + 0 := rfl
  have q1 : stI (gR σ 1) 1 = 7 * gR σ 1 - 2 + 1 := rfl
  have q2 : stI (gR σ 1) 2 = 7 * gR σ 1 - 2 + 2 := rfl
  have r0 : gR σ' 0 = gR σ 0 := f4 0 (by decide)
  have r1 : gR σ' 1 = gR σ 1 := f4 1 (by decide)
  have ej : ∀ j, stI (gR σ 0) j = 7 * gR σ 0 - 2 + j := fun _ => rfl
  refine ⟨⟨by rw [r0]; exact h1.1, by rw [r1]; exact h1.2.1, Or.inr (by rw [h2']; exact ⟨by omega, by omega⟩)⟩, by rw [r0, r1]; exact h2, ?_, ?_, ?_, n, w, cs, t1, t2, ?_, ?_, ?_⟩
  · exact h3.cg (fun k hk => f1 _ (by omega) (by omega) (by omega) (by omega) (by omega) (by omega)) (fun k hk => f2 _ (by omega) (by omega) (by omega)) ⟨g2 _ (by decide), g2 _ (by decide)⟩
  · exact h4.cg (fun k hk => f1 _ (by omega) (by omega) (by omega) (by omega) (by omega) (by omega)) (fun k hk => f2 _ (by omega) (by omega) (by omega)) ⟨g2 _ (by decide), g2 _ (by decide)⟩
  · obtain ⟨a1, a2, a3, a4, a5, a6⟩ := h5
    refine ⟨?_, ?_, ?_, ?_, ?_, fun i hi => ?_⟩
    · rw [f1 _ (by omega) (by omega) (by omega) (by omega) (by omega) (by omega), g1 _ (by omega)]; exact a1
    · rw [f1 _ (by omega) (by omega) (by omega) (by omega) (by omega) (by omega), g1 _ (by omega)]; exact a2
    · rw [f3, g3]; exact a3
    · rw [f3, g3]; exact a4
    · rw [f1 _ (by omega) (by omega) (by omega) (by omega) (by omega) (by omega)]; exact a5
    · rw [f2 _ (by omega) (by omega) (by omega), g2 _ (by decide)]; exact a6 i hi
  · rw [r0]
    exact t3.cgs (fun j h7 h15 => f1 _ (by omega) (by omega) (by omega) (by omega) (by omega) (by omega)) (fun j hj => f1 _ (by have := ej j; omega) (by have := ej j; omega) (by have := ej j; omega) (by have := ej j; omega) (by have := ej j; omega) (by have := ej j; omega)) (fun j hj => f2 _ (by have := ej j; omega) (by have := ej j; omega) (by have := ej j; omega))
  · exact t4.cg ⟨g1 _ (by omega), g1 _ (by omega), g1 _ (by omega)⟩ ⟨g2 _ (by decide), g2 _ (by decide), g2 _ (by decide), g2 _ (by decide)⟩
  · exact t5.cg (fun k hk => f1 _ (by omega) (by omega) (by omega) (by omega) (by omega) (by omega)) (fun k hk => f2 _ (by omega) (by omega) (by omega)) ⟨g2 _ (by decide), g2 _ (by decide), g2 _ (by decide)⟩
theorem st_fault : S_fault Rel := by
  intro σ τ a1 h
  unfold f_X5_fault f_X6_fault
  rw [X6_in_v, bndS]
  rcases inV_c a1 (b := 3) (by decide) with ⟨r, hr, rfl, ed⟩ | ⟨ho, ed⟩
  · rw [show (3 : Int32) = nI 3 from rfl, ed, bfT, pick_i (q := 72) (show r < 4 by omega), bndS, ocS, show rBase 72 + r = 11 + r from rfl, inB_nI (by rw [mL3]; omega) (by rw [mL3]; decide), ckT, nI_clamp (by omega)]
    obtain ⟨b1, b2⟩ := h.2.2.2.1 r (by omega)
    rcases b2 with b2 | ⟨m, q1, q2, q3⟩
    · rw [b2] at b1 ⊢
      obtain ⟨σ', τ', g1, g2, g3⟩ := found_R h (f := 1) (by decide)
      rw [refused_m b1 g1, bnd2S, if_neg (by decide), if_neg (by decide), show (1 : Int32) = nI 1 from rfl, g2, bnd2S]
      exact ⟨_, _, _, rfl, rfl, g3⟩
    · have q2' := q2
      rw [q2] at b1 ⊢
      rw [refused_p b1 (by omega), bnd2S, if_pos rfl, if_pos (nI_pos' (by omega))]
      obtain ⟨x, σ', τ', i1, i2, i3, i4, i5, -⟩ := read_R (t := r) (m := m) (tx := fun i => gA τ 4 (60 * r + i)) (g := gR σ 1) (σ := σ) (τ := τ) h.1.2.1 (by omega) q1 b1 q3 q2' (fun _ _ => rfl)
      rw [i1, i2, bnd2S, bnd2S]
      exact ⟨_, _, _, rfl, rfl, Rel_read (t := r) (by omega) h i3 i4 i5⟩
  · rw [show (3 : Int32) = nI 3 from rfl, ed, bfF, pick_o (q := 72) ho, bndS, ocN]
    exact ⟨_, _, _, rfl, rfl, h⟩
/-- all done again in a town just read: no deed yet -/
theorem replay0 {n d : Nat} {w : Nat → Int32} {σ : Sg} (hd : isS d) (hD : DS d n w σ) (h6 : gS σ (16 * stI d 6 + 1) = nI 0) : ∃ σ', f_X4_replay d σ = some σ' ∧ HC n (iniV w) d σ' ∧ FrC d σ σ' := by
  have hs := hd
  unfold isS at hs
  have e0 : stI d 0 = 7 * d - 2 + 0 := rfl
  have e1 : stI d 1 = 7 * d - 2 + 1 := rfl
  have e2 : stI d 2 = 7 * d - 2 + 2 := rfl
  have e3 : stI d 3 = 7 * d - 2 + 3 := rfl
  have e4 : stI d 4 = 7 * d - 2 + 4 := rfl
  have e5 : stI d 5 = 7 * d - 2 + 5 := rfl
  have e6 : stI d 6 = 7 * d - 2 + 6 := rfl
  obtain ⟨a, b, c, d', e, f, i, j⟩ := hD
  unfold f_X4_replay f_X4_sleep
  rw [X0_takeFrom_i i (by rw [cLen_st hd (by decide)]; exact a) (by rw [cLen_st hd (by decide)]; exact a) (by omega), bndS]
  simp only [nmE]
  have k1 : ∀ x y z f', gS (pS (pS (pS (pA (pS σ (16 * stI d 3 + 1) (nI n)) (stI d 3) f') (16 * d + 10) x) (16 * d + 12) y) (16 * d + 14) z) (16 * d + 7) = nI n := fun x y z f' => by
    rw [gS_ne _ _ (by omega), gS_ne _ _ (by omega), gS_ne _ _ (by omega), gS_pA, gS_ne _ _ (by omega)]; exact b
  rw [k1, X0_fill_i (by rw [cLen_st hd (by decide)]; exact a), bndS, gS_pA, gS_ne _ _ (show 16 * d + 7 ≠ 16 * stI d 4 + 1 by omega), k1, X0_fill_i (by rw [cLen_st hd (by decide)]; exact a), bndS, bndS]
  obtain ⟨N, hN⟩ : ∃ N, FU = N + 1 := ⟨FU - 1, by decide⟩
  rw [hN]
  unfold l_X4_replay_35
  rw [if_pos (by
    rw [gS_ne _ _ (by omega), gS_ne _ _ (by omega), gS_pA, gS_ne _ _ (by omega), gS_pA, gS_ne _ _ (by omega), gS_ne _ _ (by omega), gS_ne _ _ (by omega), gS_ne _ _ (by omega), gS_pA, gS_ne _ _ (by omega), h6]
    decide)]
  refine ⟨_, rfl, ⟨a, hd, ?_, ⟨?_, ?_, ?_, ?_, ?_, ?_, ?_⟩, fun q hq h0 => ?_, fun q hq => ?_⟩, ?_⟩
  · rw [gS_ne _ _ (by omega), gS_ne _ _ (by omega), gS_pA, gS_ne _ _ (by omega), gS_pA, gS_ne _ _ (by omega), k1]
  · rw [gS_ne _ _ (by omega), gS_ne _ _ (by omega), gS_pA, gS_ne _ _ (by omega), gS_pA, gS_ne _ _ (by omega), gS_ne _ _ (by omega), gS_ne _ _ (by omega), gS_ne _ _ (by omega), gS_pA, gS_ne _ _ (by omega), c]; rfl
  · rw [gS_ne _ _ (by omega), gS_ne _ _ (by omega), gS_pA, gS_ne _ _ (by omega), gS_pA, gS_ne _ _ (by omega), gS_ne _ _ (by omega), gS_ne _ _ (by omega), gS_ne _ _ (by omega), gS_pA, gS_ne _ _ (by omega), d']; rfl
  · rw [gS_ne _ _ (by omega), gS_ne _ _ (by omega), gS_pA, gS_ne _ _ (by omega), gS_pA, gS_ne _ _ (by omega), gS_ne _ _ (by omega), gS_ne _ _ (by omega), gS_same, gS_pA, gS_ne _ _ (by omega), d']; rfl
  · rw [gS_ne _ _ (by omega), gS_same]; rfl
  · rw [gS_ne _ _ (by omega), gS_ne _ _ (by omega), gS_pA, gS_ne _ _ (by omega), gS_pA, gS_ne _ _ (by omega), gS_ne _ _ (by omega), gS_same]; rfl
  · rw [gS_same]; rfl
  · rw [gS_ne _ _ (by omega), gS_ne _ _ (by omega), gS_pA, gS_ne _ _ (by omega), gS_pA, gS_ne _ _ (by omega), gS_same]; rfl
  · have eq : stI d q = 7 * d - 2 + q := rfl
    rw [gS_ne _ _ (by omega), gS_ne _ _ (by omega), gS_pA]
    by_cases q5 : q = 5
    · subst q5; rw [gS_same]
    rw [gS_ne _ _ (by omega), gS_pA]
    by_cases q4 : q = 4
    · subst q4; rw [gS_same]
    rw [gS_ne _ _ (by omega), gS_ne _ _ (by omega), gS_ne _ _ (by omega), gS_ne _ _ (by omega), gS_pA]
    by_cases q3 : q = 3
    · subst q3; rw [gS_same]
    rw [gS_ne _ _ (by omega)]
    rcases (show q = 0 ∨ q = 1 ∨ q = 2 by omega) with z | z | z <;> subst z
    · exact e
    · exact f
    · exact i
  · simp only [gA_pS]
    obtain ⟨j1, j2, j3⟩ := j q hq
    refine ⟨?_, ?_, ?_, ?_, ?_, ?_⟩
    · rw [gA_ne _ _ (by omega), gA_pS, gA_ne _ _ (by omega)]
      simp only [gA_pS]
      rw [gA_ne _ _ (by omega), gA_pS, j1]
      unfold iniV; rw [if_pos (by omega)]
    · rw [gA_ne _ _ (by omega), gA_pS, gA_ne _ _ (by omega)]
      simp only [gA_pS]
      rw [gA_ne _ _ (by omega), gA_pS, j2]
      unfold iniV; rw [if_pos (by omega)]
    · rw [gA_ne _ _ (by omega), gA_pS, gA_ne _ _ (by omega)]
      simp only [gA_pS]
      rw [gA_ne _ _ (by omega), gA_pS, j3]
      unfold iniV; rw [if_pos (by omega)]
    · rw [gA_ne _ _ (by omega), gA_pS, gA_ne _ _ (by omega)]
      simp only [gA_pS]
      rw [gA_same, if_pos hq, j3]
      unfold iniV; rw [if_neg (by omega), if_neg (by omega), if_pos (by omega), show 37 + (5 + q - 5) = 37 + q by omega]
    · rw [gA_ne _ _ (by omega), gA_pS, gA_same, if_pos hq]
      unfold iniV; rw [if_neg (by omega), if_neg (by omega), if_neg (by omega), if_neg (by omega)]
    · rw [gA_same, if_pos hq]
      unfold iniV; rw [if_neg (by omega), if_neg (by omega), if_neg (by omega), if_pos (by omega)]
  · exact (FrC.tr (FrC.tr (FrC.tr (FrC.tr (FrC.tr (FrC.tr (FrC.tr (FrC.tr (FrC.s (Or.inr (Or.inl rfl))) (FrC.a (Or.inl rfl))) (FrC.s (Or.inl (by omega)))) (FrC.s (Or.inl (by omega)))) (FrC.s (Or.inl (by omega)))) ((FrC.s (Or.inr (Or.inr (Or.inl rfl)))).tr (FrC.a (Or.inr (Or.inl rfl))))) ((FrC.s (Or.inr (Or.inr (Or.inr rfl)))).tr (FrC.a (Or.inr (Or.inr rfl))))) (FrC.s (Or.inl (by omega)))) (FrC.s (Or.inl (by omega))))
theorem dropC {K : Sg → Option (Int32 × Sg)} {σ : Sg} : l_X5_town_87 K FU 0 σ = K (pS (pS (pS σ (16 * (15 + 0) + 1) (-1)) (16 * (15 + 1) + 1) (-1)) (16 * (15 + 2) + 1) (-1)) :=
  loopP (fun N j σ => l_X5_town_87 K N (nI j) σ) K (fun j (σ : Sg) => pS σ (16 * (15 + j) + 1) (-1)) 3
    (fun N σ => by
      show l_X5_town_87 K (N + 1) (nI 3) σ = _
      unfold l_X5_town_87
      rw [if_pos (by decide)])
    (fun N j σ hj => by
      show l_X5_town_87 K (N + 1) (nI j) σ = _
      conv => lhs; unfold l_X5_town_87
      rw [show rLen 73 = 3 from rfl, if_neg (nI_ge hj (by omega)), inB_nI hj (by omega), nI_clamp (by omega)]
      unfold f_X0_drop
      simp only [ckT, bfT, bfF, bndS, bnd2S, nmE, nI_1]
      rfl) 3 0 FU σ (by omega) (lt_FU (by omega))
theorem t57 {K : Sg → Option (Int32 × Sg)} {τ : Sg} : l_X6_town_57 K FU 0 τ = K (pA τ 9 (fun x => if x < 23 then (if 17 ≤ x then -9 else 0) else gA τ 9 x)) := by
  have := (loopL (fun N j τ => l_X6_town_57 K N (nI j) τ) K (fun j (τ : Sg) => pA τ 9 (upd (gA τ 9) j (if 17 ≤ j then -9 else 0))) 23 (fun j τ' => τ' = pA τ 9 (fun x => if x < j then (if 17 ≤ x then -9 else 0) else gA τ 9 x))
    (fun N τ' _ => by
      show l_X6_town_57 K (N + 1) (nI 23) τ' = _
      unfold l_X6_town_57
      rw [if_pos (by decide)])
    (fun N j τ' hj hI => by
      refine ⟨?_, ?_⟩
      · show l_X6_town_57 K (N + 1) (nI j) τ' = _
        conv => lhs; unfold l_X6_town_57
        rw [show (23 : Int32) = nI 23 from rfl, if_neg (nI_ge hj (by omega)), inB_nI (by rw [mL9]; omega) (by rw [mL9]; decide), nI_clamp (by omega)]
        have e17 : ((17 : Int32) ≤ nI j) = (17 ≤ j) := nIle (a := 17) (by decide) (by omega)
        simp only [ckT, bfT, bfF, bndS, bnd2S, nmE, nI_1, e17]
        split <;> rfl
      · rw [hI, pA_pA, gA_same]
        congr 1
        funext x
        unfold upd
        dsimp only
        by_cases e : x = j
        · subst e; rw [if_pos rfl, if_pos (show x < x + 1 by omega)]
        · rw [if_neg e]
          by_cases e2 : x < j
          · rw [if_pos e2, if_pos (show x < j + 1 by omega)]
          · rw [if_neg e2, if_neg (show ¬ x < j + 1 by omega)])
    23 0 FU τ (by omega) (lt_FU (by omega)) (by
      rw [show (fun x => if x < 0 then (if 17 ≤ x then (-9 : Int32) else 0) else gA τ 9 x) = gA τ 9 from funext fun x => by rw [if_neg (by omega)], pA_self]))
  refine this.1.trans ?_
  rw [this.2]
/-- the houses laid -/
def H99 (τ : Sg) (j : Nat) (τ' : Sg) : Prop := (∀ k, gS τ' k = gS τ k) ∧ (∀ k, gL τ' k = gL τ k) ∧ (∀ a, a ≠ 7 → a ≠ 8 → a ≠ 9 → gA τ' a = gA τ a) ∧ (∀ i, i < j → gA τ' 7 i = gA τ 6 (3 * i) ∧ gA τ' 8 i = gA τ 6 (3 * i + 2)) ∧ ∀ x, gA τ' 9 x = if 5 ≤ x ∧ x < 5 + j then gA τ 6 (3 * (x - 5) + 1) else gA τ 9 x
theorem t99 {K : Sg → Option (Int32 × Sg)} {τ : Sg} {n : Nat} (hn : n ≤ 6) (h17 : gS τ 17 = nI n) : ∃ τ', l_X6_town_99 K FU 0 τ = K τ' ∧ H99 τ n τ' := by
  have := (loopL (fun N j τ => l_X6_town_99 K N (nI j) τ) K (fun i (σx : Sg) => pA (pA (pA σx 7 (upd (gA σx 7) i (gA σx 6 (3 * i)))) 9 (upd (gA (pA σx 7 (upd (gA σx 7) i (gA σx 6 (3 * i)))) 9) (5 + i) (gA (pA σx 7 (upd (gA σx 7) i (gA σx 6 (3 * i)))) 6 (3 * i + 1)))) 8 (upd (gA (pA (pA σx 7 (upd (gA σx 7) i (gA σx 6 (3 * i)))) 9 (upd (gA (pA σx 7 (upd (gA σx 7) i (gA σx 6 (3 * i)))) 9) (5 + i) (gA (pA σx 7 (upd (gA σx 7) i (gA σx 6 (3 * i)))) 6 (3 * i + 1)))) 8) i (gA (pA (pA σx 7 (upd (gA σx 7) i (gA σx 6 (3 * i)))) 9 (upd (gA (pA σx 7 (upd (gA σx 7) i (gA σx 6 (3 * i)))) 9) (5 + i) (gA (pA σx 7 (upd (gA σx 7) i (gA σx 6 (3 * i)))) 6 (3 * i + 1)))) 6 (3 * i + 2)))) n (H99 τ)
    (fun N τ' hI => by
      show l_X6_town_99 K (N + 1) (nI n) τ' = _
      unfold l_X6_town_99
      rw [hI.1, h17, if_pos (nI_le (Nat.le_refl _) (by omega))])
    (fun N i τ' hi hI => by
      refine ⟨?_, ?_⟩
      · show l_X6_town_99 K (N + 1) (nI i) τ' = _
        conv => lhs; unfold l_X6_town_99
        rw [hI.1, h17, if_neg (nI_ge hi (by omega)), ml3, ad5, nI_1, nI_1, show nI (3 * i) + (2 : Int32) = nI (3 * i + 2) from nI_add (3 * i) 2, inB_nI (by rw [mL6]; omega) (by rw [mL6]; decide), inB_nI (by rw [mL7]; omega) (by rw [mL7]; decide), inB_nI (by rw [mL6]; omega) (by rw [mL6]; decide), inB_nI (by rw [mL9]; omega) (by rw [mL9]; decide), inB_nI (by rw [mL6]; omega) (by rw [mL6]; decide), inB_nI (by rw [mL8]; omega) (by rw [mL8]; decide), nI_clamp (show i < 2 ^ 31 by omega), nI_clamp (show 3 * i < 2 ^ 31 by omega), nI_clamp (show 3 * i + 1 < 2 ^ 31 by omega), nI_clamp (show 3 * i + 2 < 2 ^ 31 by omega), nI_clamp (show 5 + i < 2 ^ 31 by omega)]
        simp only [ckT, bfT, bfF, bndS, bnd2S, nmE]
      · obtain ⟨f1, f2, f3, f4, f5⟩ := hI
        have e6 : gA τ' 6 = gA τ 6 := f3 6 (by decide) (by decide) (by decide)
        refine ⟨fun k => f1 k, fun k => f2 k, fun a h7 h8 h9 => ?_, fun q hq => ?_, fun x => ?_⟩
        · rw [gA_ne _ _ h8, gA_ne _ _ h9, gA_ne _ _ h7]; exact f3 a h7 h8 h9
        · refine ⟨?_, ?_⟩
          · rw [gA_ne _ _ (by decide), gA_ne _ _ (by decide), gA_same]
            unfold upd
            by_cases e : q = i
            · subst e; rw [if_pos rfl, e6]
            · rw [if_neg e]; exact (f4 q (by omega)).1
          · rw [gA_same]
            unfold upd
            by_cases e : q = i
            · subst e; rw [if_pos rfl, gA_ne _ _ (by decide), gA_ne _ _ (by decide), e6]
            · rw [if_neg e, gA_ne _ _ (by decide), gA_ne _ _ (by decide)]; exact (f4 q (by omega)).2
        · rw [gA_ne _ _ (by decide), gA_same]
          unfold upd
          by_cases e : x = 5 + i
          · subst e
            rw [if_pos rfl, if_pos (by omega), gA_ne _ _ (by decide), e6]
            congr 1
            omega
          · rw [if_neg e, gA_ne _ _ (by decide), f5]
            by_cases e2 : 5 ≤ x ∧ x < 5 + i
            · rw [if_pos e2, if_pos (by omega)]
            · rw [if_neg e2, if_neg (by omega)])
    n 0 FU τ (by omega) (lt_FU (by omega)) ⟨fun _ => rfl, fun _ => rfl, fun _ _ _ _ => rfl, fun i hi => absurd hi (by omega), fun x => by rw [if_neg (by omega)]⟩)
  exact ⟨_, this.1, this.2⟩
theorem t168 {K : Sg → Option (Int32 × Sg)} {τ : Sg} : l_X6_town_168 K FU 0 τ = K (pA τ 13 (upd (upd (upd (gA τ 13) 0 (-1)) 1 (-1)) 2 (-1))) := by
  have := loopP (fun N j τ => l_X6_town_168 K N (nI j) τ) K (fun j (τ : Sg) => pA τ 13 (upd (gA τ 13) j (-1))) 3
    (fun N τ => by
      show l_X6_town_168 K (N + 1) (nI 3) τ = _
      unfold l_X6_town_168
      rw [if_pos (by decide)])
    (fun N j τ hj => by
      show l_X6_town_168 K (N + 1) (nI j) τ = _
      conv => lhs; unfold l_X6_town_168
      rw [show (3 : Int32) = nI 3 from rfl, if_neg (nI_ge hj (by omega)), inB_nI (by rw [mL13]; omega) (by rw [mL13]; decide), nI_clamp (by omega)]
      simp only [ckT, bfT, bfF, bndS, bnd2S, nmE, nI_1]) 3 0 FU τ (by omega) (lt_FU (by omega))
  refine this.trans (congrArg K ?_)
  rw [show (3 : Nat) = 2 + 1 from rfl, fo_succ, fo_succ, fo_succ, pA_pA, pA_pA, gA_same, gA_same]
  rfl
theorem townM {n : Nat} {w : Nat → Int32} {τ : Sg} (hw : STW n w) (hM : MS n w τ) : ∃ τ3 : Sg, (nm (pS τ 16 (gS τ 13)) (fun σ3 => (nm (pS σ3 17 (gS σ3 14)) (fun σ4 => (l_X6_town_57
    (fun (σv87 : Sg) => (ck (inB (3 : Int32) (mLen 9)) (nm (pA σv87 9 (upd (gA σv87 9) (3 : Int32).toNatClampNeg (gS σv87 12))) (fun σ7 => (l_X6_town_99
    (fun (σv161 : Sg) => (nm (pS σv161 22 (0 : Int32)) (fun σ12 => (l_X6_town_168
    (fun (σv186 : Sg) => (some ((gS σv186 17), σv186))) FU (0 : Int32) σ12)))) FU (0 : Int32) σ7))))) FU (0 : Int32) σ4))))) = some (nI n, τ3) ∧ HM n (iniV w) τ3 ∧ gS τ3 22 = nI 0 ∧ (∀ k, k < 3 → gA τ3 13 k = -1) ∧ (∀ a, a ≠ 7 → a ≠ 8 → a ≠ 9 → a ≠ 13 → gA τ3 a = gA τ a) ∧ (∀ k, k ≠ 16 → k ≠ 17 → k ≠ 22 → gS τ3 k = gS τ k) ∧ ∀ k, gL τ3 k = gL τ k := by
  obtain ⟨v1, v2, v3, v4⟩ := hM
  have hn6 := hw.1
  rw [nmE, nmE, t57, show inB (3 : Int32) (mLen 9) = true from by decide, ckT, nmE, cl3, pA_pA]
  -- the state before the houses
  obtain ⟨τ1, e1⟩ : ∃ x, x = pS (pS τ 16 (gS τ 13)) 17 (gS (pS τ 16 (gS τ 13)) 14) := ⟨_, rfl⟩
  rw [← e1]
  have s17 : gS τ1 17 = nI n := by rw [e1, gS_same, gS_ne _ _ (by decide)]; exact v1
  have s16 : gS τ1 16 = w 35 := by rw [e1, gS_ne _ _ (by decide), gS_same]; exact v2
  have sS : ∀ k, k ≠ 16 → k ≠ 17 → gS τ1 k = gS τ k := fun k k1 k2 => by rw [e1, gS_ne _ _ k2, gS_ne _ _ k1]
  have sA : ∀ a, gA τ1 a = gA τ a := fun a => by rw [e1]; rfl
  have sL : ∀ k, gL τ1 k = gL τ k := fun k => by rw [e1]; rfl
  clear e1
  obtain ⟨F, eF⟩ : ∃ F, F = upd (gA (pA τ1 9 (fun x => if x < 23 then (if 17 ≤ x then -9 else 0) else gA τ1 9 x)) 9) 3 (gS (pA τ1 9 (fun x => if x < 23 then (if 17 ≤ x then -9 else 0) else gA τ1 9 x)) 12) := ⟨_, rfl⟩
  rw [← eF]
  have hF : ∀ x, x < 23 → F x = if x = 3 then w 36 else if 17 ≤ x then -9 else 0 := fun x hx => by
    rw [eF, gA_same, gS_pA, sS 12 (by decide) (by decide), v3]
    unfold upd
    dsimp only
    rw [if_pos (show x < 23 from hx)]
  clear eF
  obtain ⟨τ2, x1, y1, y2, y3, y4, y5⟩ := t99 (K := fun (σv161 : Sg) => (nm (pS σv161 22 (0 : Int32)) (fun σ12 => (l_X6_town_168 (fun (σv186 : Sg) => (some ((gS σv186 17), σv186))) FU (0 : Int32) σ12)))) (τ := pA τ1 9 F) hw.1 s17
  rw [x1, nmE, t168]
  clear x1
  have z6 : gA (pA τ1 9 F) 6 = gA τ 6 := (gA_ne _ _ (by decide)).trans (sA 6)
  rw [z6] at y4 y5
  simp only [gA_same] at y5
  have z17 : gS τ2 17 = nI n := (y1 17).trans s17
  refine ⟨pA (pS τ2 22 0) 13 (upd (upd (upd (gA (pS τ2 22 0) 13) 0 (-1)) 1 (-1)) 2 (-1)), by rw [gS_pA, gS_ne _ _ (by decide), z17], ⟨hw.1, z17, (y1 16).trans s16, fun k hk => ?_, fun i hi => ?_⟩, ?_, fun k hk => ?_, fun a k1 k2 k3 k4 => ?_, fun k k1 k2 k3 => ?_, fun k => (y2 k).trans (sL k)⟩
  · rw [gA_ne _ _ (by decide), gA_pS, y5, if_neg (by omega), hF k (by omega)]
    unfold iniV
    by_cases k3 : k = 3
    · subst k3; rfl
    · rw [if_neg k3, if_neg (show ¬ 17 ≤ k by omega), if_neg (show ¬ 23 ≤ k by omega), if_neg k3, if_neg (show ¬ (5 ≤ k ∧ k < 11) by omega)]
  · obtain ⟨j1, j2⟩ := y4 i hi
    obtain ⟨l1, l2, l3⟩ := v4 i hi
    refine ⟨?_, ?_, ?_, ?_, ?_⟩
    · rw [gA_ne _ _ (by decide), gA_pS, j1, l1]
      unfold iniV; rw [if_pos (by omega)]
    · rw [gA_ne _ _ (by decide), gA_pS, j2, l3]
      unfold iniV; rw [if_pos (by omega)]
    · rw [gA_ne _ _ (by decide), gA_pS, y5, if_pos (by omega), show 5 + i - 5 = i by omega, l2]
      unfold iniV; rw [if_neg (by omega), if_neg (by omega), if_pos (by omega), show 37 + (5 + i - 5) = 37 + i by omega]
    · rw [gA_ne _ _ (by decide), gA_pS, y5, if_neg (by omega), hF (11 + i) (by omega)]
      unfold iniV
      rw [if_neg (show ¬ 11 + i = 3 by omega), if_neg (show ¬ 17 ≤ 11 + i by omega), if_neg (show ¬ 23 ≤ 11 + i by omega), if_neg (show ¬ 11 + i = 3 by omega), if_neg (show ¬ (5 ≤ 11 + i ∧ 11 + i < 11) by omega)]
    · rw [gA_ne _ _ (by decide), gA_pS, y5, if_neg (by omega), hF (17 + i) (by omega)]
      unfold iniV
      rw [if_neg (show ¬ 17 + i = 3 by omega), if_pos (show 17 ≤ 17 + i by omega), if_neg (show ¬ 23 ≤ 17 + i by omega), if_neg (show ¬ 17 + i = 3 by omega), if_neg (show ¬ (5 ≤ 17 + i ∧ 17 + i < 11) by omega)]
  · rw [gS_pA, gS_same]; rfl
  · rw [gA_same]
    unfold upd
    rcases (show k = 0 ∨ k = 1 ∨ k = 2 by omega) with z | z | z <;> subst z <;> rfl
  · rw [gA_ne _ _ k4, gA_pS, y3 a k1 k2 k3, gA_ne _ _ k3]; exact sA a
  · rw [gS_pA, gS_ne _ _ k3, y1 k]; exact sS k k1 k2
theorem townC {n d : Nat} {w : Nat → Int32} {σ : Sg} (hd : isS d) (hgd : gR σ 1 = d) (hn0 : 0 < n) (hD : DS d n w σ) : ∃ σ3 : Sg, (nm (pR σ 0 (gR σ 1)) (fun σ8 => (nm (pR σ8 1 (gR σ 0)) (fun σ9 => (bnd (f_X0_fill (stI (gR σ9 0) 6) (0 : Int32) (0 : Int32) σ9) (fun σ11 => (bnd (f_X4_replay (gR σ11 0) σ11) (fun σ13 => (l_X5_town_87
    (fun (σv122 : Sg) => (some ((gS σv122 (16 * (gR σv122 0) + 7)), σv122))) FU (0 : Int32) σ13))))))))) = some (nI n, σ3) ∧ CT n w [] d σ3 ∧ gR σ3 0 = d ∧ gR σ3 1 = gR σ 0 ∧ gR σ3 2 = gR σ 2 ∧ (∀ k, k < 16 * 15 → ¬ (16 * d ≤ k ∧ k < 16 * d + 16) → gS σ3 k = gS σ k) ∧ gS σ3 (16 * 18 + 1) = gS σ (16 * 18 + 1) ∧ (∀ a, a < 19 → gA σ3 a = gA σ a) ∧ (∀ k, gL σ3 k = gL σ k) ∧ ∀ k, k < 3 → gS σ3 (16 * (15 + k) + 1) = -1 := by
  have hdd := hd
  unfold isS at hdd
  have e6 : stI d 6 = 7 * d - 2 + 6 := rfl
  have e0 : stI d 0 = 7 * d - 2 + 0 := rfl
  have e1 : stI d 1 = 7 * d - 2 + 1 := rfl
  have e2 : stI d 2 = 7 * d - 2 + 2 := rfl
  have e3 : stI d 3 = 7 * d - 2 + 3 := rfl
  have e4 : stI d 4 = 7 * d - 2 + 4 := rfl
  have e5 : stI d 5 = 7 * d - 2 + 5 := rfl
  rw [nmE, nmE, hgd]
  have ga : gR (pR (pR σ 0 d) 1 (gR σ 0)) 0 = d := rfl
  rw [ga, show f_X0_fill (stI d 6) 0 0 (pR (pR σ 0 d) 1 (gR σ 0)) = _ from X0_fill_i (k := 0) (Nat.zero_le _), bndS]
  obtain ⟨σ1, q1⟩ : ∃ x, x = pA (pS (pR (pR σ 0 d) 1 (gR σ 0)) (16 * stI d 6 + 1) (nI 0)) (stI d 6) (fun i => if i < 0 then 0 else gA (pR (pR σ 0 d) 1 (gR σ 0)) (stI d 6) i) := ⟨_, rfl⟩
  rw [← q1]
  have r0 : gR σ1 0 = d := by rw [q1]; rfl
  have r1 : gR σ1 1 = gR σ 0 := by rw [q1]; rfl
  have r2 : gR σ1 2 = gR σ 2 := by rw [q1]; rfl
  have rS : ∀ k, k ≠ 16 * stI d 6 + 1 → gS σ1 k = gS σ k := fun k hk => by rw [q1, gS_pA, gS_ne _ _ hk]; rfl
  have r6 : gS σ1 (16 * stI d 6 + 1) = nI 0 := by rw [q1, gS_pA, gS_same]
  have rA : ∀ a, a ≠ stI d 6 → gA σ1 a = gA σ a := fun a ha => by rw [q1, gA_ne _ _ ha]; rfl
  have rL : ∀ k, gL σ1 k = gL σ k := fun k => by rw [q1]; rfl
  clear q1
  have hD2 : DS d n w σ1 := by
    obtain ⟨u1, u2, u3, u4, u5, u6, u7, u8⟩ := hD
    refine ⟨u1, (rS _ (by omega)).trans u2, (rS _ (by omega)).trans u3, (rS _ (by omega)).trans u4, (rS _ (by omega)).trans u5, (rS _ (by omega)).trans u6, (rS _ (by omega)).trans u7, fun i hi => ?_⟩
    rw [rA _ (by omega), rA _ (by omega), rA _ (by omega)]
    exact u8 i hi
  obtain ⟨σ2, p1, p2, p3⟩ := replay0 hd hD2 r6
  rw [r0, p1, bndS, dropC]
  clear p1
  have hCT : CT n w [] d σ2 := by
    refine ⟨p2, ⟨?_, fun k hk => absurd hk (by simp)⟩, Or.inl (p2.2.2.2.2.1 2 (by decide) hn0)⟩
    rw [p3.1 _ (by omega) (by omega) (by omega) (by omega)]
    exact r6
  have ej : ∀ j, stI d j = 7 * d - 2 + j := fun _ => rfl
  obtain ⟨σ3, s1⟩ : ∃ x, x = pS (pS (pS σ2 (16 * (15 + 0) + 1) (-1)) (16 * (15 + 1) + 1) (-1)) (16 * (15 + 2) + 1) (-1) := ⟨_, rfl⟩
  rw [← s1]
  have tR : ∀ k, gR σ3 k = gR σ1 k := fun k => by rw [s1]; exact p3.2.2.2 k
  have tS : ∀ k, k ≠ 16 * (15 + 0) + 1 → k ≠ 16 * (15 + 1) + 1 → k ≠ 16 * (15 + 2) + 1 → gS σ3 k = gS σ2 k := fun k k1 k2 k3 => by rw [s1, gS_ne _ _ k3, gS_ne _ _ k2, gS_ne _ _ k1]
  have tA : ∀ a, gA σ3 a = gA σ2 a := fun a => by rw [s1]; rfl
  have tL : ∀ k, gL σ3 k = gL σ2 k := fun k => by rw [s1]; rfl
  have tk : ∀ k, k < 3 → gS σ3 (16 * (15 + k) + 1) = -1 := fun k hk => by
    rw [s1]
    rcases (show k = 0 ∨ k = 1 ∨ k = 2 by omega) with z | z | z <;> subst z
    · rw [gS_ne _ _ (by decide), gS_ne _ _ (by decide), gS_same]
    · rw [gS_ne _ _ (by decide), gS_same]
    · rw [gS_same]
  clear s1
  refine ⟨σ3, ?_, hCT.cgs (fun j _ _ => tS _ (by omega) (by omega) (by omega)) (fun j hj => tS _ (by have := ej j; omega) (by have := ej j; omega) (by have := ej j; omega)) (fun j _ => tA _), (tR 0).trans r0, (tR 1).trans r1, (tR 2).trans r2, fun k k1 k2 => ?_, ?_, fun a ha => ?_, fun k => (tL k).trans ((p3.2.2.1 k).trans (rL k)), tk⟩
  · rw [tR 0, r0, tS _ (by omega) (by omega) (by omega), p2.2.2.1]
  · rw [tS _ (by omega) (by omega) (by omega), p3.1 k (by omega) (by omega) (by omega) (by omega), rS _ (by omega)]
  · rw [tS _ (by omega) (by omega) (by omega), p3.1 _ (by omega) (by omega) (by omega) (by omega), rS _ (by omega)]
  · rw [tA, p3.2.1 a (by omega) (by omega) (by omega), rA _ (by omega)]
theorem st_town : S_town Rel := by
  intro σ τ a1 h
  unfold f_X5_town f_X6_town
  rw [X6_in_v, bndS]
  rcases inV_c a1 (b := 3) (by decide) with ⟨r, hr, rfl, ed⟩ | ⟨ho, ed⟩
  rotate_left
  · rw [show (3 : Int32) = nI 3 from rfl, ed, bfF, pick_o (q := 72) ho, bndS, ocN]
    exact ⟨_, _, _, rfl, rfl, h⟩
  have i3' : inB (nI r) (mLen 3) = true := inB_nI (by rw [mL3]; omega) (by rw [mL3]; decide)
  rw [show inV (nI r) 0 3 = true from ed, bfT, pick_i (q := 72) (show r < 4 by omega), bndS, ocS, show rBase 72 + r = 11 + r from rfl, i3', ckT, nI_clamp (by omega)]
  obtain ⟨b1, b2⟩ := h.2.2.2.1 r (by omega)
  rcases b2 with b2 | ⟨m, q1, q2, q3⟩
  · rw [b2] at b1 ⊢
    obtain ⟨σ', τ', g1, g2, g3⟩ := found_R h (f := 1) (by decide)
    rw [refused_m b1 g1, bnd2S, if_neg (by decide), if_neg (by decide), show f_X6_finds 1 τ = some (-3, τ') from g2, bnd2S]
    exact ⟨_, _, _, rfl, rfl, g3⟩
  have q2' := q2
  rw [q2] at b1 ⊢
  rw [refused_p b1 (by omega), bnd2S, if_pos rfl, if_pos (nI_pos' (by omega))]
  obtain ⟨x, σ', τ', i1, i2, i3, i4, i5, i6⟩ := read_R (t := r) (m := m) (tx := fun i => gA τ 4 (60 * r + i)) (g := gR σ 1) (σ := σ) (τ := τ) h.1.2.1 (by omega) q1 b1 q3 q2' (fun _ _ => rfl)
  have hR := Rel_read (t := r) (by omega) h i3 i4 i5
  rw [i1, i2, bnd2S, bnd2S]
  by_cases ex : x = -9
  rotate_left
  · rw [if_neg ex, if_neg ex]
    exact ⟨_, _, _, rfl, rfl, hR⟩
  rw [if_pos ex, if_pos ex]
  obtain ⟨n, w, hn0, hw, hD, hM⟩ := i6 ex
  have r1 : gR σ' 1 = gR σ 1 := i3.2.2.2 1 (by decide)
  rw [← r1] at hD
  obtain ⟨h1, h2, h3, h4, h5, -⟩ := hR
  have hd := h1.2.1
  have hdd := hd
  unfold isS at hdd
  obtain ⟨σ3, c1, c2, c3, c4, c5, fS, f18, fA, fL, fk⟩ := townC hd rfl hn0 hD
  obtain ⟨τ3, m1, m2, m3, m4, gA', gS', gL'⟩ := townM hw hM
  refine ⟨nI n, σ3, τ3, c1, m1, ⟨by rw [c3]; exact hd, by rw [c4]; exact h1.1, by rw [c5]; exact h1.2.2⟩, by rw [c3, c4]; exact fun z => h2 z.symm, ?_, ?_, ?_, n, w, [], hw, ⟨by decide, fun c hc => by cases hc⟩, by rw [c3]; exact c2, ⟨m2, m3, fun k hk => absurd hk (by simp)⟩, fun k hk => ⟨(fk k hk).trans (m4 k hk).symm, Or.inl (m4 k hk)⟩⟩
  · exact h3.cg (fun k hk => fS _ (by omega) (by omega)) (fun k hk => fA _ (by omega)) ⟨gA' _ (by decide) (by decide) (by decide) (by decide), gA' _ (by decide) (by decide) (by decide) (by decide)⟩
  · exact h4.cg (fun k hk => fS _ (by omega) (by omega)) (fun k hk => fA _ (by omega)) ⟨gA' _ (by decide) (by decide) (by decide) (by decide), gA' _ (by decide) (by decide) (by decide) (by decide)⟩
  · obtain ⟨a1, a2, a3, a4, a5, a6⟩ := h5
    refine ⟨?_, ?_, ?_, ?_, ?_, fun i hi => ?_⟩
    · rw [fS _ (by omega) (by omega), gS' _ (by decide) (by decide) (by decide)]; exact a1
    · rw [fS _ (by omega) (by omega), gS' _ (by decide) (by decide) (by decide)]; exact a2
    · rw [fL, gL']; exact a3
    · rw [fL, gL']; exact a4
    · rw [f18]; exact a5
    · rw [fA _ (by omega), gA' _ (by decide) (by decide) (by decide) (by decide)]; exact a6 i hi
