theorem pS_self (σ : Sg) (k : Nat) : pS σ k (gS σ k) = σ := by
  unfold pS gS
  have : va_up σ.1 k (σ.1 k) = σ.1 := by
    funext j
    simp only [va_up]
    split
    · next h => rw [h]
    · rfl
  rw [this]
theorem upd_self (f : Nat → Int32) (k : Nat) : upd f k (f k) = f := by
  funext j
  unfold upd
  split
  · next h => rw [h]
  · rfl
theorem inVm_t {i m : Nat} (h : i < m) (hm : m < 2 ^ 31) : inV (nI i) 0 (nI m - 1) = true := by
  rw [show (1 : Int32) = nI 1 from rfl, nIsub (by omega)]
  exact inV_t (by omega) (by omega)
theorem inVm_f {x : Int32} {m : Nat} (hm : m < 2 ^ 31) (hx : x < 0 ∨ (¬ x < 0 ∧ nI m ≤ x)) : inV x 0 (nI m - 1) = false := by
  rcases Nat.eq_zero_or_pos m with e | e
  · subst e
    unfold inV
    rcases hx with h1 | ⟨h1, h2⟩
    · simp [h1]
    · have : nI 0 - 1 < x := by
        rw [Int32.lt_iff_toInt_lt] at h1 ⊢
        have e0 : (0 : Int32).toInt = 0 := by decide
        have e1 : (nI 0 - 1).toInt = -1 := by decide
        omega
      simp [this]
  · rw [show (1 : Int32) = nI 1 from rfl, nIsub (by omega)]
    refine inV_f (by omega) ?_
    rwa [show m - 1 + 1 = m by omega]
/-! a row written, its size with it -/
theorem Rel_row {σ τ : Sg} (h : Rel σ τ) {r : Nat} (hr : r < 6) {x : Int32} {f g : Nat → Int32} (hx : x = -1 ∨ ∃ m, m ≤ 40 ∧ x = nI m ∧ ∀ i, i < m → f i = g (40 * r + i)) (hg : ∀ y, ¬ (40 * r ≤ y ∧ y < 40 * r + 40) → g y = gA τ 2 y) :
    Rel (pA (pS σ (16 * (5 + r) + 1) x) (5 + r) f) (pA (pA τ 1 (upd (gA τ 1) r x)) 2 g) := by
  obtain ⟨h1, h2, h3, h4, h5, n, w, cs, t1, t2, t3, t4, t5⟩ := h
  refine ⟨h1, h2, fun k hk => ?_, ?_, ?_, n, w, cs, t1, t2, ?_, ?_, ?_⟩
  · obtain ⟨b1, b2⟩ := h3 k hk
    rw [gS_pA, gA_ne _ _ (show (1 : Nat) ≠ 2 by decide), gA_same, gA_same]
    by_cases e : k = r
    · subst e
      refine ⟨by rw [gS_same]; unfold upd; rw [if_pos rfl], ?_⟩
      unfold upd
      rw [if_pos rfl]
      rcases hx with hx | ⟨m, q1, q2, q3⟩
      · exact Or.inl hx
      · exact Or.inr ⟨m, q1, q2, fun i hi => by rw [gA_same]; exact q3 i hi⟩
    · refine ⟨by rw [gS_ne _ _ (by omega), b1]; unfold upd; rw [if_neg e], ?_⟩
      unfold upd
      rw [if_neg e]
      rcases b2 with b2 | ⟨m, q1, q2, q3⟩
      · exact Or.inl b2
      · refine Or.inr ⟨m, q1, q2, fun i hi => ?_⟩
        rw [gA_ne _ _ (by omega), gA_pS, hg _ (by omega)]
        exact q3 i hi
  · exact h4.cg (fun k hk => gS_ne _ _ (by omega)) (fun k hk => gA_ne _ _ (by omega)) ⟨by rw [gA_ne _ _ (by decide), gA_ne _ _ (by decide)], by rw [gA_ne _ _ (by decide), gA_ne _ _ (by decide)]⟩
  · obtain ⟨a1, a2, a3, a4, a5, a6⟩ := h5
    refine ⟨?_, ?_, a3, a4, ?_, fun i hi => ?_⟩
    · rw [gS_pA, gS_ne _ _ (by omega)]; exact a1
    · rw [gS_pA, gS_ne _ _ (by omega)]; exact a2
    · rw [gS_pA, gS_ne _ _ (by omega)]; exact a5
    · rw [gA_ne _ _ (by omega), gA_pS, gA_ne _ _ (by decide), gA_ne _ _ (by decide)]; exact a6 i hi
  · exact t3.cg (fun k hk => gS_ne _ _ (by omega)) (fun a ha => gA_ne _ _ (by omega))
  · exact t4.cg ⟨rfl, rfl, rfl⟩ ⟨by rw [gA_ne _ _ (by decide), gA_ne _ _ (by decide)], by rw [gA_ne _ _ (by decide), gA_ne _ _ (by decide)], by rw [gA_ne _ _ (by decide), gA_ne _ _ (by decide)], by rw [gA_ne _ _ (by decide), gA_ne _ _ (by decide)]⟩
  · exact t5.cg (fun k hk => gS_ne _ _ (by omega)) (fun k hk => gA_ne _ _ (by omega)) ⟨by rw [gA_ne _ _ (by decide), gA_ne _ _ (by decide)], by rw [gA_ne _ _ (by decide), gA_ne _ _ (by decide)], by rw [gA_ne _ _ (by decide), gA_ne _ _ (by decide)]⟩
theorem Rel_txt {σ τ : Sg} (h : Rel σ τ) {r : Nat} (hr : r < 4) {x : Int32} {f g : Nat → Int32} (hx : x = -1 ∨ ∃ m, m ≤ 60 ∧ x = nI m ∧ ∀ i, i < m → f i = g (60 * r + i)) (hg : ∀ y, ¬ (60 * r ≤ y ∧ y < 60 * r + 60) → g y = gA τ 4 y) :
    Rel (pA (pS σ (16 * (11 + r) + 1) x) (11 + r) f) (pA (pA τ 3 (upd (gA τ 3) r x)) 4 g) := by
  obtain ⟨h1, h2, h3, h4, h5, n, w, cs, t1, t2, t3, t4, t5⟩ := h
  refine ⟨h1, h2, ?_, fun k hk => ?_, ?_, n, w, cs, t1, t2, ?_, ?_, ?_⟩
  · exact h3.cg (fun k hk => gS_ne _ _ (by omega)) (fun k hk => gA_ne _ _ (by omega)) ⟨by rw [gA_ne _ _ (by decide), gA_ne _ _ (by decide)], by rw [gA_ne _ _ (by decide), gA_ne _ _ (by decide)]⟩
  · obtain ⟨b1, b2⟩ := h4 k hk
    rw [gS_pA, gA_ne _ _ (show (3 : Nat) ≠ 4 by decide), gA_same, gA_same]
    by_cases e : k = r
    · subst e
      refine ⟨by rw [gS_same]; unfold upd; rw [if_pos rfl], ?_⟩
      unfold upd
      rw [if_pos rfl]
      rcases hx with hx | ⟨m, q1, q2, q3⟩
      · exact Or.inl hx
      · exact Or.inr ⟨m, q1, q2, fun i hi => by rw [gA_same]; exact q3 i hi⟩
    · refine ⟨by rw [gS_ne _ _ (by omega), b1]; unfold upd; rw [if_neg e], ?_⟩
      unfold upd
      rw [if_neg e]
      rcases b2 with b2 | ⟨m, q1, q2, q3⟩
      · exact Or.inl b2
      · refine Or.inr ⟨m, q1, q2, fun i hi => ?_⟩
        rw [gA_ne _ _ (by omega), gA_pS, hg _ (by omega)]
        exact q3 i hi
  · obtain ⟨a1, a2, a3, a4, a5, a6⟩ := h5
    refine ⟨?_, ?_, a3, a4, ?_, fun i hi => ?_⟩
    · rw [gS_pA, gS_ne _ _ (by omega)]; exact a1
    · rw [gS_pA, gS_ne _ _ (by omega)]; exact a2
    · rw [gS_pA, gS_ne _ _ (by omega)]; exact a5
    · rw [gA_ne _ _ (by omega), gA_pS, gA_ne _ _ (by decide), gA_ne _ _ (by decide)]; exact a6 i hi
  · exact t3.cg (fun k hk => gS_ne _ _ (by omega)) (fun a ha => gA_ne _ _ (by omega))
  · exact t4.cg ⟨rfl, rfl, rfl⟩ ⟨by rw [gA_ne _ _ (by decide), gA_ne _ _ (by decide)], by rw [gA_ne _ _ (by decide), gA_ne _ _ (by decide)], by rw [gA_ne _ _ (by decide), gA_ne _ _ (by decide)], by rw [gA_ne _ _ (by decide), gA_ne _ _ (by decide)]⟩
  · exact t5.cg (fun k hk => gS_ne _ _ (by omega)) (fun k hk => gA_ne _ _ (by omega)) ⟨by rw [gA_ne _ _ (by decide), gA_ne _ _ (by decide)], by rw [gA_ne _ _ (by decide), gA_ne _ _ (by decide)], by rw [gA_ne _ _ (by decide), gA_ne _ _ (by decide)]⟩
theorem cLen_row {r : Nat} (h : r < 6) : cLen (5 + r) = 40 := by unfold cLen; rw [if_pos (by omega)]
theorem cLen_txt {r : Nat} (h : r < 4) : cLen (11 + r) = 60 := by unfold cLen; rw [if_neg (by omega), if_pos (by omega)]
/-- a row's items cleared, blanks laid -/
theorem row0 {r : Nat} {a2 : Int32} {K : Sg → Option (Int32 × Sg)} {τ : Sg} (hr : r < 6) : l_X6_row_36 (nI r) a2 K FU 0 τ = K (pA τ 2 (fun y => if 40 * r ≤ y ∧ y < 40 * r + 40 then 0 else gA τ 2 y)) := by
  have := (loopL (fun N j τ => l_X6_row_36 (nI r) a2 K N (nI j) τ) K (fun j τ => pA τ 2 (upd (gA τ 2) (40 * r + j) 0)) 40 (fun j τ' => τ' = pA τ 2 (fun y => if 40 * r ≤ y ∧ y < 40 * r + j then 0 else gA τ 2 y))
    (fun N τ' _ => by
      show l_X6_row_36 (nI r) a2 K (N + 1) (nI 40) τ' = _
      unfold l_X6_row_36
      rw [if_pos (by decide)])
    (fun N j τ' hj hI => by
      refine ⟨?_, ?_⟩
      · show l_X6_row_36 (nI r) a2 K (N + 1) (nI j) τ' = _
        conv => lhs; unfold l_X6_row_36
        rw [ml40, show (40 : Int32) = nI 40 from rfl, if_neg (nI_ge hj (by omega)), nI_add, inB_nI (by rw [mL2]; omega) (by rw [mL2]; decide), nI_clamp (by omega), ckT, nmE, nmE, nI_1]
      · rw [hI, pA_pA, gA_same]
        congr 1
        funext y
        unfold upd
        dsimp only
        by_cases e : y = 40 * r + j
        · rw [if_pos e, if_pos (by omega)]
        · rw [if_neg e]
          by_cases e2 : 40 * r ≤ y ∧ y < 40 * r + j
          · rw [if_pos e2, if_pos (by omega)]
          · rw [if_neg e2, if_neg (by omega)])
    40 0 FU τ (by omega) (lt_FU (by omega)) (by
      rw [show (fun y => if 40 * r ≤ y ∧ y < 40 * r + 0 then (0 : Int32) else gA τ 2 y) = gA τ 2 from funext fun y => by rw [if_neg (by omega)], pA_self]))
  refine this.1.trans ?_
  rw [this.2]
theorem text0 {r : Nat} {a2 : Int32} {K : Sg → Option (Int32 × Sg)} {τ : Sg} (hr : r < 4) : l_X6_text_36 (nI r) a2 K FU 0 τ = K (pA τ 4 (fun y => if 60 * r ≤ y ∧ y < 60 * r + 60 then 32 else gA τ 4 y)) := by
  have := (loopL (fun N j τ => l_X6_text_36 (nI r) a2 K N (nI j) τ) K (fun j τ => pA τ 4 (upd (gA τ 4) (60 * r + j) 32)) 60 (fun j τ' => τ' = pA τ 4 (fun y => if 60 * r ≤ y ∧ y < 60 * r + j then 32 else gA τ 4 y))
    (fun N τ' _ => by
      show l_X6_text_36 (nI r) a2 K (N + 1) (nI 60) τ' = _
      unfold l_X6_text_36
      rw [if_pos (by decide)])
    (fun N j τ' hj hI => by
      refine ⟨?_, ?_⟩
      · show l_X6_text_36 (nI r) a2 K (N + 1) (nI j) τ' = _
        conv => lhs; unfold l_X6_text_36
        rw [ml60, show (60 : Int32) = nI 60 from rfl, if_neg (nI_ge hj (by omega)), nI_add, inB_nI (by rw [mL4]; omega) (by rw [mL4]; decide), nI_clamp (by omega), ckT, nmE, nmE, nI_1]
      · rw [hI, pA_pA, gA_same]
        congr 1
        funext y
        unfold upd
        dsimp only
        by_cases e : y = 60 * r + j
        · rw [if_pos e, if_pos (by omega)]
        · rw [if_neg e]
          by_cases e2 : 60 * r ≤ y ∧ y < 60 * r + j
          · rw [if_pos e2, if_pos (by omega)]
          · rw [if_neg e2, if_neg (by omega)])
    60 0 FU τ (by omega) (lt_FU (by omega)) (by
      rw [show (fun y => if 60 * r ≤ y ∧ y < 60 * r + 0 then (32 : Int32) else gA τ 4 y) = gA τ 4 from funext fun y => by rw [if_neg (by omega)], pA_self]))
  refine this.1.trans ?_
  rw [this.2]
theorem st_row : S_row Rel := by
  intro σ τ a1 a2 h
  unfold f_X5_row f_X6_row
  rw [X6_in_v, bndS]
  rcases inV_c a1 (b := 5) (by decide) with ⟨r, hr, rfl, ed⟩ | ⟨ho, ed⟩
  · rw [show (5 : Int32) = nI 5 from rfl, ed, bfT, pick_i (q := 71) (show r < 6 by omega), bndS, ocS]
    by_cases e1 : a2 ≤ 40
    · rw [if_pos e1, if_pos e1]
      by_cases e2 : 0 ≤ a2
      · obtain ⟨m, hm, rfl⟩ := nI_of2 (M := 40) (n := 40) (by decide) (Int32.not_lt.mpr e2) e1
        rw [if_pos e2, if_pos e2, show rBase 71 + r = 5 + r from rfl, X0_fill_i (by rw [cLen_row (by omega)]; exact hm), bndS, inB_nI (by rw [mL1]; omega) (by rw [mL1]; decide), ckT, nmE, nI_clamp (by omega), row0 (by omega)]
        refine ⟨_, _, _, rfl, rfl, Rel_row h (by omega) (Or.inr ⟨m, hm, rfl, fun i hi => ?_⟩) (fun y hy => ?_)⟩
        · rw [if_pos hi, if_pos (by omega)]
        · rw [if_neg hy, gA_ne _ _ (by decide)]
      · rw [if_neg e2, if_neg e2]
        obtain ⟨σ', τ', g1, g2, g3⟩ := found_R h (f := 5) (by decide)
        first | rw [g1, g2] | rw [show (5 : Int32) = nI 5 from rfl, g1, g2]
        exact ⟨_, _, _, rfl, rfl, g3⟩
    · rw [if_neg e1, if_neg e1]
      exact ⟨_, _, _, rfl, rfl, h⟩
  · rw [show (5 : Int32) = nI 5 from rfl, ed, bfF, pick_o (q := 71) ho, bndS, ocN]
    exact ⟨_, _, _, rfl, rfl, h⟩
theorem st_text : S_text Rel := by
  intro σ τ a1 a2 h
  unfold f_X5_text f_X6_text
  rw [X6_in_v, bndS]
  rcases inV_c a1 (b := 3) (by decide) with ⟨r, hr, rfl, ed⟩ | ⟨ho, ed⟩
  · rw [show (3 : Int32) = nI 3 from rfl, ed, bfT, pick_i (q := 72) (show r < 4 by omega), bndS, ocS]
    by_cases e1 : a2 ≤ 60
    · rw [if_pos e1, if_pos e1]
      by_cases e2 : 0 ≤ a2
      · obtain ⟨m, hm, rfl⟩ := nI_of2 (M := 60) (n := 60) (by decide) (Int32.not_lt.mpr e2) e1
        rw [if_pos e2, if_pos e2, show rBase 72 + r = 11 + r from rfl, X0_fill_i (by rw [cLen_txt (by omega)]; exact hm), bndS, inB_nI (by rw [mL3]; omega) (by rw [mL3]; decide), ckT, nmE, nI_clamp (by omega), text0 (by omega)]
        refine ⟨_, _, _, rfl, rfl, Rel_txt h (by omega) (Or.inr ⟨m, hm, rfl, fun i hi => ?_⟩) (fun y hy => ?_)⟩
        · rw [if_pos hi, if_pos (by omega)]
        · rw [if_neg hy, gA_ne _ _ (by decide)]
      · rw [if_neg e2, if_neg e2]
        obtain ⟨σ', τ', g1, g2, g3⟩ := found_R h (f := 5) (by decide)
        first | rw [g1, g2] | rw [show (5 : Int32) = nI 5 from rfl, g1, g2]
        exact ⟨_, _, _, rfl, rfl, g3⟩
    · rw [if_neg e1, if_neg e1]
      exact ⟨_, _, _, rfl, rfl, h⟩
  · rw [show (3 : Int32) = nI 3 from rfl, ed, bfF, pick_o (q := 72) ho, bndS, ocN]
    exact ⟨_, _, _, rfl, rfl, h⟩
/-- what a call with a row and a place is refused by, on both sides alike -/
theorem refAt {σ τ : Sg} (h : Rel σ τ) {r : Nat} (hr : r < 6) (a2 : Int32) : (∃ i m, i < m ∧ m ≤ 40 ∧ a2 = nI i ∧ gS σ (16 * (5 + r) + 1) = nI m ∧ f_X5_refusedAt (some (5 + r)) a2 σ = some (0, σ) ∧ f_X6_wrongAt (nI r) a2 τ = some (0, τ)) ∨ ∃ σ' τ', f_X5_refusedAt (some (5 + r)) a2 σ = some (-3, σ') ∧ f_X6_wrongAt (nI r) a2 τ = some (-3, τ') ∧ Rel σ' τ' := by
  obtain ⟨b1, b2⟩ := h.2.2.1 r hr
  unfold f_X5_refusedAt f_X6_wrongAt
  rw [X6_in_v, bndS, show (5 : Int32) = nI 5 from rfl, inV_t (show r ≤ 5 by omega) (by decide), bfT, ocS, inB_nI (by rw [mL1]; omega) (by rw [mL1]; decide), ckT, ckT, nI_clamp (by omega)]
  rcases b2 with b2 | ⟨m, q1, q2, q3⟩
  · rw [b2] at b1 ⊢
    obtain ⟨σ', τ', g1, g2, g3⟩ := found_R h (f := 1) (by decide)
    rw [refused_m b1 g1, bnd2S, if_neg (by decide), if_neg (by decide), show (1 : Int32) = nI 1 from rfl, g2, bnd2S]
    exact Or.inr ⟨_, _, rfl, rfl, g3⟩
  · rw [q2] at b1 ⊢
    rw [refused_p b1 (by omega), bnd2S, if_pos rfl, if_pos (nI_pos' (by omega)), X6_in_v, bndS]
    rcases i32c a2 (show m < 2 ^ 31 by omega) with ⟨i, hi, rfl⟩ | ho
    · rw [X0_has_i b1 (by rw [cLen_row hr]; exact q1) (by omega), bndS, decide_eq_true hi, bfT, inVm_t hi (by omega), bfT]
      exact Or.inl ⟨i, m, hi, q1, rfl, b1, rfl, rfl⟩
    · obtain ⟨σ', τ', g1, g2, g3⟩ := found_R h (f := 2) (by decide)
      have hh : f_X0_has (5 + r) a2 σ = some false := by
        unfold f_X0_has
        rw [b1]
        rcases ho with h1 | ⟨h1, h2⟩
        · rw [if_pos h1]
        · rw [if_neg h1, if_pos h2]
      rw [hh, bndS, bfF, inVm_f (by omega) ho, bfF, show (2 : Int32) = nI 2 from rfl, g1, g2]
      exact Or.inr ⟨_, _, rfl, rfl, g3⟩
theorem refAt_o {σ τ : Sg} {a1 : Int32} (a2 : Int32) (ho : a1 < 0 ∨ (¬ a1 < 0 ∧ nI 6 ≤ a1)) : f_X5_refusedAt none a2 σ = some (-1, σ) ∧ f_X6_wrongAt a1 a2 τ = some (-1, τ) := by
  refine ⟨rfl, ?_⟩
  unfold f_X6_wrongAt
  rw [X6_in_v, bndS, show (5 : Int32) = nI 5 from rfl, inV_f (by decide) ho, bfF]
theorem st_at : S_at Rel := by
  intro σ τ a1 a2 h
  unfold f_X5_at f_X6_at
  rcases inV_c a1 (b := 5) (by decide) with ⟨r, hr, rfl, ed⟩ | ⟨ho, ed⟩
  · rw [pick_i (q := 71) (show r < 6 by omega), bndS, ocS, show rBase 71 + r = 5 + r from rfl]
    rcases refAt h (show r < 6 by omega) a2 with ⟨i, m, hi, hm, rfl, hs, g1, g2⟩ | ⟨σ', τ', g1, g2, g3⟩
    · obtain ⟨b1, b2⟩ := h.2.2.1 r (by omega)
      rw [g1, g2, bnd2S, bnd2S, if_pos rfl, if_pos rfl, X0_get_i hs (by rw [cLen_row (by omega)]; exact hm) hi, bndS, nmE, ml40, nI_add, inB_nI (by rw [mL2]; omega) (by rw [mL2]; decide), ckT, nI_clamp (by omega), X6_tells_v, bnd2S]
      have e : gA σ (5 + r) i = gA τ 2 (40 * r + i) := by
        rcases b2 with b2 | ⟨m', q1, q2, q3⟩
        · rw [b1, b2] at hs
          exact absurd hs.symm (by intro z; have := congrArg Int32.toInt z; rw [nI_toInt (by omega)] at this; have e9 : (-1 : Int32).toInt = -1 := by decide
                                   omega)
        · rw [b1, q2] at hs
          have := (nI_eq (by omega) (by omega)).mp hs
          exact q3 i (by omega)
      rw [e]
      exact ⟨_, _, _, rfl, rfl, asked_R h _⟩
    · rw [g1, g2, bnd2S, bnd2S, if_neg (by decide), if_neg (by decide)]
      exact ⟨_, _, _, rfl, rfl, g3⟩
  · obtain ⟨g1, g2⟩ := refAt_o (σ := σ) (τ := τ) a2 ho
    rw [pick_o (q := 71) ho, bndS, ocN, g1, g2]
    exact ⟨_, _, _, rfl, rfl, h⟩
theorem nI_m1 {m : Nat} (h : m < 2 ^ 31) : ¬ nI m = -1 := by
  intro z
  have := congrArg Int32.toInt z
  rw [nI_toInt h] at this
  have e9 : (-1 : Int32).toInt = -1 := by decide
  omega
/-- the size told, the items are the same -/
theorem row_items {σ τ : Sg} (h : RRow σ τ) {r m : Nat} (hr : r < 6) (hs : gS σ (16 * (5 + r) + 1) = nI m) (hm : m ≤ 40) : gA τ 1 r = nI m ∧ ∀ i, i < m → gA σ (5 + r) i = gA τ 2 (40 * r + i) := by
  obtain ⟨b1, b2⟩ := h r hr
  rw [← b1]
  refine ⟨hs, fun i hi => ?_⟩
  rcases b2 with b2 | ⟨m', q1, q2, q3⟩
  · rw [b1, b2] at hs
    exact absurd hs.symm (nI_m1 (by omega))
  · rw [b1, q2] at hs
    have := (nI_eq (by omega) (by omega)).mp hs
    exact q3 i (by omega)
theorem txt_items {σ τ : Sg} (h : RTxt σ τ) {r m : Nat} (hr : r < 4) (hs : gS σ (16 * (11 + r) + 1) = nI m) (hm : m ≤ 60) : gA τ 3 r = nI m ∧ ∀ i, i < m → gA σ (11 + r) i = gA τ 4 (60 * r + i) := by
  obtain ⟨b1, b2⟩ := h r hr
  rw [← b1]
  refine ⟨hs, fun i hi => ?_⟩
  rcases b2 with b2 | ⟨m', q1, q2, q3⟩
  · rw [b1, b2] at hs
    exact absurd hs.symm (nI_m1 (by omega))
  · rw [b1, q2] at hs
    have := (nI_eq (by omega) (by omega)).mp hs
    exact q3 i (by omega)
/-- items written, the size as it was -/
theorem Rel_items {σ τ : Sg} (h : Rel σ τ) {r m : Nat} (hr : r < 6) (hs : gS σ (16 * (5 + r) + 1) = nI m) (hm : m ≤ 40) {f g : Nat → Int32} (hf : ∀ i, i < m → f i = g (40 * r + i)) (hg : ∀ y, ¬ (40 * r ≤ y ∧ y < 40 * r + 40) → g y = gA τ 2 y) : Rel (pA σ (5 + r) f) (pA τ 2 g) := by
  have := Rel_row h hr (x := nI m) (f := f) (g := g) (Or.inr ⟨m, hm, rfl, hf⟩) hg
  rw [← hs, pS_self, hs, ← (row_items h.2.2.1 hr hs hm).1, upd_self, pA_self] at this
  exact this
theorem Rel_letters {σ τ : Sg} (h : Rel σ τ) {r m : Nat} (hr : r < 4) (hs : gS σ (16 * (11 + r) + 1) = nI m) (hm : m ≤ 60) {f g : Nat → Int32} (hf : ∀ i, i < m → f i = g (60 * r + i)) (hg : ∀ y, ¬ (60 * r ≤ y ∧ y < 60 * r + 60) → g y = gA τ 4 y) : Rel (pA σ (11 + r) f) (pA τ 4 g) := by
  have := Rel_txt h hr (x := nI m) (f := f) (g := g) (Or.inr ⟨m, hm, rfl, hf⟩) hg
  rw [← hs, pS_self, hs, ← (txt_items h.2.2.2.1 hr hs hm).1, upd_self, pA_self] at this
  exact this
theorem st_lay : S_lay Rel := by
  intro σ τ a1 a2 a3 h
  unfold f_X5_lay f_X6_lay
  rcases inV_c a1 (b := 5) (by decide) with ⟨r, hr, rfl, ed⟩ | ⟨ho, ed⟩
  · rw [pick_i (q := 71) (show r < 6 by omega), bndS, ocS, show rBase 71 + r = 5 + r from rfl]
    rcases refAt h (show r < 6 by omega) a2 with ⟨i, m, hi, hm, rfl, hs, g1, g2⟩ | ⟨σ', τ', g1, g2, g3⟩
    · have hcl : m ≤ cLen (5 + r) := by rw [cLen_row (by omega)]; exact hm
      have hit := (row_items h.2.2.1 (show r < 6 by omega) hs hm).2
      rw [g1, g2, bnd2S, bnd2S, if_pos rfl, if_pos rfl, X0_get_i hs hcl hi, bndS, nmE, X0_set_i (σ := pS σ 9 (gA σ (5 + r) i)) (by rw [gS_ne _ _ (by omega)]; exact hs) hcl hi, bndS, ml40, nI_add, inB_nI (by rw [mL2]; omega) (by rw [mL2]; decide), ckT, nmE, ckT, nmE, nI_clamp (by omega), X6_tells_v, bnd2S, hit i hi]
      refine ⟨_, _, _, rfl, rfl, Rel_items (asked_R h _) (by omega) ((gS_ne _ _ (by omega)).trans hs) hm (fun j hj => ?_) (fun y hy => ?_)⟩
      · unfold upd
        by_cases e : j = i
        · rw [if_pos e, if_pos (by omega)]
        · rw [if_neg e, if_neg (by omega)]
          exact hit j hj
      · unfold upd
        rw [if_neg (by omega)]
        rfl
    · rw [g1, g2, bnd2S, bnd2S, if_neg (by decide), if_neg (by decide)]
      exact ⟨_, _, _, rfl, rfl, g3⟩
  · obtain ⟨g1, g2⟩ := refAt_o (σ := σ) (τ := τ) a2 ho
    rw [pick_o (q := 71) ho, bndS, ocN, g1, g2]
    exact ⟨_, _, _, rfl, rfl, h⟩
theorem st_tear : S_tear Rel := by
  intro σ τ a1 h
  unfold f_X5_tear f_X6_tear
  rw [X6_in_v, bndS]
  rcases inV_c a1 (b := 5) (by decide) with ⟨r, hr, rfl, ed⟩ | ⟨ho, ed⟩
  · rw [show (5 : Int32) = nI 5 from rfl, ed, bfT, pick_i (q := 71) (show r < 6 by omega), bndS, ocS, show rBase 71 + r = 5 + r from rfl, inB_nI (by rw [mL1]; omega) (by rw [mL1]; decide), ckT, ckT, nmE, nI_clamp (by omega)]
    obtain ⟨b1, b2⟩ := h.2.2.1 r (by omega)
    rcases b2 with b2 | ⟨m, q1, q2, q3⟩
    · rw [b2] at b1 ⊢
      obtain ⟨σ', τ', g1, g2, g3⟩ := found_R h (f := 1) (by decide)
      rw [refused_m b1 g1, bnd2S, if_neg (by decide), if_neg (by decide), show (1 : Int32) = nI 1 from rfl, g2, bnd2S]
      exact ⟨_, _, _, rfl, rfl, g3⟩
    · rw [q2] at b1 ⊢
      rw [refused_p b1 (by omega), bnd2S, if_pos rfl, if_pos (nI_pos' (by omega))]
      unfold f_X0_drop
      rw [nmE, bndS]
      have := Rel_row h (show r < 6 by omega) (x := -1) (f := gA σ (5 + r)) (g := gA τ 2) (Or.inl rfl) (fun _ _ => rfl)
      rw [show gA σ (5 + r) = gA (pS σ (16 * (5 + r) + 1) (-1)) (5 + r) from rfl, pA_self, show gA τ 2 = gA (pA τ 1 (upd (gA τ 1) r (-1))) 2 from (gA_ne _ _ (by decide)).symm, pA_self] at this
      exact ⟨_, _, _, rfl, rfl, this⟩
  · rw [show (5 : Int32) = nI 5 from rfl, ed, bfF, pick_o (q := 71) ho, bndS, ocN]
    exact ⟨_, _, _, rfl, rfl, h⟩
theorem st_put : S_put Rel := by
  intro σ τ a1 a2 a3 h
  unfold f_X5_put f_X6_put
  rw [X6_in_v, bndS]
  rcases inV_c a1 (b := 3) (by decide) with ⟨r, hr, rfl, ed⟩ | ⟨ho, ed⟩
  · rw [show (3 : Int32) = nI 3 from rfl, ed, bfT, pick_i (q := 72) (show r < 4 by omega), bndS, ocS, show rBase 72 + r = 11 + r from rfl, inB_nI (by rw [mL3]; omega) (by rw [mL3]; decide), ckT, ckT, nI_clamp (by omega)]
    obtain ⟨b1, b2⟩ := h.2.2.2.1 r (by omega)
    unfold f_X5_refusedAt
    rw [ocS]
    rcases b2 with b2 | ⟨m, q1, q2, q3⟩
    · rw [b2] at b1 ⊢
      obtain ⟨σ', τ', g1, g2, g3⟩ := found_R h (f := 1) (by decide)
      rw [refused_m b1 g1, bnd2S, if_neg (by decide), if_neg (by decide), show (1 : Int32) = nI 1 from rfl, g2, bnd2S]
      exact ⟨_, _, _, rfl, rfl, g3⟩
    · rw [q2] at b1 ⊢
      rw [refused_p b1 (by omega), bnd2S, if_pos rfl, if_pos (nI_pos' (by omega)), X6_in_v, bndS]
      have hcl : m ≤ cLen (11 + r) := by rw [cLen_txt (by omega)]; exact q1
      rcases i32c a2 (show m < 2 ^ 31 by omega) with ⟨i, hi, rfl⟩ | ho
      · rw [X0_has_i b1 hcl (by omega), bndS, decide_eq_true hi, bfT, inVm_t hi (by omega), bfT, bnd2S, if_pos rfl, X0_get_i b1 hcl hi, bndS, X0_set_i b1 hcl hi, bndS, ml60, nI_add, inB_nI (by rw [mL4]; omega) (by rw [mL4]; decide), ckT, nmE, ckT, nmE, nI_clamp (by omega), q3 i hi, Int32.add_comm]
        refine ⟨_, _, _, rfl, rfl, Rel_letters h (by omega) b1 q1 (fun j hj => ?_) (fun y hy => ?_)⟩
        · unfold upd
          by_cases e : j = i
          · rw [if_pos e, if_pos (by omega)]
          · rw [if_neg e, if_neg (by omega)]
            exact q3 j hj
        · unfold upd
          rw [if_neg (by omega)]
      · obtain ⟨σ', τ', g1, g2, g3⟩ := found_R h (f := 2) (by decide)
        have hh : f_X0_has (11 + r) a2 σ = some false := by
          unfold f_X0_has
          rw [b1]
          rcases ho with h1 | ⟨h1, h2⟩
          · rw [if_pos h1]
          · rw [if_neg h1, if_pos h2]
        rw [hh, bndS, bfF, inVm_f (by omega) ho, bfF, show (2 : Int32) = nI 2 from rfl, g1, g2, bnd2S, bnd2S, bnd2S, if_neg (by decide)]
        exact ⟨_, _, _, rfl, rfl, g3⟩
  · rw [show (3 : Int32) = nI 3 from rfl, ed, bfF, pick_o (q := 72) ho, bndS, ocN]
    exact ⟨_, _, _, rfl, rfl, h⟩
def sumV (g : Nat → Int32) (m : Nat) : Int64 := fo (fun i x => x + (g i).toInt64) 0 m 0
theorem st_mean : S_mean Rel := by
  intro σ τ a1 h
  unfold f_X5_mean f_X6_mean
  rw [X6_in_v, bndS]
  rcases inV_c a1 (b := 5) (by decide) with ⟨r, hr, rfl, ed⟩ | ⟨ho, ed⟩
  · have hin : inB (nI r) (mLen 1) = true := inB_nI (by rw [mL1]; omega) (by rw [mL1]; decide)
    rw [show (5 : Int32) = nI 5 from rfl, ed, bfT, pick_i (q := 71) (show r < 6 by omega), bndS, ocS, show rBase 71 + r = 5 + r from rfl, hin, ckT, ckT, nI_clamp (by omega)]
    obtain ⟨b1, b2⟩ := h.2.2.1 r (by omega)
    rcases b2 with b2 | ⟨m, q1, q2, q3⟩
    · rw [b2] at b1 ⊢
      obtain ⟨σ', τ', g1, g2, g3⟩ := found_R h (f := 1) (by decide)
      rw [refused_m b1 g1, bnd2S, if_neg (by decide), if_neg (by decide), show (1 : Int32) = nI 1 from rfl, g2, bnd2S]
      exact ⟨_, _, _, rfl, rfl, g3⟩
    · rw [q2] at b1 ⊢
      rw [refused_p b1 (by omega), bnd2S, if_pos rfl, if_pos (nI_pos' (by omega)), b1]
      simp only [eq0 (show m < 2 ^ 31 by omega)]
      by_cases e : m = 0
      · rw [if_pos e, if_pos e]
        obtain ⟨σ', τ', g1, g2, g3⟩ := found_R h (f := 4) (by decide)
        rw [show (4 : Int32) = nI 4 from rfl, g1, g2]
        exact ⟨_, _, _, rfl, rfl, g3⟩
      · rw [if_neg e, if_neg e]
        have hcl : m ≤ cLen (5 + r) := by rw [cLen_row (by omega)]; exact q1
        have L1 : ∀ K : Int64 → Option (Int32 × Sg), l_X5_mean_44 (5 + r) σ K FU 0 0 = K (sumV (gA σ (5 + r)) m) := fun K => loopP (fun N j x => l_X5_mean_44 (5 + r) σ K N x (nI j)) K (fun i x => x + (gA σ (5 + r) i).toInt64) m
          (fun N x => by
            show l_X5_mean_44 (5 + r) σ K (N + 1) x (nI m) = _
            unfold l_X5_mean_44
            rw [b1, if_pos (nI_le (Nat.le_refl _) (by omega))])
          (fun N j x hj => by
            show l_X5_mean_44 (5 + r) σ K (N + 1) x (nI j) = _
            conv => lhs; unfold l_X5_mean_44
            rw [b1, if_neg (nI_ge hj (by omega)), X0_get_i b1 hcl hj, bndS, nmE, nmE, nI_1]) m 0 FU 0 (by omega) (lt_FU (by omega))
        have L2 : ∀ K : Int64 → Option (Int32 × Sg), l_X6_mean_46 (nI r) τ K FU 0 0 = K (sumV (fun i => gA τ 2 (40 * r + i)) m) := fun K => loopP (fun N j x => l_X6_mean_46 (nI r) τ K N x (nI j)) K (fun i x => x + (gA τ 2 (40 * r + i)).toInt64) m
          (fun N x => by
            show l_X6_mean_46 (nI r) τ K (N + 1) x (nI m) = _
            unfold l_X6_mean_46
            rw [hin, ckT, nI_clamp (by omega), q2, if_pos (nI_le (Nat.le_refl _) (by omega))])
          (fun N j x hj => by
            show l_X6_mean_46 (nI r) τ K (N + 1) x (nI j) = _
            conv => lhs; unfold l_X6_mean_46
            rw [hin, ckT, nI_clamp (show r < 2 ^ 31 by omega), q2, if_neg (nI_ge hj (by omega)), ml40, nI_add, inB_nI (by rw [mL2]; omega) (by rw [mL2]; decide), ckT, nmE, nmE, nI_1, nI_clamp (by omega)]) m 0 FU 0 (by omega) (lt_FU (by omega))
        have hS : sumV (gA σ (5 + r)) m = sumV (fun i => gA τ 2 (40 * r + i)) m := fo_congr _ _ _ (fun i a _ hi => by rw [q3 i (by omega)])
        have hne : ¬ (nI m).toInt64 = 0 := by
          intro z
          have := congrArg Int64.toInt z
          rw [Int32.toInt_toInt64, nI_toInt (by omega)] at this
          have e0 : (0 : Int64).toInt = 0 := by decide
          omega
        rw [L1, L2, hS]
        simp only [q2, hin, decide_eq_true hne, ckT, nmE, X6_tells_v, bnd2S]
        exact ⟨_, _, _, rfl, rfl, asked_R h _⟩
  · rw [show (5 : Int32) = nI 5 from rfl, ed, bfF, pick_o (q := 71) ho, bndS, ocN]
    exact ⟨_, _, _, rfl, rfl, h⟩
