/-- other deeds laid, and all done again -/
theorem again_C {n : Nat} {w : Nat → Int32} {cs cs' : List Nat} {s : Nat} {σ σ1 : Sg} (t1 : STW n w) (t2 : COK n cs) (h : CT n w cs s σ) (t2' : COK n cs') (f1 : ∀ k, k ≠ 16 * stI s 6 + 1 → gS σ1 k = gS σ k) (f2 : ∀ a, a ≠ stI s 6 → gA σ1 a = gA σ a) (f3 : ∀ k, gL σ1 k = gL σ k) (f4 : ∀ k, gR σ1 k = gR σ k) (hd : HD cs' s σ1) : ∃ σ', f_X4_replay s σ1 = some σ' ∧ CT n w cs' s σ' ∧ FrD s σ σ' := by
  have hs := h.1.2.1
  unfold isS at hs
  have e2 : stI s 2 = 7 * s - 2 + 2 := rfl
  have e6 : stI s 6 = 7 * s - 2 + 6 := rfl
  have k1 := h.1.out f1 f2
  have k3 : FD n s σ1 := by
    unfold FD
    rw [f1 _ (by omega)]
    exact h.2.2
  obtain ⟨σ', q1, q2, q3⟩ := X4_replay_v k1 (fun k hk => run_stat t1 hk t2.1 t2.2) t1 hd k3 t2'
  refine ⟨σ', q1, q2, FrD.tr ⟨fun k _ _ _ _ h5 => f1 k h5, fun a _ _ _ h4 => f2 a h4, f3, f4⟩ q3.d⟩
theorem st_undo : S_undo Rel := by
  intro σ τ a1 h
  obtain ⟨h1, h2, h3, h4, h5, n, w, cs, t1, t2, t3, t4, t5⟩ := id h
  have c1 := t3.1
  have m1 := t4.1
  have hv := run_VW t1 t2
  have hn := c1.1
  have hlen := t2.1
  have hs := c1.2.1
  unfold f_X5_undo f_X6_undo
  rw [X6_in_v, t3.2.1.1, nmE, X5_within_v, t4.2.1]
  simp only [ckT, bfT, bfF, bndS, bnd2S, nmE]
  rcases inV_c a1 (b := cs.length) (by omega) with ⟨m, hm, rfl, ed⟩ | ⟨-, ed⟩
  · rw [ed, bfT, bfT, X0_cut_i t3.2.1.1 (by rw [cLen_st6 hs]; exact hlen) (by omega), bndS, Nat.min_eq_right hm, nIsub hm]
    have hd : HD (cs.take m) (gR σ 0) (pS σ (16 * stI (gR σ 0) 6 + 1) (nI m)) := by
      refine ⟨?_, fun k hk => ?_⟩
      · rw [gS_same, List.length_take, Nat.min_eq_left hm]
      · rw [List.length_take] at hk
        rw [gA_pS, t3.2.1.2 k (by omega)]
        simp only [List.getD_eq_getElem?_getD, List.getElem?_take, if_pos (show k < m by omega)]
    obtain ⟨σ', q1, q2, q3⟩ := again_C (σ1 := pS σ (16 * stI (gR σ 0) 6 + 1) (nI m)) t1 t2 t3 (t2.take (k := m)) (fun k hk => gS_ne _ _ hk) (fun a _ => rfl) (fun _ => rfl) (fun _ => rfl) hd
    rw [gR_pS, q1, bndS]
    have hz : (nI (cs.length - m) ≤ (0 : Int32)) = (cs.length - m ≤ 0) := nIle (b := 0) (by omega) (by decide)
    simp only [hz]
    have hlt : (cs.take m).length = m := by rw [List.length_take, Nat.min_eq_left hm]
    by_cases e : cs.length - m ≤ 0
    · rw [if_pos e]
      have hmm : m = cs.length := by omega
      have htk : cs.take m = cs := by rw [hmm, List.take_length]
      rw [htk] at q2
      refine ⟨_, _, _, rfl, rfl, Rel_town h1 h2 h3 h4 h5 t1 t2 q2 ⟨m1.out (gS_ne _ _ (by decide)) (gS_ne _ _ (by decide)) rfl rfl rfl, ?_, t4.2.2⟩ t5 q3 ⟨fun k hk => gS_ne _ _ hk, fun _ _ _ => rfl, fun _ => rfl⟩⟩
      rw [gS_same, hmm]
    · rw [if_neg e, ml23, show (0 : Int32) = nI 0 from rfl, show (23 : Int32) = nI 23 from rfl, X6_bring_v (by decide) (by rw [mL10]; omega) (by rw [mL9]; omega), bndS]
      refine ⟨_, _, _, rfl, rfl, Rel_town h1 h2 h3 h4 h5 t1 (t2.take (k := m)) q2 ⟨m1.nw (gS_ne _ _ (by decide)) (gS_ne _ _ (by decide)) (gA_ne _ _ (by decide)) (gA_ne _ _ (by decide)) (fun k hk => ?_) (fun j hj => ?_), ?_, fun k hk j hj => ?_⟩ t5 q3 ⟨fun k hk => gS_ne _ _ hk, fun a h9 _ => gA_ne _ _ h9, fun _ => rfl⟩⟩
      · have ht := t2.take (k := m)
        rw [run_stat t1 hk ht.1 ht.2, run_stat t1 hk t2.1 t2.2]
      · have hj23 : j < 23 := by rcases hj with e | e | e | e <;> omega
        rw [gA_pS, gA_same, if_pos (by omega), show 23 * m + (j - 0) = 23 * m + j by omega]
        exact t4.2.2 m (by omega) j hj
      · rw [gS_same, hlt]
      · rw [hlt] at hk
        rw [gA_pS, gA_ne _ _ (by decide), t4.2.2 k (by omega) j hj, List.take_take, Nat.min_eq_left (by omega)]
  · rw [ed, bfF, bfF]
    exact ⟨_, _, _, rfl, rfl, h⟩
theorem st_keep : S_keep Rel := by
  intro σ τ a1 h
  obtain ⟨h1, h2, h3, h4, h5, n, w, cs, t1, t2, t3, t4, t5⟩ := id h
  have c1 := t3.1
  have m1 := t4.1
  have hv := run_VW t1 t2
  have hn := c1.1
  have hlen := t2.1
  have hs := c1.2.1
  have hs2 := hs
  unfold isS at hs2
  have e6 : stI (gR σ 0) 6 = 7 * gR σ 0 - 2 + 6 := rfl
  unfold f_X5_keep f_X6_keep
  rw [X6_in_v, c1.2.2.1, m1.2.1]
  simp only [ckT, bfT, bfF, bndS, bnd2S, nmE, eq0 (show n < 2 ^ 31 by omega)]
  rcases inV_c a1 (b := 2) (by decide) with ⟨k, hk, rfl, ed⟩ | ⟨ho, ed⟩
  · rw [show (2 : Int32) = nI 2 from rfl, ed, bfT, pick_i (q := 73) (show k < 3 by omega), bndS, ocS]
    by_cases e : n = 0
    · rw [if_pos e, if_pos e]
      exact ⟨_, _, _, rfl, rfl, h⟩
    · have hcl : cLen (rBase 73 + k) = 40 := by rcases (show k = 0 ∨ k = 1 ∨ k = 2 by omega) with e | e | e <;> subst e <;> rfl
      have hrb : rBase 73 + k = 15 + k := rfl
      rw [if_neg e, if_neg e, X0_takeFrom_i t3.2.1.1 (by rw [cLen_st6 hs]; exact hlen) (by rw [hcl]; exact hlen) (by rw [hrb]; omega), bndS, ml23, ml920, show (0 : Int32) = nI 0 from rfl, show (23 : Int32) = nI 23 from rfl, show (920 : Int32) = nI 920 from rfl, X6_bring_v (by decide) (by rw [mL9]; omega) (by rw [mL11]; omega), bndS, X6_bring_v (by decide) (by rw [mL10]; omega) (by rw [mL12]; omega), bndS, inB_nI (by rw [mL13]; omega) (by rw [mL13]; decide), ckT, nI_clamp (by omega)]
      simp only [gS_pA, gS_same, t4.2.1, hrb]
      refine ⟨_, _, _, rfl, rfl, h1, h2, ?_, ?_, ?_, n, w, cs, t1, t2, ?_, ?_, fun k' hk' => ?_⟩
      · exact h3.cg (fun r hr => (gS_ne _ _ (by omega))) (fun r hr => gA_ne _ _ (by omega)) ⟨by rw [gA_ne _ _ (by decide), gA_ne _ _ (by decide), gA_ne _ _ (by decide)], by rw [gA_ne _ _ (by decide), gA_ne _ _ (by decide), gA_ne _ _ (by decide)]⟩
      · exact h4.cg (fun r hr => (gS_ne _ _ (by omega))) (fun r hr => gA_ne _ _ (by omega)) ⟨by rw [gA_ne _ _ (by decide), gA_ne _ _ (by decide), gA_ne _ _ (by decide)], by rw [gA_ne _ _ (by decide), gA_ne _ _ (by decide), gA_ne _ _ (by decide)]⟩
      · obtain ⟨a1, a2, a3, a4, a5, a6⟩ := h5
        refine ⟨?_, ?_, a3, a4, ?_, fun i hi => ?_⟩
        · rw [gS_pA, gS_ne _ _ (by omega)]; exact a1
        · rw [gS_pA, gS_ne _ _ (by omega)]; exact a2
        · rw [gS_pA, gS_ne _ _ (by omega)]; exact a5
        · rw [gA_ne _ _ (by omega), gA_pS, gA_ne _ _ (by decide), gA_ne _ _ (by decide), gA_ne _ _ (by decide)]; exact a6 i hi
      · exact t3.cg (fun j hj => gS_ne _ _ (by omega)) (fun a ha => gA_ne _ _ (by omega))
      · exact t4.cg ⟨rfl, rfl, rfl⟩ ⟨by rw [gA_ne _ _ (by decide), gA_ne _ _ (by decide), gA_ne _ _ (by decide)], by rw [gA_ne _ _ (by decide), gA_ne _ _ (by decide), gA_ne _ _ (by decide)], by rw [gA_ne _ _ (by decide), gA_ne _ _ (by decide), gA_ne _ _ (by decide)], by rw [gA_ne _ _ (by decide), gA_ne _ _ (by decide), gA_ne _ _ (by decide)]⟩
      · rw [gA_same]
        by_cases ek : k' = k
        · subst ek
          refine ⟨?_, Or.inr ⟨cs, t2, ?_, fun i hi => ?_, fun j hj => ?_, fun i hi j hj => ?_⟩⟩
          · rw [gS_pA, gS_same]; unfold upd; rw [if_pos rfl]
          · unfold upd; rw [if_pos rfl]
          · rw [gA_same, if_pos hi]; exact t3.2.1.2 i hi
          · have hj23 : j < 23 := by rcases hj with e | e | e | e <;> omega
            rw [gA_ne _ _ (by decide), gA_ne _ _ (by decide), gA_same, if_pos (by omega), show 0 + (23 * k' + j - 23 * k') = j by omega]
            exact m1.at hj
          · have hj23 : j < 23 := by rcases hj with e | e | e | e <;> omega
            rw [gA_ne _ _ (by decide), gA_same, if_pos (by omega), gA_ne _ _ (by decide), show 0 + (920 * k' + (23 * i + j) - 920 * k') = 23 * i + j by omega]
            exact t4.2.2 i hi j hj
        · obtain ⟨b1, b2⟩ := t5 k' hk'
          refine ⟨?_, ?_⟩
          · rw [gS_pA, gS_ne _ _ (by omega), b1]; unfold upd; rw [if_neg ek, gA_ne _ _ (by decide), gA_ne _ _ (by decide)]
          · rw [show (upd (gA (pA (pA τ 11 fun x => if 23 * k ≤ x ∧ x < 23 * k + 23 then gA τ 9 (0 + (x - 23 * k)) else gA τ 11 x) 12 fun x => if 920 * k ≤ x ∧ x < 920 * k + 920 then gA (pA τ 11 fun x => if 23 * k ≤ x ∧ x < 23 * k + 23 then gA τ 9 (0 + (x - 23 * k)) else gA τ 11 x) 10 (0 + (x - 920 * k)) else gA (pA τ 11 fun x => if 23 * k ≤ x ∧ x < 23 * k + 23 then gA τ 9 (0 + (x - 23 * k)) else gA τ 11 x) 12 x) 13) k (nI cs.length)) k' = gA τ 13 k' by unfold upd; rw [if_neg ek, gA_ne _ _ (by decide), gA_ne _ _ (by decide)]]
            rcases b2 with b2 | ⟨cs', d1, d2, d3, d4, d5⟩
            · exact Or.inl b2
            · refine Or.inr ⟨cs', d1, d2, fun i hi => ?_, fun j hj => ?_, fun i hi j hj => ?_⟩
              · rw [gA_ne _ _ (by omega)]; exact d3 i hi
              · have hj23 : j < 23 := by rcases hj with e | e | e | e <;> omega
                rw [gA_ne _ _ (by decide), gA_ne _ _ (by decide), gA_same, if_neg (by omega)]
                exact d4 j hj
              · have hj23 : j < 23 := by rcases hj with e | e | e | e <;> omega
                have := d1.1
                rw [gA_ne _ _ (by decide), gA_same, if_neg (by omega), gA_ne _ _ (by decide)]
                exact d5 i hi j hj
  · rw [show (2 : Int32) = nI 2 from rfl, ed, bfF, pick_o (q := 73) ho, bndS, ocN]
    exact ⟨_, _, _, rfl, rfl, h⟩
/-- what is missing is a finding -/
theorem refused_p {σ : Sg} {q m : Nat} (hs : gS σ (16 * q + 1) = nI m) (hm : m < 2 ^ 31) : f_X5_refused (some q) σ = some (0, σ) := by
  unfold f_X5_refused
  rw [ocS, hs, if_pos (nI_pos' hm)]
theorem refused_m {σ σ' : Sg} {q : Nat} (hs : gS σ (16 * q + 1) = -1) (hf : f_X5_found 1 σ = some (-3, σ')) : f_X5_refused (some q) σ = some (-3, σ') := by
  unfold f_X5_refused
  rw [ocS, hs, if_neg (by decide), hf]
  rfl
theorem st_on : S_on Rel := by
  intro σ τ a1 h
  obtain ⟨h1, h2, h3, h4, h5, n, w, cs, t1, t2, t3, t4, t5⟩ := id h
  have c1 := t3.1
  have m1 := t4.1
  have hv := run_VW t1 t2
  have hn := c1.1
  have hlen := t2.1
  have hs := c1.2.1
  have hs2 := hs
  unfold isS at hs2
  have e6 : stI (gR σ 0) 6 = 7 * gR σ 0 - 2 + 6 := rfl
  unfold f_X5_on f_X6_on
  rw [X6_in_v]
  simp only [ckT, bfT, bfF, bndS, bnd2S, nmE]
  rcases inV_c a1 (b := 2) (by decide) with ⟨k, hk, rfl, ed⟩ | ⟨ho, ed⟩
  · have hrb : rBase 73 + k = 15 + k := rfl
    have hcl : cLen (15 + k) = 40 := by rcases (show k = 0 ∨ k = 1 ∨ k = 2 by omega) with e | e | e <;> subst e <;> rfl
    rw [show (2 : Int32) = nI 2 from rfl, ed, bfT, pick_i (q := 73) (show k < 3 by omega), bndS, ocS, inB_nI (by rw [mL13]; omega) (by rw [mL13]; decide), ckT, nI_clamp (by omega), hrb]
    obtain ⟨b1, b2⟩ := t5 k (by omega)
    rcases b2 with b2 | ⟨cs', d1, d2, d3, d4, d5⟩
    · obtain ⟨σ', τ', g1, g2, g3⟩ := found_R h (f := 1) (by decide)
      rw [b2] at b1 ⊢
      rw [refused_m b1 g1, bnd2S, if_neg (by decide), if_neg (by decide), show (1 : Int32) = nI 1 from rfl, g2, bnd2S]
      exact ⟨_, _, _, rfl, rfl, g3⟩
    · have hl' := d1.1
      rw [d2] at b1 ⊢
      rw [refused_p b1 (by omega), bnd2S, if_pos rfl, if_pos (nI_pos' (by omega)), X0_takeFrom_i b1 (by rw [hcl]; exact hl') (by rw [cLen_st6 hs]; exact hl') (by omega), bndS]
      obtain ⟨σ', q1, q2, q3⟩ := again_C (cs' := cs') (σ1 := pA (pS σ (16 * stI (gR σ 0) 6 + 1) (nI cs'.length)) (stI (gR σ 0) 6) (fun i => if i < cs'.length then gA σ (15 + k) i else gA σ (stI (gR σ 0) 6) i)) t1 t2 t3 d1 (fun j hj => gS_ne _ _ hj) (fun a ha => gA_ne _ _ ha) (fun _ => rfl) (fun _ => rfl) ⟨gS_same _ _ _, fun i hi => by rw [gA_same, if_pos hi]; exact d3 i hi⟩
      rw [show gR (pA (pS σ (16 * stI (gR σ 0) 6 + 1) (nI cs'.length)) (stI (gR σ 0) 6) (fun i => if i < cs'.length then gA σ (15 + k) i else gA σ (stI (gR σ 0) 6) i)) 0 = gR σ 0 from rfl, q1, bndS, q3.2.2.2, q2.2.1.1]
      rw [ml23, ml920, show (0 : Int32) = nI 0 from rfl, show (23 : Int32) = nI 23 from rfl, show (920 : Int32) = nI 920 from rfl, X6_bring_v (by decide) (by rw [mL11]; omega) (by rw [mL9]; omega), bndS, X6_bring_v (by decide) (by rw [mL12]; omega) (by rw [mL10]; omega), bndS]
      simp only [gA_ne _ _ (show (13 : Nat) ≠ 10 by decide), gA_ne _ _ (show (13 : Nat) ≠ 9 by decide), d2, ckT, gS_same]
      refine ⟨_, _, _, rfl, rfl, Rel_town h1 h2 h3 h4 h5 t1 d1 q2 ⟨m1.nw (gS_ne _ _ (by decide)) (gS_ne _ _ (by decide)) ?_ ?_ (fun j hj => ?_) (fun j hj => ?_), gS_same _ _ _, fun i hi j hj => ?_⟩ t5 q3 ⟨fun j hj => gS_ne _ _ hj, fun a h9 h10 => ?_, fun _ => rfl⟩⟩
      · rw [gA_pS, gA_ne _ _ (by decide), gA_ne _ _ (by decide)]
      · rw [gA_pS, gA_ne _ _ (by decide), gA_ne _ _ (by decide)]
      · rw [run_stat t1 hj d1.1 d1.2, run_stat t1 hj t2.1 t2.2]
      · have hj23 : j < 23 := by rcases hj with e | e | e | e <;> omega
        rw [gA_pS, gA_ne _ _ (by decide), gA_same, if_pos (by omega), show 23 * k + (j - 0) = 23 * k + j by omega]
        exact d4 j hj
      · have hj23 : j < 23 := by rcases hj with e | e | e | e <;> omega
        rw [gA_pS, gA_same, if_pos (by omega), gA_ne _ _ (by decide), show 920 * k + (23 * i + j - 0) = 920 * k + (23 * i + j) by omega]
        exact d5 i hi j hj
      · rw [gA_pS, gA_ne _ _ h10, gA_ne _ _ h9]
  · rw [show (2 : Int32) = nI 2 from rfl, ed, bfF, pick_o (q := 73) ho, bndS, ocN]
    exact ⟨_, _, _, rfl, rfl, h⟩
/-! nights -/
theorem nightg {τ : Sg} {K : Sg → Option (Int32 × Sg)} {r : Int32} : l_X6_night_60 r K FU 0 τ = K (pA τ 9 (fun x => if 11 ≤ x ∧ x < 17 then 0 else if 17 ≤ x ∧ x < 23 then -9 else gA τ 9 x)) := by
  have := (loopL (fun N j τ => l_X6_night_60 r K N (nI j) τ) K (fun j τ => pA τ 9 (upd (upd (gA τ 9) (11 + j) 0) (17 + j) (-9))) 6 (fun j τ' => τ' = pA τ 9 (fun x => if 11 ≤ x ∧ x < 11 + j then 0 else if 17 ≤ x ∧ x < 17 + j then -9 else gA τ 9 x))
    (fun N τ' _ => by
      show l_X6_night_60 r K (N + 1) (nI 6) τ' = _
      unfold l_X6_night_60
      rw [if_pos (by decide)])
    (fun N j τ' hj hI => by
      refine ⟨?_, ?_⟩
      · show l_X6_night_60 r K (N + 1) (nI j) τ' = _
        conv => lhs; unfold l_X6_night_60
        rw [show (6 : Int32) = nI 6 from rfl, if_neg (nI_ge hj (by omega)), ad11, ad17, inB_nI (by rw [mL9]; omega) (by rw [mL9]; decide), inB_nI (by rw [mL9]; omega) (by rw [mL9]; decide), nI_clamp (by omega), nI_clamp (by omega)]
        simp only [ckT, bfT, bfF, bndS, bnd2S, nmE, pA_pA, gA_same, nI_1]
      · rw [hI, pA_pA, gA_same]
        congr 1
        funext x
        unfold upd
        dsimp only
        by_cases h1 : x = 17 + j
        · rw [if_pos h1, if_neg (by omega), if_pos (by omega)]
        · rw [if_neg h1]
          by_cases h2 : x = 11 + j
          · rw [if_pos h2, if_pos (by omega)]
          · rw [if_neg h2]
            by_cases h3 : 11 ≤ x ∧ x < 11 + j
            · rw [if_pos h3, if_pos (by omega)]
            · rw [if_neg h3]
              by_cases h4 : 17 ≤ x ∧ x < 17 + j
              · rw [if_pos h4, if_neg (by omega), if_pos (by omega)]
              · rw [if_neg h4, if_neg (by omega), if_neg (by omega)])
    6 0 FU τ (by omega) (lt_FU (by omega)) (by
      rw [show (fun x => if 11 ≤ x ∧ x < 11 + 0 then (0 : Int32) else if 17 ≤ x ∧ x < 17 + 0 then -9 else gA τ 9 x) = gA τ 9 from funext fun x => by rw [if_neg (by omega), if_neg (by omega)], pA_self]))
  refine this.1.trans ?_
  rw [this.2]
theorem nightM {n : Nat} {v : Nat → Int32} {τ : Sg} (h : HM n v τ) : HM n (nightV n v) (pA τ 9 (fun x => if 11 ≤ x ∧ x < 17 then (0 : Int32) else if 17 ≤ x ∧ x < 23 then -9 else upd (upd (upd (gA τ 9) 0 0) 1 (upd (gA τ 9) 0 0 1 + 1)) 2 0 x)) := by
  have hn := h.1
  refine h.nw rfl rfl (gA_ne _ _ (by decide)) (gA_ne _ _ (by decide)) (fun k hk => ?_) (fun j hj => ?_)
  · unfold nightV
    rw [slpV_o (by omega) (by omega) (by omega) (by omega), va_up_ne _ _ (by omega)]
  · rw [gA_same]
    unfold nightV
    by_cases z0 : j = 0
    · subst z0; rfl
    by_cases z2 : j = 2
    · subst z2; rfl
    by_cases z1 : j = 1
    · subst z1
      rw [slpV_o (by decide) (by decide) (by omega) (by omega), va_up_self, if_neg (by decide), if_neg (by decide)]
      unfold upd
      rw [if_neg (by decide), if_pos rfl, if_neg (by decide), h.now (by decide)]
    · by_cases z3 : 11 ≤ j ∧ j < 17
      · have : j < 11 + n := by rcases hj with e | e | e | e <;> omega
        have := slpV_t (n := n) (v := va_up v 1 (v 1 + 1)) (i := j - 11) (by omega)
        rw [show 11 + (j - 11) = j by omega] at this
        rw [if_pos z3, this]
      · by_cases z4 : 17 ≤ j ∧ j < 23
        · have : j < 17 + n := by rcases hj with e | e | e | e <;> omega
          have := slpV_y (n := n) (v := va_up v 1 (v 1 + 1)) (i := j - 17) hn (by omega)
          rw [show 17 + (j - 17) = j by omega] at this
          rw [if_neg z3, if_pos z4, this]
        · rw [if_neg z3, if_neg z4, slpV_o z0 z2 (by omega) (by omega), va_up_ne _ _ z1]
          unfold upd
          rw [if_neg z2, if_neg z1, if_neg z0, h.at hj]
theorem code4 : (4 : Int32) * 1000 + 0 * 100 + 0 = nI 4000 := by decide
/-- a night, noted before -/
theorem nightE {τ : Sg} {r : Int32} : (ck (inB (0 : Int32) (mLen 9)) (nm (pA τ 9 (upd (gA τ 9) (0 : Int32).toNatClampNeg (0 : Int32))) (fun σ4 => (ck (inB (1 : Int32) (mLen 9)) (ck (inB (1 : Int32) (mLen 9)) (nm (pA σ4 9 (upd (gA σ4 9) (1 : Int32).toNatClampNeg ((gA σ4 9 (1 : Int32).toNatClampNeg) + (1 : Int32)))) (fun σ5 => (ck (inB (2 : Int32) (mLen 9)) (nm (pA σ5 9 (upd (gA σ5 9) (2 : Int32).toNatClampNeg (0 : Int32))) (fun σ6 => (l_X6_night_60 r
    (fun (σv93 : Sg) => (some (r, σv93))) FU (0 : Int32) σ6))))))))))) = some (r, pA τ 9 (fun x => if 11 ≤ x ∧ x < 17 then (0 : Int32) else if 17 ≤ x ∧ x < 23 then -9 else upd (upd (upd (gA τ 9) 0 0) 1 (upd (gA τ 9) 0 0 1 + 1)) 2 0 x)) := by
  rw [show inB (0 : Int32) (mLen 9) = true from by decide, show inB (1 : Int32) (mLen 9) = true from by decide, show inB (2 : Int32) (mLen 9) = true from by decide, ckT, nmE, ckT, ckT, nmE, ckT, nmE, nightg, cl0, cl1, cl2]
  simp only [pA_pA, gA_same]
theorem st_night : S_night Rel := by
  intro σ τ h
  obtain ⟨h1, h2, h3, h4, h5, n, w, cs, t1, t2, t3, t4, t5⟩ := id h
  have c1 := t3.1
  have m1 := t4.1
  have hv := run_VW t1 t2
  have hn := c1.1
  have hlen := t2.1
  unfold f_X5_night f_X6_night
  have hfull : f_X5_isFull 1 σ = some (decide (¬ cs.length + 1 ≤ 40)) := X5_isFull_v (k := 1) t3.2.1 hlen (by omega)
  rw [c1.2.2.1, m1.2.1, hfull, t4.2.1, X4_awakeSet_v c1, bndS, bndS, awSet_n hn, bitC _ (bsN_64 _ hn), bndS]
  simp only [eq40 hlen, eq0 (show n < 2 ^ 31 by omega)]
  by_cases e : n = 0
  · rw [if_pos e, if_pos e]
    exact ⟨_, _, _, rfl, rfl, h⟩
  · rw [if_neg e, if_neg e]
    by_cases e2 : cs.length = 40
    · rw [if_pos e2, decide_eq_true (by omega), bfT]
      exact ⟨_, _, _, rfl, rfl, h⟩
    · have hl : cs.length < 40 := by omega
      have hc : cok n 4000 := ⟨by omega, by omega, by omega, by omega⟩
      rw [if_neg e2, decide_eq_false (by omega), bfF]
      obtain ⟨σ', q1, q2, q3⟩ := X4_does_v t3 t1 t2 hl hc code4
      obtain ⟨f, p1, p2, p3⟩ := X6_note_v t4 hl
      have p4 := nightM p2
      rw [q1, p1, bndS, bndS, X6_awakeOnes_v p2, bndS, X6_bits_v, bndS, awSet_n hn, nightE]
      exact ⟨_, _, _, rfl, rfl, Rel_town h1 h2 h3 h4 h5 t1 (t2.snoc hl hc) q2 (MT_snoc (c := 4000) hl p3 (by rw [stp_night]; exact p4)) t5 q3 frM⟩
