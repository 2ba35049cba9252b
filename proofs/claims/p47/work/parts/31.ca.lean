/-! the calls, class alone -/
section CALLS
variable {n : Nat} {w : Nat → Int32} {cs cs' : List Nat} {kc : Option (List Nat)} {RS : Nat → Int32} {RA : Nat → Nat → Int32} {A : Int32} {U V : Int64} {T X Y : Nat → Int32} {σ σ' : Sg}
theorem k_count0 (h : IW n w cs kc RS RA A U V T X Y σ) : f_X5_count 0 σ = some (nI n) := by
  unfold f_X5_count
  rw [if_pos rfl, h.hc.2.2.1]
theorem k_count1 (h : IW n w cs kc RS RA A U V T X Y σ) : f_X5_count 1 σ = some (run n (iniV w) cs 0) := by
  unfold f_X5_count
  rw [if_neg (by decide), if_pos rfl, h.hc.2.2.2.1.2.2.2.1]
theorem k_count2 (h : IW n w cs kc RS RA A U V T X Y σ) : f_X5_count 2 σ = some (run n (iniV w) cs 1) := by
  unfold f_X5_count
  rw [if_neg (by decide), if_neg (by decide), if_pos rfl, h.hc.2.2.2.1.2.2.2.2.1]
theorem k_count3 (h : IW n w cs kc RS RA A U V T X Y σ) : f_X5_count 3 σ = some (nI cs.length) := by
  unfold f_X5_count
  rw [if_neg (by decide), if_neg (by decide), if_neg (by decide), if_pos rfl, h.ct.2.1.1]
theorem k_count4 (h : IW n w cs kc RS RA A U V T X Y σ) : f_X5_count 4 σ = some (run n (iniV w) cs 2) := by
  unfold f_X5_count
  rw [if_neg (by decide), if_neg (by decide), if_neg (by decide), if_neg (by decide), if_pos rfl, h.hc.2.2.2.1.2.2.2.2.2.1]
theorem k_count5 (h : IW n w cs kc RS RA A U V T X Y σ) : f_X5_count 5 σ = some (run n (iniV w) cs 3) := by
  unfold f_X5_count
  rw [if_neg (by decide), if_neg (by decide), if_neg (by decide), if_neg (by decide), if_neg (by decide), if_pos rfl, h.hc.2.2.2.1.2.2.1]
theorem k_count6 (h : IW n w cs kc RS RA A U V T X Y σ) : f_X5_count 6 σ = some (nI (bsN (awV (run n (iniV w) cs)) n)) := by
  unfold f_X5_count
  rw [if_neg (by decide), if_neg (by decide), if_neg (by decide), if_neg (by decide), if_neg (by decide), if_neg (by decide), if_pos rfl, X4_awakeSet_v h.hc, bndS, awSet_n h.n6]
theorem k_count7 (h : IW n w cs kc RS RA A U V T X Y σ) : f_X5_count 7 σ = some (run n (iniV w) cs 4) := by
  unfold f_X5_count
  rw [if_neg (by decide), if_neg (by decide), if_neg (by decide), if_neg (by decide), if_neg (by decide), if_neg (by decide), if_neg (by decide), if_pos rfl, h.hc.2.2.2.1.2.2.2.2.2.2]
theorem k_count8 (h : IW n w cs kc RS RA A U V T X Y σ) : f_X5_count 8 σ = some (manyOfV (run n (iniV w) cs) 1 n) := by
  unfold f_X5_count
  rw [if_neg (by decide), if_neg (by decide), if_neg (by decide), if_neg (by decide), if_neg (by decide), if_neg (by decide), if_neg (by decide), if_neg (by decide), if_pos rfl, X4_manyOf_v h.hc, bndS]
theorem k_count9 (h : IW n w cs kc RS RA A U V T X Y σ) : f_X5_count 9 σ = some (manyOfV (run n (iniV w) cs) 2 n) := by
  unfold f_X5_count
  rw [if_neg (by decide), if_neg (by decide), if_neg (by decide), if_neg (by decide), if_neg (by decide), if_neg (by decide), if_neg (by decide), if_neg (by decide), if_neg (by decide), if_pos rfl, X4_manyOf_v h.hc, bndS]
theorem k_count13 (h : IW n w cs kc RS RA A U V T X Y σ) : f_X5_count 13 σ = some (run n (iniV w) cs 35) := by
  unfold f_X5_count
  rw [if_neg (by decide), if_neg (by decide), if_neg (by decide), if_neg (by decide), if_neg (by decide), if_neg (by decide), if_neg (by decide), if_neg (by decide), if_neg (by decide), if_neg (by decide), if_neg (by decide), if_neg (by decide), if_neg (by decide), if_pos rfl, h.hc.2.2.2.1.1]
theorem k_house (h : IW n w cs kc RS RA A U V T X Y σ) {i c : Nat} (hi : i < n) (hc : c < 6) : f_X5_house (nI i) (nI c) σ = some (1, pS σ 9 (tellV (run n (iniV w) cs) i (nI c))) := by
  unfold f_X5_house
  rw [X4_isHouse_i h.hc hi, bndS, bfT, X5_within_v, show (5 : Int32) = nI 5 from rfl, inV_t (by omega) (by decide), bndS, bfT, X4_tell_v h.hc hi, bndS, nmE]
theorem k_pays (h : IW n w cs kc RS RA A U V T X Y σ) {i : Nat} (hi : i < n) : f_X5_pays (nI i) σ = some (feeV (run n (iniV w) cs (23 + i))) := by
  unfold f_X5_pays
  rw [X4_isHouse_i h.hc hi, bndS, bfT, X4_fee_v h.hc hi, bndS]
theorem k_takes (h : IW n w cs kc RS RA A U V T X Y σ) {i d : Nat} (hi : i < n) (hd : d < 100) : f_X5_takes (nI i) (nI d) σ = some (tapsV (run n (iniV w) cs (23 + i)) (nI d) (run n (iniV w) cs 3)) := by
  unfold f_X5_takes
  rw [X4_isHouse_i h.hc hi, bndS, bfT, X5_isDate_v, show (99 : Int32) = nI 99 from rfl, inV_t (by omega) (by decide), bndS, bfT, X4_tapsFor_v h.hc hi, bndS]
theorem inV19 : ∀ k < 6, 0 < k → inV (nI k) 1 9 = true := by decide
theorem k_who (h : IW n w cs kc RS RA A U V T X Y σ) {d t : Nat} (hd : d < 100) (ht : t < 6) (h0 : 0 < t) : f_X5_who (nI d) (nI t) σ = some (nI (bsN (fun i => decide (tapsV (run n (iniV w) cs (23 + i)) (nI d) (run n (iniV w) cs 3) = nI t)) n)) := by
  unfold f_X5_who
  rw [X5_isDate_v, show (99 : Int32) = nI 99 from rfl, inV_t (by omega) (by decide), bndS, bfT, X5_within_v, inV19 t ht h0, bndS, bfT, X5_who_v h.hc, ← fo_bs _ n h.n6]
  congr 1
  exact fo_congr n 0 0 (fun i a _ _ => by simp only [decide_eq_true_eq])
theorem k_full (h : IW n w cs kc RS RA A U V T X Y σ) (hl : cs.length < 40) : f_X5_isFull 1 σ = some false := by
  rw [show (1 : Int32) = nI 1 from rfl, X5_isFull_v h.ct.2.1 (by omega) (by omega), decide_eq_false (by omega)]
theorem eqn0 (h : IW n w cs kc RS RA A U V T X Y σ) (h0 : 0 < n) : ¬ gS σ (16 * gR σ 0 + 7) = 0 := by
  have := h.n6
  rw [h.hc.2.2.1, eq0 (by omega)]
  omega
theorem k_walk (h : IW n w cs kc RS RA A U V T X Y σ) {i : Nat} (hi : i < n) (hl : cs.length < 40) (hne : ¬ run n (iniV w) cs 2 = nI i) : ∃ σ', f_X5_walk (nI i) σ = some (run n (iniV w) (cs ++ [100 * i]) 0, σ') ∧ IW n w (cs ++ [100 * i]) kc RS RA A U V T X Y σ' := by
  have hn := h.n6
  have hc : cok n (100 * i) := ⟨by omega, by omega, by omega, by omega⟩
  obtain ⟨σ', q1, q2, q3⟩ := X4_does_v h.ct h.stw h.cok hl hc (i1 := 0) (i2 := nI i) (i3 := 0) (by have := code3 0 i 0; rw [show 0 * 1000 + i * 100 + 0 = 100 * i by omega] at this; exact this)
  unfold f_X5_walk
  rw [X4_isHouse_i h.hc hi, bndS, bfT, h.hc.2.2.2.1.2.2.2.2.2.1, if_neg hne, k_full h hl, bndS, bfF, q1, bndS, q3.2.2.2, q2.1.2.2.2.1.2.2.2.1]
  exact ⟨_, rfl, h.deed (h.cok.snoc hl hc) q2 q3⟩
theorem k_walk0 (h : IW n w cs kc RS RA A U V T X Y σ) {i : Nat} (hi : i < n) (he : run n (iniV w) cs 2 = nI i) : f_X5_walk (nI i) σ = some (-4, σ) := by
  unfold f_X5_walk
  rw [X4_isHouse_i h.hc hi, bndS, bfT, h.hc.2.2.2.1.2.2.2.2.2.1, if_pos he]
theorem k_tap (h : IW n w cs kc RS RA A U V T X Y σ) (h0 : 0 < n) (hl : cs.length < 40) {p : Nat} (hp : p < n) (ep : run n (iniV w) (cs ++ [1000]) 2 = nI p) : ∃ σ', f_X5_tap σ = some (b2i (awV (run n (iniV w) (cs ++ [1000])) p), σ') ∧ IW n w (cs ++ [1000]) kc RS RA A U V T X Y σ' := by
  have hn := h.n6
  have hc : cok n 1000 := ⟨by omega, by omega, by omega, by omega⟩
  obtain ⟨σ', q1, q2, q3⟩ := X4_does_v h.ct h.stw h.cok hl hc (i1 := nI 1) (i2 := 0) (i3 := 0) (code3 1 0 0)
  unfold f_X5_tap
  rw [if_neg (eqn0 h h0), k_full h hl, bndS, bfF, show (1 : Int32) = nI 1 from rfl, q1, bndS, q3.2.2.2, q2.1.2.2.2.1.2.2.2.2.2.1, ep, X4_isAwake_v q2.1 hp, bndS]
  refine ⟨σ', ?_, h.deed (h.cok.snoc hl hc) q2 q3⟩
  cases awV (run n (iniV w) (cs ++ [1000])) p <;> rfl
theorem k_slate (h : IW n w cs kc RS RA A U V T X Y σ) {i d : Nat} (hi : i < n) (hd : d < 100) (hl : cs.length < 40) (hne : ¬ run n (iniV w) cs (5 + i) = nI d) : ∃ σ', f_X5_slate (nI i) (nI d) σ = some (run n (iniV w) cs (5 + i), σ') ∧ IW n w (cs ++ [2000 + 100 * i + d]) kc RS RA A U V T X Y σ' := by
  have hn := h.n6
  have hc : cok n (2000 + 100 * i + d) := ⟨by omega, by omega, by omega, by omega⟩
  obtain ⟨σ', q1, q2, q3⟩ := X4_does_v h.ct h.stw h.cok hl hc (i1 := 2) (i2 := nI i) (i3 := nI d) (by have := code3 2 i d; rw [show 2 * 1000 + i * 100 + d = 2000 + 100 * i + d by omega] at this; exact this)
  unfold f_X5_slate
  rw [X4_isHouse_i h.hc hi, bndS, bfT, X5_isDate_v, show (99 : Int32) = nI 99 from rfl, inV_t (by omega) (by decide), bndS, bfT, h.hc.g3 hi, bndS, if_neg hne, k_full h hl, bndS, bfF, q1, bndS]
  exact ⟨_, rfl, h.deed (h.cok.snoc hl hc) q2 q3⟩
theorem k_slate0 (h : IW n w cs kc RS RA A U V T X Y σ) {i d : Nat} (hi : i < n) (hd : d < 100) (he : run n (iniV w) cs (5 + i) = nI d) : f_X5_slate (nI i) (nI d) σ = some (-4, σ) := by
  unfold f_X5_slate
  rw [X4_isHouse_i h.hc hi, bndS, bfT, X5_isDate_v, show (99 : Int32) = nI 99 from rfl, inV_t (by omega) (by decide), bndS, bfT, h.hc.g3 hi, bndS, if_pos he]
theorem k_slateB (h : IW n w cs kc RS RA A U V T X Y σ) {i d : Nat} (hi : i < n) (hd : 100 ≤ d) (hd2 : d < 1000) : f_X5_slate (nI i) (nI d) σ = some (-1, σ) := by
  unfold f_X5_slate
  rw [X4_isHouse_i h.hc hi, bndS, bfT, X5_isDate_v, show (99 : Int32) = nI 99 from rfl, inV_f (by decide) (Or.inr ⟨nI_pos (by omega), nI_le (by omega) (by omega)⟩), bndS, bfF]
theorem k_frost (h : IW n w cs kc RS RA A U V T X Y σ) (h0 : 0 < n) {d : Nat} (hd : d < 2) (hl : cs.length < 40) (hne : ¬ run n (iniV w) cs 3 = nI d) : ∃ σ', f_X5_frost (nI d) σ = some (nI d, σ') ∧ IW n w (cs ++ [3000 + d]) kc RS RA A U V T X Y σ' := by
  have hn := h.n6
  have hc : cok n (3000 + d) := ⟨by omega, by omega, by omega, by omega⟩
  obtain ⟨σ', q1, q2, q3⟩ := X4_does_v h.ct h.stw h.cok hl hc (i1 := 3) (i2 := 0) (i3 := nI d) (by have := code3 3 0 d; rw [show 3 * 1000 + 0 * 100 + d = 3000 + d by omega] at this; exact this)
  unfold f_X5_frost
  rw [X5_within_v, show inV (nI d) 0 1 = true from inV_t (b := 1) (by omega) (by decide), bndS, bfT, if_neg (eqn0 h h0), h.hc.2.2.2.1.2.2.1, if_neg hne, k_full h hl, bndS, bfF, q1, bndS]
  exact ⟨_, rfl, h.deed (h.cok.snoc hl hc) q2 q3⟩
theorem k_frost0 (h : IW n w cs kc RS RA A U V T X Y σ) (h0 : 0 < n) {d : Nat} (hd : d < 2) (he : run n (iniV w) cs 3 = nI d) : f_X5_frost (nI d) σ = some (-4, σ) := by
  unfold f_X5_frost
  rw [X5_within_v, show inV (nI d) 0 1 = true from inV_t (b := 1) (by omega) (by decide), bndS, bfT, if_neg (eqn0 h h0), h.hc.2.2.2.1.2.2.1, if_pos he]
theorem k_frostB {d : Nat} (hd : d = 2) : f_X5_frost (nI d) σ = some (-1, σ) := by
  subst hd
  unfold f_X5_frost
  rw [X5_within_v, show inV (nI 2) 0 1 = false by decide, bndS, bfF]
theorem k_night (h : IW n w cs kc RS RA A U V T X Y σ) (h0 : 0 < n) (hl : cs.length < 40) : ∃ σ', f_X5_night σ = some (bitsV (nI (bsN (awV (run n (iniV w) cs)) n)), σ') ∧ IW n w (cs ++ [4000]) kc RS RA A U V T X Y σ' := by
  have hn := h.n6
  have hc : cok n 4000 := ⟨by omega, by omega, by omega, by omega⟩
  obtain ⟨σ', q1, q2, q3⟩ := X4_does_v h.ct h.stw h.cok hl hc code4
  unfold f_X5_night
  rw [if_neg (eqn0 h h0), k_full h hl, bndS, bfF, X4_awakeSet_v h.hc, bndS, awSet_n hn, bitC _ (bsN_64 _ hn), bndS, q1, bndS]
  exact ⟨_, rfl, h.deed (h.cok.snoc hl hc) q2 q3⟩
theorem k_undo (h : IW n w cs kc RS RA A U V T X Y σ) {m : Nat} (hm : m ≤ cs.length) : ∃ σ', f_X5_undo (nI m) σ = some (nI (cs.length - m), σ') ∧ IW n w (cs.take m) kc RS RA A U V T X Y σ' := by
  have hlen := h.cok.1
  have hs := h.hc.2.1
  have t3 := h.ct
  unfold f_X5_undo
  rw [t3.2.1.1, nmE, X5_within_v, inV_t hm (by omega), bndS, bfT, X0_cut_i t3.2.1.1 (by rw [cLen_st6 hs]; exact hlen) (by omega), bndS, Nat.min_eq_right hm, nIsub hm]
  have hd : HD (cs.take m) (gR σ 0) (pS σ (16 * stI (gR σ 0) 6 + 1) (nI m)) := by
    refine ⟨?_, fun k hk => ?_⟩
    · rw [gS_same, List.length_take, Nat.min_eq_left hm]
    · rw [List.length_take] at hk
      rw [gA_pS, t3.2.1.2 k (by omega)]
      simp only [List.getD_eq_getElem?_getD, List.getElem?_take, if_pos (show k < m by omega)]
  obtain ⟨σ', q1, q2, q3⟩ := again_C (σ1 := pS σ (16 * stI (gR σ 0) 6 + 1) (nI m)) h.stw h.cok t3 (h.cok.take (k := m)) (fun k hk => gS_ne _ _ hk) (fun a _ => rfl) (fun _ => rfl) (fun _ => rfl) hd
  rw [gR_pS, q1, bndS]
  exact ⟨_, rfl, h.deed h.cok.take q2 q3⟩
theorem k_keep (h : IW n w cs kc RS RA A U V T X Y σ) (h0 : 0 < n) : ∃ σ', f_X5_keep 1 σ = some (nI cs.length, σ') ∧ IW n w cs (some cs) RS RA A U V T X Y σ' := by
  have hlen := h.cok.1
  have hs := h.hc.2.1
  have hs2 := hs
  unfold isS at hs2
  have e6 : stI (gR σ 0) 6 = 7 * gR σ 0 - 2 + 6 := rfl
  have t3 := h.ct
  unfold f_X5_keep
  rw [show (1 : Int32) = nI 1 from rfl, pick_i (q := 73) (show 1 < 3 by omega), bndS, ocS, if_neg (eqn0 h h0), X0_takeFrom_i t3.2.1.1 (by rw [cLen_st6 hs]; exact hlen) (by rw [show cLen (rBase 73 + 1) = 40 from rfl]; exact hlen) (by rw [show rBase 73 + 1 = 16 from rfl]; omega), bndS, show rBase 73 + 1 = 16 from rfl, gS_pA, gS_same]
  refine ⟨_, rfl, ?_⟩
  obtain ⟨h1, h2, h3, h4, h5, h6, h7, h8, h9, h10, h11, h12, h13, h14⟩ := h
  refine ⟨h1, h2, h3, h4, h5.cg (fun k hk => gS_ne _ _ (by omega)) (fun a ha => gA_ne _ _ (by omega)), fun c hk => ?_, fun r hr => ?_, ?_, ?_, h10, h11, (gA_ne _ _ (by omega)).trans h12, (gA_ne _ _ (by omega)).trans h13, (gA_ne _ _ (by omega)).trans h14⟩
  · cases hk
    refine ⟨h4, by rw [gS_pA, gS_same], fun i hi => ?_⟩
    rw [gA_same, if_pos hi]
    exact t3.2.1.2 i hi
  · exact ⟨by rw [gS_pA, gS_ne _ _ (by omega)]; exact (h7 r hr).1, (gA_ne _ _ (by omega)).trans (h7 r hr).2⟩
  · rw [gS_pA, gS_ne _ _ (by decide)]; exact h8
  · rw [gS_pA, gS_ne _ _ (by decide)]; exact h9
theorem k_on {kl : List Nat} (h : IW n w cs (some kl) RS RA A U V T X Y σ) : ∃ σ', f_X5_on 1 σ = some (nI kl.length, σ') ∧ IW n w kl (some kl) RS RA A U V T X Y σ' := by
  have hs := h.hc.2.1
  have hs2 := hs
  unfold isS at hs2
  have e6 : stI (gR σ 0) 6 = 7 * gR σ 0 - 2 + 6 := rfl
  have t3 := h.ct
  obtain ⟨d1, b1, d3⟩ := h.kp kl rfl
  have hl' := d1.1
  unfold f_X5_on
  rw [show (1 : Int32) = nI 1 from rfl, pick_i (q := 73) (show 1 < 3 by omega), bndS, ocS, show rBase 73 + 1 = 16 from rfl, refused_p b1 (by omega), bnd2S, if_pos rfl, X0_takeFrom_i b1 (by rw [show cLen 16 = 40 from rfl]; exact hl') (by rw [cLen_st6 hs]; exact hl') (by omega), bndS]
  obtain ⟨σ', q1, q2, q3⟩ := again_C (cs' := kl) (σ1 := pA (pS σ (16 * stI (gR σ 0) 6 + 1) (nI kl.length)) (stI (gR σ 0) 6) (fun i => if i < kl.length then gA σ 16 i else gA σ (stI (gR σ 0) 6) i)) h.stw h.cok t3 d1 (fun j hj => gS_ne _ _ hj) (fun a ha => gA_ne _ _ ha) (fun _ => rfl) (fun _ => rfl) ⟨gS_same _ _ _, fun i hi => by rw [gA_same, if_pos hi]; exact d3 i hi⟩
  rw [show gR (pA (pS σ (16 * stI (gR σ 0) 6 + 1) (nI kl.length)) (stI (gR σ 0) 6) (fun i => if i < kl.length then gA σ 16 i else gA σ (stI (gR σ 0) 6) i)) 0 = gR σ 0 from rfl, q1, bndS, q3.2.2.2, q2.2.1.1]
  exact ⟨_, rfl, h.deed d1 q2 q3⟩
end CALLS
