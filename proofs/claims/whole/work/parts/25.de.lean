/-- a set of places as a number -/
def bsN (P : Nat → Bool) : Nat → Nat
  | 0 => 0
  | n + 1 => bsN P n + (if P n then 2 ^ n else 0)
theorem bsN_lt (P : Nat → Bool) (n : Nat) : bsN P n < 2 ^ n := by
  induction n with
  | zero => exact Nat.one_pos
  | succ n ih =>
    show bsN P n + (if P n then 2 ^ n else 0) < 2 ^ (n + 1)
    rw [Nat.pow_succ]
    split <;> omega
theorem orb : ∀ i < 6, ∀ s < 64, s < 2 ^ i → nI s ||| ((1 : Int32) <<< (nI i &&& 31)) = nI (s + 2 ^ i) := by decide +kernel
theorem addb : ∀ k < 6, ∀ s < 64, s < 2 ^ k → ∀ i < 6, (s + 2 ^ k).testBit i = if i = k then true else s.testBit i := by decide +kernel
theorem ltb : ∀ k < 6, ∀ s < 64, s < 2 ^ k → s.testBit k = false := by decide +kernel
theorem p64 {n : Nat} (h : n ≤ 6) : 2 ^ n ≤ 64 := Nat.pow_le_pow_right (by decide) h
theorem bsN_64 (P : Nat → Bool) {n : Nat} (h : n ≤ 6) : bsN P n < 64 := Nat.lt_of_lt_of_le (bsN_lt P n) (p64 h)
theorem bsN_bit (P : Nat → Bool) : ∀ n, n ≤ 6 → ∀ i, i < n → (bsN P n).testBit i = P i := by
  intro n
  induction n with
  | zero => intro _ i hi; omega
  | succ n ih =>
    intro hn i hi
    show (bsN P n + (if P n then 2 ^ n else 0)).testBit i = P i
    have hl := bsN_lt P n
    have h64 := bsN_64 P (show n ≤ 6 by omega)
    cases hp : P n
    · simp only [Bool.false_eq_true, if_false, Nat.add_zero]
      by_cases e : i = n
      · subst e; rw [ltb i (by omega) _ h64 hl, hp]
      · exact ih (by omega) i (by omega)
    · simp only [if_true]
      rw [addb n (by omega) _ h64 hl i (by omega)]
      by_cases e : i = n
      · subst e; rw [if_pos rfl, hp]
      · rw [if_neg e]; exact ih (by omega) i (by omega)
theorem fo_bs (P : Nat → Bool) : ∀ n, n ≤ 6 → fo (fun i (x : Int32) => if P i then x ||| ((1 : Int32) <<< (nI i &&& 31)) else x) 0 n 0 = nI (bsN P n) := by
  intro n
  induction n with
  | zero => intro _; rfl
  | succ n ih =>
    intro hn
    rw [fo_snoc, ih (by omega), Nat.zero_add]
    show (if P n then _ else _) = nI (bsN P n + (if P n then 2 ^ n else 0))
    cases P n
    · rfl
    · simp only [if_true]
      exact orb n (by omega) _ (bsN_64 P (by omega)) (bsN_lt P n)
def bitsV (a : Int32) : Int32 := fo (fun i x => x + ((a >>> (nI i &&& 31)) &&& (1 : Int32))) 0 6 0
theorem X6_bits_v (a : Int32) : f_X6_bits a = some (bitsV a) := by
  unfold f_X6_bits bitsV
  refine loopP (fun N j x => l_X6_bits_4 a (fun x => some x) N x (nI j)) (fun x => some x) (fun i x => x + ((a >>> (nI i &&& 31)) &&& (1 : Int32))) 6 ?_ ?_ 6 0 FU 0 (by omega) (lt_FU (by omega))
  · intro N x
    show l_X6_bits_4 a _ (N + 1) x (nI 6) = _
    unfold l_X6_bits_4
    rw [if_pos (by decide)]
  · intro N j x hj
    show l_X6_bits_4 a _ (N + 1) x (nI j) = _
    conv => lhs; unfold l_X6_bits_4
    rw [show (6 : Int32) = nI 6 from rfl, if_neg (nI_ge hj (by omega)), nmE, nmE, nI_1]
theorem bitC : ∀ s < 64, f_J6_bitCount_0f7a4 (nI s) = some (bitsV (nI s)) := by decide +kernel
theorem bitN : ∀ s < 64, ∃ x, x ≤ 6 ∧ bitsV (nI s) = nI x := by
  have h : ∀ s < 64, bitsV (nI s) = nI 0 ∨ bitsV (nI s) = nI 1 ∨ bitsV (nI s) = nI 2 ∨ bitsV (nI s) = nI 3 ∨ bitsV (nI s) = nI 4 ∨ bitsV (nI s) = nI 5 ∨ bitsV (nI s) = nI 6 := by decide +kernel
  intro s hs
  rcases h s hs with e | e | e | e | e | e | e
  · exact ⟨0, by omega, e⟩
  · exact ⟨1, by omega, e⟩
  · exact ⟨2, by omega, e⟩
  · exact ⟨3, by omega, e⟩
  · exact ⟨4, by omega, e⟩
  · exact ⟨5, by omega, e⟩
  · exact ⟨6, by omega, e⟩
theorem othb : ∀ s < 64, ∀ i < 6, (if s.testBit i then bitsV (nI s) - 1 else bitsV (nI s) - 0) = bitsV (nI s &&& (((1 : Int32) <<< (nI i &&& 31)) ^^^ (-1 : Int32))) := by decide +kernel
theorem awSet_n {n : Nat} {v : Nat → Int32} (hn : n ≤ 6) : awakeSetV v n = nI (bsN (awV v) n) := fo_bs (awV v) n hn
/-! deeds -/
theorem stp_walk {n i : Nat} {v : Nat → Int32} (hi : i < 6) : stp n (100 * i) v = walkV i v := by
  unfold stp
  rw [if_pos (by omega), show 100 * i / 100 % 10 = i by omega]
theorem stp_tap {n p : Nat} {v : Nat → Int32} (hp : p < 6) (e : v 2 = nI p) : stp n 1000 v = tapV p v := by
  unfold stp
  rw [if_neg (by decide), if_pos (by decide), e, nI_clamp (by omega)]
theorem stp_slate {n i d : Nat} {v : Nat → Int32} (hi : i < 6) (hd : d < 100) : stp n (2000 + 100 * i + d) v = slateV i d v := by
  unfold stp
  rw [if_neg (by omega), if_neg (by omega), if_pos (by omega), show (2000 + 100 * i + d) / 100 % 10 = i by omega, show (2000 + 100 * i + d) % 100 = d by omega]
theorem stp_frost {n f : Nat} {v : Nat → Int32} (hf : f < 2) : stp n (3000 + f) v = va_up v 3 (nI f) := by
  unfold stp
  rw [if_neg (by omega), if_neg (by omega), if_neg (by omega), if_pos (by omega), show (3000 + f) % 100 = f by omega]
theorem stp_night {n : Nat} {v : Nat → Int32} : stp n 4000 v = nightV n v := by
  unfold stp
  rw [if_neg (by decide), if_neg (by decide), if_neg (by decide), if_neg (by decide)]
theorem code3 (a b c : Nat) : nI a * (1000 : Int32) + nI b * (100 : Int32) + nI c = nI (a * 1000 + b * 100 + c) := by
  rw [show (1000 : Int32) = nI 1000 from rfl, show (100 : Int32) = nI 100 from rfl, nImul, nImul, nI_add, nI_add]
theorem okC_gR {σ σ' : Sg} (h : okC σ) (f : ∀ k, gR σ' k = gR σ k) : okC σ' := by
  unfold okC at h ⊢
  rw [f, f, f]
  exact h
/-- a deed (or undone ones) on both sides -/
theorem Rel_town {σ σ' τ τ' : Sg} {n : Nat} {w : Nat → Int32} {cs : List Nat} (h1 : okC σ) (h2 : gR σ 1 ≠ gR σ 0) (h3 : RRow σ τ) (h4 : RTxt σ τ) (h5 : RFnd σ τ) (t1 : STW n w) (t2 : COK n cs) (hc : CT n w cs (gR σ 0) σ') (hm : MT n w cs τ') (t5 : RKept n w σ τ) (f : FrD (gR σ 0) σ σ') (g : (∀ k, k ≠ 22 → gS τ' k = gS τ k) ∧ (∀ a, a ≠ 9 → a ≠ 10 → gA τ' a = gA τ a) ∧ ∀ k, gL τ' k = gL τ k) : Rel σ' τ' := by
  have hs := h1.1
  unfold isS at hs
  have ej : ∀ j, stI (gR σ 0) j = 7 * gR σ 0 - 2 + j := fun _ => rfl
  have q3 := ej 3
  have q4 := ej 4
  have q5 := ej 5
  have q6 := ej 6
  obtain ⟨f1, f2, f3, f4⟩ := f
  obtain ⟨g1, g2, g3⟩ := g
  refine ⟨okC_gR h1 f4, by rw [f4, f4]; exact h2, ?_, ?_, ?_, n, w, cs, t1, t2, by rw [f4]; exact hc, hm, ?_⟩
  · exact h3.cg (fun k hk => f1 _ (by omega) (by omega) (by omega) (by omega) (by omega)) (fun k hk => f2 _ (by omega) (by omega) (by omega) (by omega)) ⟨g2 _ (by decide) (by decide), g2 _ (by decide) (by decide)⟩
  · exact h4.cg (fun k hk => f1 _ (by omega) (by omega) (by omega) (by omega) (by omega)) (fun k hk => f2 _ (by omega) (by omega) (by omega) (by omega)) ⟨g2 _ (by decide) (by decide), g2 _ (by decide) (by decide)⟩
  · obtain ⟨a1, a2, a3, a4, a5, a6⟩ := h5
    refine ⟨?_, ?_, ?_, ?_, ?_, fun i hi => ?_⟩
    · rw [f1 _ (by omega) (by omega) (by omega) (by omega) (by omega), g1 _ (by omega)]; exact a1
    · rw [f1 _ (by omega) (by omega) (by omega) (by omega) (by omega), g1 _ (by omega)]; exact a2
    · rw [f3, g3]; exact a3
    · rw [f3, g3]; exact a4
    · rw [f1 _ (by omega) (by omega) (by omega) (by omega) (by omega)]; exact a5
    · rw [f2 _ (by omega) (by omega) (by omega) (by omega), g2 _ (by decide) (by decide)]; exact a6 i hi
  · exact t5.cg (fun k hk => f1 _ (by omega) (by omega) (by omega) (by omega) (by omega)) (fun k hk => f2 _ (by omega) (by omega) (by omega) (by omega)) ⟨g2 _ (by decide) (by decide), g2 _ (by decide) (by decide), g2 _ (by decide) (by decide)⟩
theorem frM {τ : Sg} {f g : Nat → Int32} {x : Int32} : (∀ k, k ≠ 22 → gS (pA (pS (pA τ 10 f) 22 x) 9 g) k = gS τ k) ∧ (∀ a, a ≠ 9 → a ≠ 10 → gA (pA (pS (pA τ 10 f) 22 x) 9 g) a = gA τ a) ∧ ∀ k, gL (pA (pS (pA τ 10 f) 22 x) 9 g) k = gL τ k :=
  ⟨fun k hk => by rw [gS_pA, gS_ne _ _ hk, gS_pA], fun a h9 h10 => by rw [gA_ne _ _ h9, gA_pS, gA_ne _ _ h10], fun _ => rfl⟩
theorem X5_isFull_v {σ : Sg} {cs : List Nat} {k : Nat} (h : HD cs (gR σ 0) σ) (hl : cs.length ≤ 40) (hk : k < 100) : f_X5_isFull (nI k) σ = some (decide (¬ cs.length + k ≤ 40)) := by
  unfold f_X5_isFull
  rw [h.1, nI_add, show (40 : Int32) = nI 40 from rfl]
  simp (disch := omega) only [nIle]
  by_cases e : cs.length + k ≤ 40 <;> simp [e]
theorem eq40 {m : Nat} (h : m ≤ 40) : (nI m = (40 : Int32)) = (m = 40) := nIeq (b := 40) (by omega) (by decide)
theorem eq0 {m : Nat} (h : m < 2 ^ 31) : (nI m = (0 : Int32)) = (m = 0) := nIeq (b := 0) h (by decide)
theorem st_walk : S_walk Rel := by
  intro σ τ a1 h
  obtain ⟨h1, h2, h3, h4, h5, n, w, cs, t1, t2, t3, t4, t5⟩ := id h
  have c1 := t3.1
  have m1 := t4.1
  have hv := run_VW t1 t2
  have hn := c1.1
  have hlen := t2.1
  unfold f_X5_walk f_X6_walk
  rcases i32c a1 (show n < 2 ^ 31 by omega) with ⟨i, hi, rfl⟩ | ho
  · rw [X4_isHouse_i c1 hi, X6_isOne_i m1 hi, c1.2.2.2.1.2.2.2.2.2.1, show (1 : Int32) = nI 1 from rfl, X5_isFull_v t3.2.1 hlen (by omega), cl2, show inB (2 : Int32) (mLen 9) = true from by decide, m1.now (by decide), t4.2.1]
    simp only [ckT, bfT, bfF, bndS, bnd2S, nmE, eq40 hlen]
    by_cases e : run n (iniV w) cs 2 = nI i
    · rw [if_pos e, if_pos e.symm]
      exact ⟨_, _, _, rfl, rfl, h⟩
    · rw [if_neg e, if_neg (Ne.symm e)]
      by_cases e2 : cs.length = 40
      · rw [if_pos e2, decide_eq_true (by omega), bfT]
        exact ⟨_, _, _, rfl, rfl, h⟩
      · have hl : cs.length < 40 := by omega
        have hc : cok n (100 * i) := ⟨by omega, by omega, by omega, by omega⟩
        rw [if_neg e2, decide_eq_false (by omega), bfF]
        obtain ⟨σ', q1, q2, q3⟩ := X4_does_v t3 t1 t2 hl hc (i1 := 0) (i2 := nI i) (i3 := 0) (by have := code3 0 i 0; rw [show 0 * 1000 + i * 100 + 0 = 100 * i by omega] at this; exact this)
        obtain ⟨f, p1, p2, p3⟩ := X6_note_v t4 hl
        obtain ⟨g, r1, r2⟩ := X6_goes_v p2 hv hi
        rw [q1, p1, bndS, bndS, r1, bndS]
        have hM : MT n w (cs ++ [100 * i]) _ := MT_snoc (c := 100 * i) hl p3 (by rw [stp_walk (by omega)]; exact r2)
        rw [q3.2.2.2, q2.1.2.2.2.1.2.2.2.1, show inB (0 : Int32) (mLen 9) = true from by decide, ckT, cl0, hM.1.now (by decide)]
        exact ⟨_, _, _, rfl, rfl, Rel_town h1 h2 h3 h4 h5 t1 (t2.snoc hl hc) q2 hM t5 q3 frM⟩
  · rw [X4_isHouse_o c1 ho, X6_isOne_o m1 ho]
    exact ⟨_, _, _, rfl, rfl, h⟩
theorem st_tap : S_tap Rel := by
  intro σ τ h
  obtain ⟨h1, h2, h3, h4, h5, n, w, cs, t1, t2, t3, t4, t5⟩ := id h
  have c1 := t3.1
  have m1 := t4.1
  have hv := run_VW t1 t2
  have hn := c1.1
  have hlen := t2.1
  unfold f_X5_tap f_X6_tap
  rw [c1.2.2.1, m1.2.1, show (1 : Int32) = nI 1 from rfl, X5_isFull_v t3.2.1 hlen (by omega), t4.2.1]
  simp only [ckT, bfT, bfF, bndS, bnd2S, nmE, eq40 hlen, eq0 (show n < 2 ^ 31 by omega)]
  by_cases e : n = 0
  · rw [if_pos e, if_pos e]
    exact ⟨_, _, _, rfl, rfl, h⟩
  · rw [if_neg e, if_neg e]
    by_cases e2 : cs.length = 40
    · rw [if_pos e2, decide_eq_true (by omega), bfT]
      exact ⟨_, _, _, rfl, rfl, h⟩
    · have hl : cs.length < 40 := by omega
      have hc : cok n 1000 := ⟨by omega, by omega, by omega, by omega⟩
      rw [if_neg e2, decide_eq_false (by omega), bfF]
      obtain ⟨p, hp, ep⟩ := hv.2.2.1
      obtain ⟨σ', q1, q2, q3⟩ := X4_does_v t3 t1 t2 hl hc (i1 := nI 1) (i2 := 0) (i3 := 0) (code3 1 0 0)
      obtain ⟨f, p1, p2, p3⟩ := X6_note_v t4 hl
      obtain ⟨g, r1, r2⟩ := X6_taps_v p2 hv (show p < n by omega) ep
      rw [q1, p1, bndS, bndS, r1, bndS]
      have hM : MT n w (cs ++ [1000]) _ := MT_snoc (c := 1000) hl p3 (by rw [stp_tap (show p < 6 by omega) ep]; exact r2)
      have ht2 := t2.snoc hl hc
      have hv2 := run_VW t1 ht2
      obtain ⟨p', hp', ep'⟩ := hv2.2.2.1
      have h10 : 0 < n := by omega
      have hR := Rel_town h1 h2 h3 h4 h5 t1 ht2 q2 hM t5 q3 frM
      rw [q3.2.2.2, q2.1.2.2.2.1.2.2.2.2.2.1, show inB (2 : Int32) (mLen 9) = true from by decide, ckT, cl2, hM.1.now (by decide), ep', X4_isAwake_v q2.1 (show p' < n by omega), X6_isAwake_v hM.1 (show p' < n by omega), bndS, bndS]
      cases awV (run n (iniV w) (cs ++ [1000])) p'
      · exact ⟨_, _, _, rfl, rfl, hR⟩
      · exact ⟨_, _, _, rfl, rfl, hR⟩
theorem st_slate : S_slate Rel := by
  intro σ τ a1 a2 h
  obtain ⟨h1, h2, h3, h4, h5, n, w, cs, t1, t2, t3, t4, t5⟩ := id h
  have c1 := t3.1
  have m1 := t4.1
  have hv := run_VW t1 t2
  have hn := c1.1
  have hlen := t2.1
  unfold f_X5_slate f_X6_slate
  rcases i32c a1 (show n < 2 ^ 31 by omega) with ⟨i, hi, rfl⟩ | ho
  · have i3 : inB ((5 : Int32) + nI i) (mLen 9) = true := by rw [ad5]; exact inB_nI (by rw [mL9]; omega) (by rw [mL9]; decide)
    have i4 : ((5 : Int32) + nI i).toNatClampNeg = 5 + i := by rw [ad5, nI_clamp (by omega)]
    rw [X4_isHouse_i c1 hi, X6_isOne_i m1 hi, X5_isDate_v, X6_in_v, c1.g3 hi, show (1 : Int32) = nI 1 from rfl, X5_isFull_v t3.2.1 hlen (by omega), i3, i4, m1.d hi, t4.2.1]
    simp only [ckT, bfT, bfF, bndS, bnd2S, nmE, eq40 hlen]
    rcases inV_c a2 (b := 99) (by decide) with ⟨d, hd, rfl, ed⟩ | ⟨-, ed⟩
    · rw [show (99 : Int32) = nI 99 from rfl, ed, bfT, bfT]
      by_cases e : run n (iniV w) cs (5 + i) = nI d
      · rw [if_pos e, if_pos e]
        exact ⟨_, _, _, rfl, rfl, h⟩
      · rw [if_neg e, if_neg e]
        by_cases e2 : cs.length = 40
        · rw [if_pos e2, decide_eq_true (by omega), bfT]
          exact ⟨_, _, _, rfl, rfl, h⟩
        · have hl : cs.length < 40 := by omega
          have hc : cok n (2000 + 100 * i + d) := ⟨by omega, by omega, by omega, by omega⟩
          rw [if_neg e2, decide_eq_false (by omega), bfF]
          obtain ⟨σ', q1, q2, q3⟩ := X4_does_v t3 t1 t2 hl hc (i1 := 2) (i2 := nI i) (i3 := nI d) (by have := code3 2 i d; rw [show 2 * 1000 + i * 100 + d = 2000 + 100 * i + d by omega] at this; exact this)
          obtain ⟨f, p1, p2, p3⟩ := X6_note_v t4 hl
          obtain ⟨g, r1, r2⟩ := X6_changes_v (x := d) p2 hi
          rw [q1, p1, bndS, bndS, r1, bndS]
          have hM : MT n w (cs ++ [2000 + 100 * i + d]) _ := MT_snoc (c := 2000 + 100 * i + d) hl p3 (by rw [stp_slate (by omega) (by omega)]; exact r2)
          exact ⟨_, _, _, rfl, rfl, Rel_town h1 h2 h3 h4 h5 t1 (t2.snoc hl hc) q2 hM t5 q3 frM⟩
    · rw [show (99 : Int32) = nI 99 from rfl, ed, bfF, bfF]
      exact ⟨_, _, _, rfl, rfl, h⟩
  · rw [X4_isHouse_o c1 ho, X6_isOne_o m1 ho]
    exact ⟨_, _, _, rfl, rfl, h⟩
theorem st_frost : S_frost Rel := by
  intro σ τ a1 h
  obtain ⟨h1, h2, h3, h4, h5, n, w, cs, t1, t2, t3, t4, t5⟩ := id h
  have c1 := t3.1
  have m1 := t4.1
  have hv := run_VW t1 t2
  have hn := c1.1
  have hlen := t2.1
  unfold f_X5_frost f_X6_frost
  rw [X5_within_v, X6_in_v, c1.2.2.1, m1.2.1, c1.2.2.2.1.2.2.1, show (1 : Int32) = nI 1 from rfl, X5_isFull_v t3.2.1 hlen (by omega), cl3, show inB (3 : Int32) (mLen 9) = true from by decide, m1.now (by decide), t4.2.1]
  simp only [ckT, bfT, bfF, bndS, bnd2S, nmE, eq40 hlen, eq0 (show n < 2 ^ 31 by omega)]
  rcases inV_c a1 (b := 1) (by decide) with ⟨d, hd, rfl, ed⟩ | ⟨-, ed⟩
  · rw [ed, bfT, bfT]
    by_cases e0 : n = 0
    · rw [if_pos e0, if_pos e0]
      exact ⟨_, _, _, rfl, rfl, h⟩
    · rw [if_neg e0, if_neg e0]
      by_cases e : run n (iniV w) cs 3 = nI d
      · rw [if_pos e, if_pos e]
        exact ⟨_, _, _, rfl, rfl, h⟩
      · rw [if_neg e, if_neg e]
        by_cases e2 : cs.length = 40
        · rw [if_pos e2, decide_eq_true (by omega), bfT]
          exact ⟨_, _, _, rfl, rfl, h⟩
        · have hl : cs.length < 40 := by omega
          have hc : cok n (3000 + d) := ⟨by omega, by omega, by omega, by omega⟩
          rw [if_neg e2, decide_eq_false (by omega), bfF]
          obtain ⟨σ', q1, q2, q3⟩ := X4_does_v t3 t1 t2 hl hc (i1 := 3) (i2 := 0) (i3 := nI d) (by have := code3 3 0 d; rw [show 3 * 1000 + 0 * 100 + d = 3000 + d by omega] at this; exact this)
          obtain ⟨f, p1, p2, p3⟩ := X6_note_v t4 hl
          rw [q1, p1, bndS, bndS]
          have hM : MT n w (cs ++ [3000 + d]) _ := MT_snoc (c := 3000 + d) hl p3 (by rw [stp_frost (by omega)]; exact p2.up (k := 3) (by decide) (nI d))
          exact ⟨_, _, _, rfl, rfl, Rel_town h1 h2 h3 h4 h5 t1 (t2.snoc hl hc) q2 hM t5 q3 frM⟩
  · rw [ed, bfF, bfF]
    exact ⟨_, _, _, rfl, rfl, h⟩
