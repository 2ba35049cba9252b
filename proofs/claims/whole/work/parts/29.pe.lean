/-- the deed that a lot tells -/
def lotC (n L f : Nat) : Nat := if L / 8 % 8 ≤ 1 then 100 * (L % n) else if L / 8 % 8 ≤ 5 then 1000 else if L / 8 % 8 = 6 then 2000 + 100 * (L % n) + L / 64 % 100 else 3000 + (1 - f)
theorem lot_ok {n L f : Nat} (hn : n ≤ 6) (h0 : 0 < n) (hf : f < 2) : cok n (lotC n L f) := by
  have hm := Nat.mod_lt L h0
  have hd := Nat.mod_lt (L / 64) (show 100 > 0 by decide)
  unfold lotC
  generalize L % n = d at hm
  generalize L / 64 % 100 = e at hd
  repeat' split
  · exact ⟨h0, by omega, by omega, by omega⟩
  · exact ⟨h0, by omega, by omega, by omega⟩
  · exact ⟨h0, by omega, by omega, by omega⟩
  · exact ⟨h0, by omega, by omega, by omega⟩
theorem lot_C {n L f s : Nat} {w : Nat → Int32} {cs : List Nat} {σ : Sg} (h : CT n w cs s σ) (t1 : STW n w) (t2 : COK n cs) (hl : cs.length < 40) (h0 : 0 < n) (hL : L < 2 ^ 31) (hf : f < 2) (ef : run n (iniV w) cs 3 = nI f) : ∃ σ', f_X4_doesByLot s (nI L) σ = some σ' ∧ CT n w (cs ++ [lotC n L f]) s σ' ∧ FrD s σ σ' := by
  have hn := h.1.1
  have hok := lot_ok (L := L) hn h0 hf
  unfold f_X4_doesByLot
  rw [h.1.2.2.1]
  have e1 : nI L / (8 : Int32) = nI (L / 8) := nIdiv (b := 8) hL (by decide)
  have hL8 : L / 8 < 2 ^ 31 := by omega
  have e2 : nI (L / 8) - nI (L / 8) / (8 : Int32) * (8 : Int32) = nI (L / 8 % 8) := nIrem (b := 8) hL8 (by decide)
  have e3 : nI L / (64 : Int32) = nI (L / 64) := nIdiv (b := 64) hL (by decide)
  have e4 : nI (L / 64) - nI (L / 64) / (100 : Int32) * (100 : Int32) = nI (L / 64 % 100) := nIrem (b := 100) (by omega) (by decide)
  have e5 : nI L - nI L / nI n * nI n = nI (L % n) := nIrem hL (by omega)
  have q0 : ¬ nI n ≤ 0 := by rw [show (0 : Int32) = nI 0 from rfl]; exact nI_ge h0 (by omega)
  have q1 : ¬ nI n = 0 := by rw [eq0 (by omega)]; omega
  have g1 : ((1 : Int32) < nI (L / 8 % 8)) = (1 < L / 8 % 8) := nIlt (a := 1) (by decide) (by omega)
  have g5 : ((5 : Int32) < nI (L / 8 % 8)) = (5 < L / 8 % 8) := nIlt (a := 5) (by decide) (by omega)
  have g6 : (nI (L / 8 % 8) = (6 : Int32)) = (L / 8 % 8 = 6) := nIeq (b := 6) (by omega) (by decide)
  rw [e1, e2, e3, e4, e5, nmE, if_neg q0, decide_eq_true q1, ckT]
  simp only [nmE, g1, g5, g6, h.1.2.2.2.1.2.2.1, ef]
  unfold lotC at hok ⊢
  by_cases c1 : L / 8 % 8 ≤ 1
  · rw [if_pos c1] at hok ⊢
    obtain ⟨σ', p1, p2, p3⟩ := X4_does_v h t1 t2 hl hok (i1 := 0) (i2 := nI (L % n)) (i3 := 0) (by have := code3 0 (L % n) 0; rw [show 0 * 1000 + L % n * 100 + 0 = 100 * (L % n) by omega] at this; exact this)
    rw [if_neg (by omega), p1, bndS]
    exact ⟨_, rfl, p2, p3⟩
  · rw [if_neg c1] at hok ⊢
    rw [if_pos (by omega)]
    by_cases c2 : L / 8 % 8 ≤ 5
    · rw [if_pos c2] at hok ⊢
      obtain ⟨σ', p1, p2, p3⟩ := X4_does_v h t1 t2 hl hok (i1 := nI 1) (i2 := 0) (i3 := 0) (code3 1 0 0)
      rw [if_neg (by omega), show (1 : Int32) = nI 1 from rfl, p1, bndS]
      exact ⟨_, rfl, p2, p3⟩
    · rw [if_neg c2] at hok ⊢
      rw [if_pos (by omega)]
      by_cases c3 : L / 8 % 8 = 6
      · rw [if_pos c3] at hok ⊢
        obtain ⟨σ', p1, p2, p3⟩ := X4_does_v h t1 t2 hl hok (i1 := 2) (i2 := nI (L % n)) (i3 := nI (L / 64 % 100)) (by have := code3 2 (L % n) (L / 64 % 100); rw [show 2 * 1000 + L % n * 100 + L / 64 % 100 = 2000 + 100 * (L % n) + L / 64 % 100 by omega] at this; exact this)
        rw [if_pos c3, p1, bndS]
        exact ⟨_, rfl, p2, p3⟩
      · rw [if_neg c3] at hok ⊢
        obtain ⟨σ', p1, p2, p3⟩ := X4_does_v h t1 t2 hl hok (i1 := 3) (i2 := 0) (i3 := 1 - nI f) (by
          have := code3 3 0 (1 - f)
          rw [show 3 * 1000 + 0 * 100 + (1 - f) = 3000 + (1 - f) by omega, ← nIsub (show f ≤ 1 by omega)] at this
          exact this)
        rw [if_neg c3, p1, bndS]
        exact ⟨_, rfl, p2, p3⟩
/-- what a deed leaves of the reference -/
def FrN (τ τ' : Sg) : Prop := (∀ k, k ≠ 22 → gS τ' k = gS τ k) ∧ (∀ a, a ≠ 9 → a ≠ 10 → gA τ' a = gA τ a) ∧ ∀ k, gL τ' k = gL τ k
theorem FrN.rf (τ : Sg) : FrN τ τ := ⟨fun _ _ => rfl, fun _ _ _ => rfl, fun _ => rfl⟩
theorem FrN.tr {a b c : Sg} (h : FrN a b) (g : FrN b c) : FrN a c := ⟨fun k h1 => (g.1 k h1).trans (h.1 k h1), fun k h1 h2 => (g.2.1 k h1 h2).trans (h.2.1 k h1 h2), fun k => (g.2.2 k).trans (h.2.2 k)⟩
theorem lot_M {n L f : Nat} {w : Nat → Int32} {cs : List Nat} {τ : Sg} {KK : Sg → Option (Int32 × Sg)} (h : MT n w cs τ) (t1 : STW n w) (t2 : COK n cs) (hl : cs.length < 40) (h0 : 0 < n) (hL : L < 2 ^ 31) (hf : f < 2) (ef : run n (iniV w) cs 3 = nI f) : ∃ τ', (bnd (f_X6_note τ) (fun σ7 => (if (2 : Int32) ≤ nI (L / 8 % 8) then
    (if (6 : Int32) ≤ nI (L / 8 % 8) then
    (if nI (L / 8 % 8) = (6 : Int32) then
    (bnd (f_X6_changes (nI (L % n)) (nI (L / 64 % 100)) σ7) (fun σ9 => (KK σ9)))
    else
    (ck (inB (3 : Int32) (mLen 9)) (ck (inB (3 : Int32) (mLen 9)) (KK (pA σ7 9 (upd (gA σ7 9) (3 : Int32).toNatClampNeg ((1 : Int32) - (gA σ7 9 (3 : Int32).toNatClampNeg))))))))
    else
    (bnd (f_X6_taps σ7) (fun σ11 => (KK σ11))))
    else
    (bnd (f_X6_goes (nI (L % n)) σ7) (fun σ12 => (KK σ12)))))) = KK τ' ∧ MT n w (cs ++ [lotC n L f]) τ' ∧ FrN τ τ' := by
  have hn := h.1.1
  have hv := run_VW t1 t2
  have hm := Nat.mod_lt L h0
  obtain ⟨g, p1, p2, p3⟩ := X6_note_v h hl
  have g2 : ((2 : Int32) ≤ nI (L / 8 % 8)) = (2 ≤ L / 8 % 8) := nIle (a := 2) (by decide) (by omega)
  have g6 : ((6 : Int32) ≤ nI (L / 8 % 8)) = (6 ≤ L / 8 % 8) := nIle (a := 6) (by decide) (by omega)
  have g7 : (nI (L / 8 % 8) = (6 : Int32)) = (L / 8 % 8 = 6) := nIeq (b := 6) (by omega) (by decide)
  rw [p1, bndS]
  simp only [g2, g6, g7, show inB (3 : Int32) (mLen 9) = true from by decide, ckT, cl3, p2.now (show 3 < 5 by decide), ef]
  have hfr : ∀ f' g' : Nat → Int32, FrN τ (pA (pS (pA τ 10 f') 22 (nI (cs.length + 1))) 9 g') := fun f' g' => ⟨fun k hk => by rw [gS_pA, gS_ne _ _ hk, gS_pA], fun a h9 h10 => by rw [gA_ne _ _ h9, gA_pS, gA_ne _ _ h10], fun _ => rfl⟩
  unfold lotC
  by_cases c1 : L / 8 % 8 ≤ 1
  · obtain ⟨x, r1, r2⟩ := X6_goes_v p2 hv hm
    rw [if_pos c1, if_neg (by omega), r1, bndS]
    exact ⟨_, rfl, MT_snoc (c := 100 * (L % n)) hl p3 (by rw [stp_walk (by omega)]; exact r2), hfr _ _⟩
  · rw [if_neg c1, if_pos (by omega)]
    by_cases c2 : L / 8 % 8 ≤ 5
    · obtain ⟨p, hp, ep⟩ := hv.2.2.1
      obtain ⟨x, r1, r2⟩ := X6_taps_v p2 hv (show p < n by omega) ep
      rw [if_pos c2, if_neg (by omega), r1, bndS]
      exact ⟨_, rfl, MT_snoc (c := 1000) hl p3 (by rw [stp_tap (show p < 6 by omega) ep]; exact r2), hfr _ _⟩
    · rw [if_neg c2, if_pos (by omega)]
      by_cases c3 : L / 8 % 8 = 6
      · obtain ⟨x, r1, r2⟩ := X6_changes_v (x := L / 64 % 100) p2 hm
        rw [if_pos c3, if_pos c3, r1, bndS]
        exact ⟨_, rfl, MT_snoc (c := 2000 + 100 * (L % n) + L / 64 % 100) hl p3 (by rw [stp_slate (by omega) (by omega)]; exact r2), hfr _ _⟩
      · rw [if_neg c3, if_neg c3]
        refine ⟨_, rfl, MT_snoc (c := 3000 + (1 - f)) hl p3 ?_, hfr _ _⟩
        rw [stp_frost (by omega), ← nIsub (show f ≤ 1 by omega)]
        exact p2.up (k := 3) (by decide) (1 - nI f)
theorem lcg {X : Nat} (hX : X < 2 ^ 31) : lN X * (48271 : Int64) - lN X * (48271 : Int64) / (2147483647 : Int64) * (2147483647 : Int64) = lN (X * 48271 % 2147483647) := by
  rw [show (48271 : Int64) = lN 48271 from rfl, show (2147483647 : Int64) = lN 2147483647 from rfl, lN_mul, lNrem (by omega) (by decide)]
theorem lots_loop {n k s : Nat} {w : Nat → Int32} {KC KM : Sg → Option (Int32 × Sg)} {σ0 τ0 : Sg} (t1 : STW n w) (h0 : 0 < n) (hk : k ≤ 40) (hs0 : gR σ0 0 = s) : ∀ (m j N N' X : Nat) (cs : List Nat) (σ τ : Sg), j + m = k → m < N → m < N' → X < 2 ^ 31 → COK n cs → cs.length + m ≤ 40 → CT n w cs s σ → MT n w cs τ → FrD s σ0 σ → FrN τ0 τ →
    ∃ (σ' τ' : Sg) (cs' : List Nat), l_X5_lots_56 (nI k) KC N (lN X) (nI j) σ = KC σ' ∧ l_X6_lots_52 (nI k) KM N' (lN X) (nI j) τ = KM τ' ∧ COK n cs' ∧ CT n w cs' s σ' ∧ MT n w cs' τ' ∧ FrD s σ0 σ' ∧ FrN τ0 τ' := by
  intro m
  induction m with
  | zero =>
    intro j N N' X cs σ τ hj hN hN' hX t2 hl hC hM f1 f2
    obtain ⟨N, rfl⟩ : ∃ k, N = k + 1 := ⟨N - 1, by omega⟩
    obtain ⟨N', rfl⟩ : ∃ k, N' = k + 1 := ⟨N' - 1, by omega⟩
    unfold l_X5_lots_56 l_X6_lots_52
    rw [if_pos (nI_le (by omega) (by omega)), if_pos (nI_le (by omega) (by omega))]
    exact ⟨σ, τ, cs, rfl, rfl, t2, hC, hM, f1, f2⟩
  | succ m ih =>
    intro j N N' X cs σ τ hj hN hN' hX t2 hl hC hM f1 f2
    obtain ⟨N, rfl⟩ : ∃ k, N = k + 1 := ⟨N - 1, by omega⟩
    obtain ⟨N', rfl⟩ : ∃ k, N' = k + 1 := ⟨N' - 1, by omega⟩
    have hn := hC.1.1
    have hv := run_VW t1 t2
    obtain ⟨f, hf, ef⟩ : ∃ f, f < 2 ∧ run n (iniV w) cs 3 = nI f := by
      rcases hv.1 with e | e
      · exact ⟨0, by omega, e⟩
      · exact ⟨1, by omega, e⟩
    have hY : X * 48271 % 2147483647 < 2 ^ 31 := by
      have := Nat.mod_lt (X * 48271) (show 2147483647 > 0 by decide)
      omega
    unfold l_X5_lots_56 l_X6_lots_52
    rw [if_neg (nI_ge (by omega) (by omega)), if_neg (nI_ge (by omega) (by omega)), lcg hX]
    generalize X * 48271 % 2147483647 = L at hY
    obtain ⟨σ', p1, p2, p3⟩ := lot_C hC t1 t2 (by omega) h0 hY hf ef
    have e1 : lN L / (8 : Int64) = lN (L / 8) := lNdiv (b := 8) (by omega) (by decide)
    have hL8 : L / 8 ≤ L := Nat.div_le_self _ _
    have hL64 : L / 64 ≤ L := Nat.div_le_self _ _
    have e2 : lN (L / 8) - lN (L / 8) / (8 : Int64) * (8 : Int64) = lN (L / 8 % 8) := lNrem (b := 8) (by omega) (by decide)
    have e3 : lN L / (64 : Int64) = lN (L / 64) := lNdiv (b := 64) (by omega) (by decide)
    have e4 : lN (L / 64) - lN (L / 64) / (100 : Int64) * (100 : Int64) = lN (L / 64 % 100) := lNrem (b := 100) (by omega) (by decide)
    have e5 : lN L - lN L / lN n * lN n = lN (L % n) := lNrem (by omega) (by omega)
    have q1 : ¬ lN n = 0 := by rw [lNeq0 (by omega)]; omega
    rw [f1.2.2.2, hs0, hM.1.2.1, nI_l (show n < 2 ^ 31 by omega)]
    simp only [nmE]
    rw [e1, e2, e3, e4, e5, lN_i, lN_i, lN_i, lN_i, decide_eq_true q1, ckT, p1, bndS, nI_1]
    obtain ⟨τ', r1, r2, r3⟩ := lot_M (KK := fun σj => l_X6_lots_52 (nI k) KM N' (lN L) (nI (j + 1)) σj) hM t1 t2 (by omega) h0 hY hf ef
    rw [r1]
    have ht := t2.snoc (show cs.length < 40 by omega) (lot_ok (L := L) hn h0 hf)
    exact ih (j + 1) N N' L _ σ' τ' (by omega) (by omega) (by omega) hY ht (by rw [List.length_append]; simp only [List.length_singleton]; omega) p2 r2 (f1.tr p3) (f2.tr r3)
theorem st_lots : S_lots Rel := by
  intro σ τ a1 a2 h
  obtain ⟨h1, h2, h3, h4, h5, n, w, cs, t1, t2, t3, t4, t5⟩ := id h
  have c1 := t3.1
  have m1 := t4.1
  have hv := run_VW t1 t2
  have hn := c1.1
  have hlen := t2.1
  have hs := h1.1
  unfold f_X5_lots f_X6_lots
  rw [X5_within_v, X6_in_v, X6_in_v, c1.2.2.1, m1.2.1, t4.2.1]
  simp only [ckT, bfT, bfF, bndS, bnd2S, nmE, eq0 (show n < 2 ^ 31 by omega)]
  by_cases e1 : ¬ a1 < 1 ∧ ¬ (20 : Int32) < a1
  · have ei : inV a1 1 20 = true := decide_eq_true e1
    rw [ei, bfT, bfT]
    obtain ⟨k, hk, rfl⟩ : ∃ k, k ≤ 20 ∧ a1 = nI k := by
      obtain ⟨k, hk, rfl⟩ := nI_of (x := a1) (fun z => e1.1 (by
        rw [Int32.lt_iff_toInt_lt] at z ⊢
        have z0 : (0 : Int32).toInt = 0 := by decide
        have z1 : (1 : Int32).toInt = 1 := by decide
        omega))
      have := e1.2
      rw [show (20 : Int32) = nI 20 from rfl, nIlt (by decide) hk] at this
      exact ⟨k, by omega, rfl⟩
    by_cases e2 : a2 < 1
    · rw [if_pos e2, show inV a2 1 2147483646 = false from decide_eq_false (fun z => z.1 e2), bfF]
      exact ⟨_, _, _, rfl, rfl, h⟩
    · rw [if_neg e2]
      obtain ⟨X, hX, rfl⟩ := nI_of (x := a2) (fun z => e2 (by
        rw [Int32.lt_iff_toInt_lt] at z ⊢
        have z0 : (0 : Int32).toInt = 0 := by decide
        have z1 : (1 : Int32).toInt = 1 := by decide
        omega))
      rw [nI_l hX]
      have e3 : (lg_cmp (lN X) (2147483647 : Int64) < 0) = (X < 2147483647) := by
        apply propext
        rw [lg_cmp_lt, Int64.lt_iff_toInt_lt, lNt (by omega)]
        have : (2147483647 : Int64).toInt = 2147483647 := by decide
        omega
      have e4 : inV (nI X) 1 2147483646 = decide (X < 2147483647) := by
        unfold inV
        refine decide_eq_decide.mpr ⟨fun z => ?_, fun z => ⟨e2, ?_⟩⟩
        · have := z.2
          rw [show (2147483646 : Int32) = nI 2147483646 from rfl, nIlt (by decide) hX] at this
          omega
        · rw [show (2147483646 : Int32) = nI 2147483646 from rfl, nIlt (by decide) hX]
          omega
      simp only [e3, e4]
      by_cases e5 : X < 2147483647
      · rw [if_pos e5, decide_eq_true e5, bfT]
        by_cases e0 : n = 0
        · rw [if_pos e0, if_pos e0]
          exact ⟨_, _, _, rfl, rfl, h⟩
        · have e40 : (nI cs.length + nI k ≤ (40 : Int32)) = (cs.length + k ≤ 40) := by rw [nI_add]; exact nIle (b := 40) (by omega) (by decide)
          rw [if_neg e0, if_neg e0, X5_isFull_v t3.2.1 hlen (by omega), bndS]
          simp only [e40]
          by_cases e6 : cs.length + k ≤ 40
          · rw [if_pos e6, decide_eq_false (by omega), bfF]
            obtain ⟨σ', τ', cs', p1, p2, p3, p4, p5, p6, p7⟩ := lots_loop (s := gR σ 0) (σ0 := σ) (τ0 := τ) (k := k) (KC := fun (σv87 : Sg) => (bnd (f_X4_awakeSet (gR σv87 0) σv87) (fun r10 => (bnd (f_J6_bitCount_0f7a4 r10) (fun r11 => (some (r11, σv87))))))) (KM := fun (σv169 : Sg) => (bnd (f_X6_awakeOnes σv169) (fun r13 => (bnd (f_X6_bits r13) (fun r14 => (some (r14, σv169))))))) t1 (by omega) (by omega) rfl k 0 FU FU X cs σ τ (by omega) (lt_FU (by omega)) (lt_FU (by omega)) (by omega) t2 e6 t3 t4 (FrD.rf _ _) (FrN.rf _)
            have e00 : (0 : Int32) = nI 0 := rfl
            rw [e00, p1, p2]
            rw [p6.2.2.2, X4_awakeSet_v p4.1, X6_awakeOnes_v p5.1, bndS, bndS, awSet_n hn, bitC _ (bsN_64 _ hn), X6_bits_v, bndS, bndS]
            exact ⟨_, _, _, rfl, rfl, Rel_town h1 h2 h3 h4 h5 t1 p3 p4 p5 t5 p6 p7⟩
          · rw [if_neg e6, decide_eq_true (by omega), bfT]
            exact ⟨_, _, _, rfl, rfl, h⟩
      · rw [if_neg e5, decide_eq_false e5, bfF]
        exact ⟨_, _, _, rfl, rfl, h⟩
  · have ei : inV a1 1 20 = false := decide_eq_false e1
    rw [ei, bfF, bfF]
    exact ⟨_, _, _, rfl, rfl, h⟩
