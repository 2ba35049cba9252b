/-! the calls about rounds, dates, pairs, pay, turns, chances: class alone -/
section CALLB
variable {n : Nat} {w : Nat → Int32} {cs cs' : List Nat} {kc : Option (List Nat)} {RS : Nat → Int32} {RA : Nat → Nat → Int32} {A : Int32} {U V : Int64} {T X Y : Nat → Int32} {σ σ' : Sg}
theorem best_walk {n : Nat} {v : Nat → Int32} {S : Nat} (hn : n ≤ 6) (hv : VW n v) {b : Nat × Nat} (h : bestN n v S = some b) : ∃ s, FV n v (pcN S) b.2 = some s ∧ s.1 = S ∧ b.1 = s.2.2.2 ∧ b.1 ≤ 30 := by
  have := fo_ind (g := Mst n v (pcN S) S) (fun _ st => ∀ b, st = some b → ∃ s, FV n v (pcN S) b.2 = some s ∧ s.1 = S ∧ b.1 = s.2.2.2) (6 ^ pcN S) 0 none (fun i st _ _ h => by
    intro b hb
    unfold Mst at hb
    cases hF : FV n v (pcN S) i with
    | none => rw [hF] at hb; exact h b hb
    | some s =>
      rw [hF] at hb
      dsimp only at hb
      by_cases e : s.1 = S
      · rw [if_pos e] at hb
        cases st with
        | none => cases hb; exact ⟨s, hF, e, rfl⟩
        | some b0 =>
          dsimp only at hb
          by_cases e2 : b0.1 ≤ s.2.2.2
          · rw [if_pos e2] at hb; exact h b hb
          · rw [if_neg e2] at hb; cases hb; exact ⟨s, hF, e, rfl⟩
      · rw [if_neg e] at hb; exact h b hb) (fun b hb => by cases hb)
  obtain ⟨s, h1, h2, h3⟩ := this b h
  obtain ⟨f1, f2, -, -, f5, -⟩ := FS_all (pN_v hn hv).2 (moN5 hv) _ _ _ h1
  have hS : S < 64 := by
    rw [← h2, f1]
    exact orD64 _ _
  have hk := pcN6 S hS
  exact ⟨s, h1, h2, h3, by omega⟩
theorem k_soonest (h : IW n w cs kc RS RA A U V T X Y σ) {s : Nat} (hs : s < 2 ^ n) : f_X5_soonest (nI s) σ = some (if canV (run n (iniV w) cs) (nI s) n = true then tapsLeftV (run n (iniV w) cs) (nI s) n + walkO (nI s) (run n (iniV w) cs 2) else -4) := by
  have c1 := h.hc
  unfold f_X5_soonest
  rw [X4_isSet_i c1 hs, bndS, bfT, X4_canWake_v c1, bndS, X4_tapsLeft_v c1, bndS, X3_walkOver_v, c1.2.2.2.1.2.2.2.2.2.1, bndS]
  cases canV (run n (iniV w) cs) (nI s) n <;> rfl
theorem k_intime0 (h : IW n w cs kc RS RA A U V T X Y σ) {S r : Nat} (hS : S < 2 ^ n) (hr : r < 6) (hc : canV (run n (iniV w) cs) (nI S) n = false) : f_X5_intime (nI S) (nI r) σ = some (-4, σ) := by
  have c1 := h.hc
  unfold f_X5_intime
  rw [pick_i (q := 71) (show r < 6 by omega), bndS, ocS, X4_isSet_i c1 hS, bndS, bfT, X4_canWake_v c1, bndS, hc, bfF]
theorem k_intime (h : IW n w cs kc RS RA A U V T X Y σ) {S r : Nat} (hS : S < 2 ^ n) (hr : r < 6) (hc : canV (run n (iniV w) cs) (nI S) n = true) : ∃ σ', f_X5_intime (nI S) (nI r) σ = some (encB (tapsN (moN (run n (iniV w) cs) n) S) (bestN n (run n (iniV w) cs) S), σ') ∧
    ((bestN n (run n (iniV w) cs) S = none ∧ IW n w cs kc RS RA A U V T X Y σ') ∨ ∃ b f, bestN n (run n (iniV w) cs) S = some b ∧ IW n w cs kc (va_up RS r (nI (pcN S))) (va_up RA r f) A U V T X Y σ' ∧ ∀ x, x < pcN S → f x = nI (dgt (pcN S) b.2 x)) := by
  have c1 := h.hc
  have hv := h.vw
  have hn := h.n6
  have hG := GSet_can hn hS hc
  have hk := pcN6 S hG.1
  obtain ⟨x, σ7, p1, p2, p3, p4⟩ := fewest_v c1 hv hG
  have hR := h.side p2.s8
  unfold f_X5_intime
  rw [pick_i (q := 71) (show r < 6 by omega), bndS, ocS, show rBase 71 + r = 5 + r from rfl, X4_isSet_i c1 hS, bndS, bfT, X4_canWake_v c1, bndS, hc, bfT, p1, bnd2S, p3]
  cases hst : bestN n (run n (iniV w) cs) S with
  | none =>
    rw [show encB (tapsN (moN (run n (iniV w) cs) n) S) none = -9 from rfl, if_pos rfl]
    exact ⟨_, rfl, Or.inl ⟨rfl, hR⟩⟩
  | some b =>
    obtain ⟨g1, g2⟩ := p4 b hst
    have hT := tapsN30 (moN5 hv (n := n)) S
    obtain ⟨s0, -, -, -, hb⟩ := best_walk hn hv hst
    rw [show encB (tapsN (moN (run n (iniV w) cs) n) S) (some b) = nI (b.1 + tapsN (moN (run n (iniV w) cs) n) S) from rfl, if_neg (nI9 (by omega)), X0_takeFrom_i (m := pcN S) g1 (show pcN S ≤ cLen 37 from hk) (by rw [cLen_row (by omega)]; omega) (by omega), bndS]
    refine ⟨_, rfl, Or.inr ⟨b, _, rfl, hR.rowset hr _ _, fun x hx => ?_⟩⟩
    rw [if_pos hx]
    exact g2 x hx
theorem manyG_lt (n : Nat) (v : Nat → Int32) : fo (manyG n v) 1 (2 ^ n - 1) 0 < 2 ^ n := by
  have hp : 0 < 2 ^ n := Nat.two_pow_pos n
  exact fo_ind (I := fun _ b => b < 2 ^ n) (2 ^ n - 1) 1 0 (fun i a h1 h2 h3 => by
    unfold manyG
    split
    · omega
    · exact h3) hp
theorem k_many (h : IW n w cs kc RS RA A U V T X Y σ) (h0 : 0 < n) : ∃ σ', f_X5_many σ = some (nI (pcN (fo (manyG n (run n (iniV w) cs)) 1 (2 ^ n - 1) 0)), σ') ∧ IW n w cs kc RS RA (nI (fo (manyG n (run n (iniV w) cs)) 1 (2 ^ n - 1) 0)) U V T X Y σ' := by
  have c1 := h.hc
  have hv := h.vw
  have hn := h.n6
  have h64 := p64 hn
  have hlt := manyG_lt n (run n (iniV w) cs)
  unfold f_X5_many
  rw [if_neg (eqn0 h h0)]
  unfold f_X3_greatest
  obtain ⟨σ1, p1, hSt⟩ := start_v c1
  rw [p1, bndS, (c1.fe hSt.1).2.2.1, six_v n (by omega), X0_fill_i (k := 6 * 2 ^ n) (show 6 * 2 ^ n ≤ cLen 33 by show 6 * 2 ^ n ≤ 384; omega), bndS]
  clear p1
  obtain ⟨σ2, e2⟩ : ∃ x, x = pA (pS σ1 (16 * 33 + 1) (nI (6 * 2 ^ n))) 33 (fun i => if i < 6 * 2 ^ n then -9 else gA σ1 33 i) := ⟨_, rfl⟩
  rw [← e2]
  have hD : DT n (run n (iniV w) cs) σ 1 σ2 := by
    obtain ⟨q1, q2, q3, q4⟩ := hSt
    refine ⟨⟨?_, ?_, ?_, fun i hi => ?_⟩, ?_, fun a' z1 z2 => absurd z1 (by omega), fun x x1 x2 => ?_⟩
    · rw [e2]; exact (q1.tr (FE.s (Or.inr (by decide)))).tr (FE.a (by decide))
    · rw [e2, gS_pA, gS_ne _ _ (by decide)]; exact q2
    · rw [e2, gS_pA, gS_ne _ _ (by decide)]; exact q3
    · rw [e2, gA_ne _ _ (by decide), gA_ne _ _ (by decide)]; exact q4 i hi
    · rw [e2, gS_pA, gS_same]
    · rw [e2, gA_same, if_pos x2]
  clear e2
  have hp : 0 < 2 ^ n := Nat.two_pow_pos n
  obtain ⟨σ3, r1, r2⟩ := manyC (K := (fun (v2_146 : Int32) (σv146 : Sg) => (some (v2_146, σv146)))) c1 hv (2 ^ n - 1) 1 FU 0 σ2 (by omega) (lt_FU (by omega)) (by decide) (by decide) hD
  rw [show (0 : Int32) = nI 0 from rfl, show (1 : Int32) = nI 1 from rfl, r1, bnd2S, nmE, gS_same, bitC _ (by omega), bitsN _ (by omega), bndS]
  exact ⟨_, rfl, (h.side r2.s8).tells _⟩
theorem k_at (h : IW n w cs kc RS RA A U V T X Y σ) {r i m : Nat} (hr : r < 6) (hs : RS r = nI m) (hm : m ≤ 40) (hi : i < m) : f_X5_at (nI r) (nI i) σ = some (1, pS σ 9 (RA r i)) := by
  obtain ⟨e1, e2⟩ := h.row r hr
  rw [hs] at e1
  have hl : m ≤ cLen (5 + r) := by rw [cLen_row (by omega)]; exact hm
  unfold f_X5_at f_X5_refusedAt
  rw [pick_i (q := 71) (show r < 6 by omega), bndS, ocS, show rBase 71 + r = 5 + r from rfl, ocS, refused_p e1 (by omega)]
  simp only [ocS, bnd2S, X0_has_i e1 hl (show i < 2 ^ 31 by omega), bndS, decide_eq_true hi, bfT, if_true, X0_get_i e1 hl hi, nmE, e2]
theorem k_lay (h : IW n w cs kc RS RA A U V T X Y σ) {r i m : Nat} (hr : r < 6) (hs : RS r = nI m) (hm : m ≤ 40) (hi : i < m) (x : Int32) : ∃ σ', f_X5_lay (nI r) (nI i) x σ = some (1, σ') ∧ IW n w cs kc (va_up RS r (nI m)) (va_up RA r (upd (RA r) i x)) (RA r i) U V T X Y σ' := by
  obtain ⟨e1, e2⟩ := h.row r hr
  have e0 := e1
  rw [hs] at e1
  have hl : m ≤ cLen (5 + r) := by rw [cLen_row (by omega)]; exact hm
  have e3 : gS (pS σ 9 (RA r i)) (16 * (5 + r) + 1) = nI m := (gS_ne _ _ (by omega)).trans e1
  unfold f_X5_lay f_X5_refusedAt
  rw [pick_i (q := 71) (show r < 6 by omega), bndS, ocS, show rBase 71 + r = 5 + r from rfl, ocS, refused_p e1 (by omega)]
  simp only [ocS, bnd2S, X0_has_i e1 hl (show i < 2 ^ 31 by omega), bndS, decide_eq_true hi, bfT, if_true, X0_get_i e1 hl hi, nmE, e2, X0_set_i e3 hl hi]
  refine ⟨_, rfl, ?_⟩
  have k := (h.tells (RA r i)).rowset hr (nI m) (upd (RA r) i x)
  rw [← e3, pS_self] at k
  rw [gA_pS, e2]
  rw [e3] at k
  exact k
theorem k_row (h : IW n w cs kc RS RA A U V T X Y σ) {r m : Nat} (hr : r < 6) (hm : m ≤ 40) : ∃ σ', f_X5_row (nI r) (nI m) σ = some (nI m, σ') ∧ IW n w cs kc (va_up RS r (nI m)) (va_up RA r (fun i => if i < m then 0 else RA r i)) A U V T X Y σ' := by
  obtain ⟨e1, e2⟩ := h.row r hr
  unfold f_X5_row
  rw [pick_i (q := 71) (show r < 6 by omega), bndS, ocS, show rBase 71 + r = 5 + r from rfl, if_pos (show nI m ≤ (40 : Int32) from nI_le (b := 40) hm (by decide)), if_pos (nI_pos' (by omega)), X0_fill_i (by rw [cLen_row (by omega)]; exact hm), bndS, e2]
  exact ⟨_, rfl, h.rowset hr _ _⟩
theorem refP_I (h : IW n w cs kc RS RA A U V T X Y σ) {r m : Nat} {it : Nat → Int32} (hr : r < 6) (hs : RS r = nI (2 * m)) (hm : 2 * m ≤ 16) (hi : ∀ i, i < 2 * m → RA r i = it i) (hp : al (pairB it) 0 m = true) : f_X5_refusedPairs (some (5 + r)) σ = some (0, σ) := by
  obtain ⟨e1, e2⟩ := h.row r hr
  rw [hs] at e1
  unfold f_X5_refusedPairs
  rw [ocS, refused_p e1 (by omega), bnd2S, if_pos rfl, e1, show nI (2 * m) - nI (2 * m) / (2 : Int32) * (2 : Int32) = nI (2 * m % 2) from nIrem (b := 2) (by omega) (by decide), nmE, show 2 * m % 2 = 0 by omega, if_pos (show nI 0 = 0 from rfl), if_pos (show nI (2 * m) ≤ (16 : Int32) from nI_le (b := 16) hm (by decide)), refP_C (it := it) e1 (by omega) hr (fun i hi' => by rw [e2]; exact hi i hi'), if_pos hp]
theorem k_whose (h : IW n w cs kc RS RA A U V T X Y σ) {r m : Nat} {it : Nat → Int32} (hr : r < 6) (hs : RS r = nI (2 * m)) (hm : 2 * m ≤ 16) (hi : ∀ i, i < 2 * m → RA r i = it i) (hp : al (pairB it) 0 m = true) : f_X5_whose (nI r) σ = some (nI (bsN (fun i => canB it m (run n (iniV w) cs (23 + i)) (run n (iniV w) cs 3)) n), σ) := by
  obtain ⟨e1, e2⟩ := h.row r hr
  rw [hs] at e1
  have c1 := h.hc
  have hn := h.n6
  unfold f_X5_whose
  rw [pick_i (q := 71) (show r < 6 by omega), bndS, ocS, show rBase 71 + r = 5 + r from rfl, refP_I h hr hs hm hi hp, bnd2S, if_pos rfl]
  have L1 : ∀ K : Int32 → Option (Int32 × Sg), l_X5_whose_31 (5 + r) σ K FU 0 0 = K (fo (fun i x => if canB it m (run n (iniV w) cs (23 + i)) (run n (iniV w) cs 3) then x ||| ((1 : Int32) <<< (nI i &&& 31)) else x) 0 n 0) := fun K => loopP (fun N j x => l_X5_whose_31 (5 + r) σ K N x (nI j)) K _ n
    (fun N x => by
      show l_X5_whose_31 (5 + r) σ K (N + 1) x (nI n) = _
      unfold l_X5_whose_31
      rw [c1.2.2.1, if_pos (nI_le (Nat.le_refl _) (by omega))])
    (fun N j x hj => by
      show l_X5_whose_31 (5 + r) σ K (N + 1) x (nI j) = _
      conv => lhs; unfold l_X5_whose_31
      rw [c1.2.2.1, if_neg (nI_ge hj (by omega)), c1.g0 hj, bndS, canBe_C (it := it) c1 e1 (by omega) (by omega) (fun i hi' => by rw [e2]; exact hi i hi')]
      simp only [ckT, bfT, bfF, bndS, bnd2S, nmE, nI_1]
      cases canB it m (run n (iniV w) cs (23 + j)) (run n (iniV w) cs 3) <;> rfl) n 0 FU 0 (by omega) (lt_FU (by omega))
  rw [L1, fo_bs _ n hn]
theorem k_kinds (h : IW n w cs kc RS RA A U V T X Y σ) {r m : Nat} {it : Nat → Int32} (hr : r < 6) (hs : RS r = nI (2 * m)) (hm : 2 * m ≤ 16) (hi : ∀ i, i < 2 * m → RA r i = it i) (hp : al (pairB it) 0 m = true) : f_X5_kinds (nI r) σ = some (nI (bsN (fun k => canB it m (nI k) (run n (iniV w) cs 3)) 6), σ) := by
  obtain ⟨e1, e2⟩ := h.row r hr
  rw [hs] at e1
  unfold f_X5_kinds
  rw [pick_i (q := 71) (show r < 6 by omega), bndS, ocS, show rBase 71 + r = 5 + r from rfl, refP_I h hr hs hm hi hp, bnd2S, if_pos rfl, kindsBy_C (it := it) h.hc e1 (by omega) hr (fun i hi' => by rw [e2]; exact hi i hi'), bndS]
theorem k_test (h : IW n w cs kc RS RA A U V T X Y σ) {r m S : Nat} {it : Nat → Int32} (hr : r < 6) (hs : RS r = nI (2 * m)) (hm : 2 * m ≤ 16) (hi : ∀ i, i < 2 * m → RA r i = it i) (hp : al (pairB it) 0 m = true) (hS : bsN (fun k => canB it m (nI k) (run n (iniV w) cs 3)) 6 = S) (h0 : 0 < S) : f_X5_test (nI r) σ = some ((bestD (fun d => mostV (nI S) (run n (iniV w) cs 3) (nI d))).1, pS σ 9 (bestD (fun d => mostV (nI S) (run n (iniV w) cs 3) (nI d))).2) := by
  obtain ⟨e1, e2⟩ := h.row r hr
  rw [hs] at e1
  have c1 := h.hc
  have h64 := bsN_64 (fun k => canB it m (nI k) (run n (iniV w) cs 3)) (Nat.le_refl 6)
  rw [hS] at h64
  unfold f_X5_test
  rw [pick_i (q := 71) (show r < 6 by omega), bndS, ocS, show rBase 71 + r = 5 + r from rfl, refP_I h hr hs hm hi hp, bnd2S, if_pos rfl, kindsBy_C (it := it) c1 e1 (by omega) hr (fun i hi' => by rw [e2]; exact hi i hi'), bndS, hS, if_neg (by rw [eq0 (by omega)]; omega), greatestPart_C c1, bndS, test_C c1, nmE]
theorem k_sets (h : IW n w cs kc RS RA A U V T X Y σ) (h0 : 0 < n) {a : Nat} (ha : a < 100) : ∃ σ', f_X5_sets (nI a) σ = some (1, σ') ∧ IW n w cs kc RS RA (sm (fun s => decide (feesV (run n (iniV w) cs) (nI s) n = nI a)) 0 (2 ^ n)) (lN (cn (fun s => decide (feesV (run n (iniV w) cs) (nI s) n = nI a)) 0 (2 ^ n))) (lN 1) T X Y σ' := by
  have c1 := h.hc
  have hn := h.n6
  have h64 := p64 hn
  unfold f_X5_sets
  rw [X5_within_v, show inV (nI a) 0 99 = true from inV_t (b := 99) (by omega) (by decide), bndS, bfT, if_neg (eqn0 h h0), setsC c1]
  have hcl := cn_le (fun s => decide (feesV (run n (iniV w) cs) (nI s) n = nI a)) (2 ^ n) 0
  generalize cn (fun s => decide (feesV (run n (iniV w) cs) (nI s) n = nI a)) 0 (2 ^ n) = M at hcl ⊢
  rw [nI_l (show M < 2 ^ 31 by omega), show (1 : Int64) = lN 1 from rfl, nmE, tellRatio_v (by omega) (by decide) (by decide), bndS, Nat.gcd_one_right, lNdiv (by omega) (by decide), lNdiv (by decide) (by decide), Nat.div_one, Nat.div_one]
  exact ⟨_, rfl, (h.tells _).ratio _ _⟩
def sureV (v : Nat → Int32) (n : Nat) (a : Int32) : Int32 × Int32 × Int32 := fo (fun j (b : Int32 × Int32 × Int32) => if feesV v (nI j) n = a then (b.1 &&& nI j, b.2.1 ||| nI j, b.2.2 + 1) else b) 0 (2 ^ n) (nI (2 ^ n - 1), 0, 0)
theorem k_sure (h : IW n w cs kc RS RA A U V T X Y σ) (h0 : 0 < n) {a : Nat} (ha : a < 100) (hne : ¬ (sureV (run n (iniV w) cs) n (nI a)).2.2 = 0) : ∃ σ', f_X5_sure (nI a) σ = some ((sureV (run n (iniV w) cs) n (nI a)).1, σ') ∧ IW n w cs kc RS RA (nI (2 ^ n - 1) &&& ((sureV (run n (iniV w) cs) n (nI a)).2.1 ^^^ (-1 : Int32))) U V T X Y σ' := by
  have c1 := h.hc
  have hn := h.n6
  unfold f_X5_sure
  unfold sureV at hne ⊢
  rw [X5_within_v, show inV (nI a) 0 99 = true from inV_t (b := 99) (by omega) (by decide), bndS, bfT, if_neg (eqn0 h h0), c1.2.2.1, sub1 n (by omega), nmE, sureC c1]
  generalize fo (fun j (b : Int32 × Int32 × Int32) => if feesV (run n (iniV w) cs) (nI j) n = nI a then (b.1 &&& nI j, b.2.1 ||| nI j, b.2.2 + 1) else b) 0 (2 ^ n) (nI (2 ^ n - 1), 0, 0) = b at hne ⊢
  dsimp only
  rw [if_neg hne, nmE]
  exact ⟨_, rfl, h.tells _⟩
theorem k_duel (h : IW n w cs kc RS RA A U V T X Y σ) (h0 : 0 < n) {t : Nat} (ht : t < 4) : ∃ σ', f_X5_duel (nI t) σ = some (1, σ') ∧ IW n w cs kc RS RA (nI (duG (duC (moreV (run n (iniV w) cs)) 0) ((n + 1 - 0) / 2) 0 t).1 - nI (duG (duC (moreV (run n (iniV w) cs)) 1) ((n + 1 - 1) / 2) 1 t).1) U V T X Y σ' := by
  have c1 := h.hc
  have hn := h.n6
  have hv := h.vw
  have a0 := duC_v c1 hv (P := 0) (T := t) (by decide) ht
  have a1 := duC_v c1 hv (P := 1) (T := t) (by decide) ht
  unfold f_X5_duel
  rw [X5_within_v, show inV (nI t) 0 3 = true from inV_t (b := 3) (by omega) (by decide), bndS, bfT, if_neg (eqn0 h h0), show (0 : Int32) = nI 0 from rfl, show (1 : Int32) = nI 1 from rfl, a0, bndS, a1, bndS, nmE]
  exact ⟨_, rfl, h.tells _⟩
theorem tellI (h : IW n w cs kc RS RA A U V T X Y σ) {a m : Nat} (ha : a < 2 ^ 48) (hm : m < 9) : ∃ σ', (bnd (f_X5_power (12 : Int64) (nI m)) (fun r7 => (bnd (f_X5_tellRatio (lN a) r7 σ) (fun σ8 => (some ((1 : Int32), σ8)))))) = some (1, σ') ∧ IW n w cs kc RS RA A (lN (a / Nat.gcd a (12 ^ m))) (lN (12 ^ m / Nat.gcd a (12 ^ m))) T X Y σ' := by
  obtain ⟨e1, e2⟩ := low12 m hm
  have hp : 0 < 12 ^ m := Nat.pow_pos (by decide)
  have hg := gcd_pos2 (a := a) hp
  rw [X5_power_v _ (by omega), bndS, e1, tellRatio_v ha hp e2, bndS, lNdiv (by omega) (by omega), lNdiv (by omega) (by omega)]
  exact ⟨_, rfl, h.ratio _ _⟩
def oddN (m p x : Nat) : Nat := fo (fun k z => z + (if k < x then 0 else wN m k p)) 0 (m + 1) 0
def midN (m p x : Nat) : Nat := fo (fun k z => z + wN m k p * (x - k)) 0 (m + 1) 0
theorem try_v (h : IW n w cs kc RS RA A U V T X Y σ) {i m p : Nat} (hi : i < n) (hm : m < 9) (hp : p < 13) : f_X5_isTry (nI i) (nI m) (nI p) σ = some true := by
  rw [X5_isTry_v (s := gR σ 0) h.hc hi, show inV (nI m) 0 8 = true from inV_t (b := 8) (by omega) (by decide), show inV (nI p) 0 12 = true from inV_t (b := 12) (by omega) (by decide)]
  rfl
theorem k_odds (h : IW n w cs kc RS RA A U V T X Y σ) {i m p x : Nat} (hi : i < n) (hm : m < 9) (hp : p < 13) (hx : x < 6) (e : moreV (run n (iniV w) cs) i = nI x) : ∃ σ', f_X5_odds (nI i) (nI m) (nI p) σ = some (1, σ') ∧ IW n w cs kc RS RA A (lN (oddN m p x / Nat.gcd (oddN m p x) (12 ^ m))) (lN (12 ^ m / Nat.gcd (oddN m p x) (12 ^ m))) T X Y σ' := by
  unfold f_X5_odds
  rw [try_v h hi hm hp, bndS, bfT, X4_more_v h.hc hi, bndS, e, (oddsC (by omega) (by omega)).resolve_right (by omega)]
  have hb := fo_bd (fun k => if k < x then 0 else wN m k p) (2 ^ 30) (m + 1) 0 0 (fun k _ h2 => by
    split
    · omega
    · have := (wCh m (by omega) k (by omega) (by omega) p (by omega)).2.2
      omega)
  have hb2 : (m + 1) * 2 ^ 30 ≤ 9 * 2 ^ 30 := Nat.mul_le_mul_right _ (by omega)
  exact tellI h (a := oddN m p x) (by unfold oddN; omega) hm
theorem k_odds9 (h : IW n w cs kc RS RA A U V T X Y σ) {i m p : Nat} (hi : i < n) (hm : m < 9) (hp : p < 13) (e : moreV (run n (iniV w) cs) i = -9) : ∃ σ', f_X5_odds (nI i) (nI m) (nI p) σ = some (1, σ') ∧ IW n w cs kc RS RA A (lN 0) (lN 1) T X Y σ' := by
  unfold f_X5_odds
  rw [try_v h hi hm hp, bndS, bfT, X4_more_v h.hc hi, bndS, e, oddsC9]
  have hq := tellI h (a := 0) (m := m) (by decide) hm
  have hpos : 0 < 12 ^ m := Nat.pow_pos (by decide)
  rw [Nat.gcd_zero_left, Nat.zero_div, Nat.div_self hpos] at hq
  exact hq
theorem k_mid (h : IW n w cs kc RS RA A U V T X Y σ) {i m p x : Nat} (hi : i < n) (hm : m < 9) (hp : p < 13) (hx : x < 6) (e : moreV (run n (iniV w) cs) i = nI x) : ∃ σ', f_X5_mid (nI i) (nI m) (nI p) σ = some (1, σ') ∧ IW n w cs kc RS RA A (lN (midN m p x / Nat.gcd (midN m p x) (12 ^ m))) (lN (12 ^ m / Nat.gcd (midN m p x) (12 ^ m))) T X Y σ' := by
  unfold f_X5_mid
  rw [try_v h hi hm hp, bndS, bfT, X4_more_v h.hc hi, bndS, e, if_neg (nI9 (by omega)), midC (by omega) (by omega) (by omega)]
  have hb := fo_bd (fun k => wN m k p * (x - k)) (2 ^ 30 * 6) (m + 1) 0 0 (fun k _ h2 => by
    have := (wCh m (by omega) k (by omega) (by omega) p (by omega)).2.2
    exact Nat.mul_le_mul (by omega) (by omega))
  have hb2 : (m + 1) * (2 ^ 30 * 6) ≤ 9 * (2 ^ 30 * 6) := Nat.mul_le_mul_right _ (by omega)
  exact tellI h (a := midN m p x) (by unfold midN; omega) hm
theorem k_mid9 (h : IW n w cs kc RS RA A U V T X Y σ) {i m p : Nat} (hi : i < n) (hm : m < 9) (hp : p < 13) (e : moreV (run n (iniV w) cs) i = -9) : ∃ σ', f_X5_mid (nI i) (nI m) (nI p) σ = some (-3, σ') ∧ IW n w cs kc RS RA A U V T X Y σ' := by
  obtain ⟨σ', g1, g2⟩ := found_I h (f := 4) (by decide)
  unfold f_X5_mid
  rw [try_v h hi hm hp, bndS, bfT, X4_more_v h.hc hi, bndS, e, if_pos rfl, show (4 : Int32) = nI 4 from rfl, g1, bnd2S]
  exact ⟨_, rfl, g2⟩
end CALLB
