theorem HC.row {n s : Nat} {v : Nat → Int32} {σ : Sg} {r : Nat} {x : Int32} {f : Nat → Int32} (h : HC n v s σ) (hr : r < 6) : HC n v s (pA (pS σ (16 * (5 + r) + 1) x) (5 + r) f) := by
  obtain ⟨a, b, c, ⟨d1, d2, d3, d4, d5, d6, d7⟩, e, i⟩ := h
  have hs := b
  unfold isS at hs
  have ej : ∀ j, stI s j = 7 * s - 2 + j := fun _ => rfl
  have kS : ∀ j, 7 ≤ j → j < 15 → gS (pA (pS σ (16 * (5 + r) + 1) x) (5 + r) f) (16 * s + j) = gS σ (16 * s + j) := fun j h1 h2 => by rw [gS_pA, gS_ne _ _ (by omega)]
  have kI : ∀ j, j < 7 → gS (pA (pS σ (16 * (5 + r) + 1) x) (5 + r) f) (16 * stI s j + 1) = gS σ (16 * stI s j + 1) := fun j h1 => by have := ej j; rw [gS_pA, gS_ne _ _ (by omega)]
  have kA : ∀ j, j < 7 → gA (pA (pS σ (16 * (5 + r) + 1) x) (5 + r) f) (stI s j) = gA σ (stI s j) := fun j h1 => by have := ej j; rw [gA_ne _ _ (by omega)]; rfl
  refine ⟨a, b, (kS 7 (by omega) (by omega)).trans c, ⟨(kS 8 (by omega) (by omega)).trans d1, (kS 9 (by omega) (by omega)).trans d2, (kS 10 (by omega) (by omega)).trans d3, (kS 11 (by omega) (by omega)).trans d4, (kS 12 (by omega) (by omega)).trans d5, (kS 13 (by omega) (by omega)).trans d6, (kS 14 (by omega) (by omega)).trans d7⟩, fun j hj h0 => (kI j (by omega)).trans (e j hj h0), fun q hq => ?_⟩
  rw [kA 0 (by omega), kA 1 (by omega), kA 2 (by omega), kA 3 (by omega), kA 4 (by omega), kA 5 (by omega)]
  exact i q hq
def daN (v : Nat → Int32) (i : Nat) : Nat := (v (5 + i)).toNatClampNeg
theorem daN_v {n : Nat} {v : Nat → Int32} (hv : VW n v) {i : Nat} (hi : i < n) : v (5 + i) = nI (daN v i) ∧ daN v i < 100 := by
  obtain ⟨-, -, -, -, -, -, h⟩ := hv
  obtain ⟨-, -, ⟨d, hd, e⟩, -⟩ := h i hi
  unfold daN
  rw [e, nI_clamp (by omega)]
  exact ⟨rfl, hd⟩
theorem farV {a b : Nat} (ha : a < 2 ^ 31) (hb : b < 2 ^ 31) : f_X6_far (nI a) (nI b) = some (nI (dif a b)) := by
  unfold f_X6_far
  simp only [nIle ha hb]
  by_cases e : a ≤ b
  · rw [if_pos e, nIsub e, show dif a b = b - a by unfold dif; omega]
  · rw [if_neg e, nIsub (by omega), show dif a b = a - b by unfold dif; omega]
/-- the way that the dates go: a number's place in it -/
def WayOK (W : Int32) (ky : Nat → Nat) : Prop := ∀ a, a < 100 → ∀ b, b < 100 → ((W * nI a ≤ W * nI b) ↔ (ky a ≤ ky b))
theorem way_u : WayOK 1 (fun a => a) := by
  have : ∀ a, a < 100 → ∀ b, b < 100 → (((1 : Int32) * nI a ≤ (1 : Int32) * nI b) ↔ (a ≤ b)) := by decide +kernel
  exact this
theorem way_d : WayOK (-1) (fun a => 100 - a) := by
  have : ∀ a, a < 100 → ∀ b, b < 100 → (((-1 : Int32) * nI a ≤ (-1 : Int32) * nI b) ↔ (100 - a ≤ 100 - b)) := by decide +kernel
  exact this
def NI (key : Nat → Nat) (g i : Nat) (x : Int32) : Prop := (x = -9 ∧ ∀ i', i' < i → g.testBit i' = true) ∨ ∃ j, j < i ∧ x = nI j ∧ g.testBit j = false ∧ ∀ i', i' < i → g.testBit i' = false → key j ≤ key i' ∧ (i' < j → key j < key i')
theorem nextL {n s : Nat} {v : Nat → Int32} {σ : Sg} (hC : HC n v s σ) (hv : VW n v) {W : Int32} {ky : Nat → Nat} (hW : WayOK W ky) {g : Nat} (hg : g < 64) {K : Int32 → Option Int32} : ∀ m i N x, i + m = n → m < N → NI (fun i => ky (daN v i)) g i x → ∃ x', l_X4_nextByDate_6 s (nI g) W σ K N x (nI i) = K x' ∧ NI (fun i => ky (daN v i)) g n x' := by
  have hn := hC.1
  intro m
  induction m with
  | zero =>
    intro i N x hi hN h
    obtain ⟨N, rfl⟩ : ∃ z, N = z + 1 := ⟨N - 1, by omega⟩
    obtain rfl : i = n := hi
    refine ⟨x, ?_, h⟩
    unfold l_X4_nextByDate_6
    rw [hC.2.2.1, if_pos (nI_le (Nat.le_refl _) (by omega))]
  | succ m ih =>
    intro i N x hi hN h
    obtain ⟨N, rfl⟩ : ∃ z, N = z + 1 := ⟨N - 1, by omega⟩
    have hin : i < n := by omega
    unfold l_X4_nextByDate_6
    rw [hC.2.2.1, if_neg (nI_ge hin (by omega)), X5_holds_v, hoB g hg i (by omega), hC.g3 hin]
    simp only [ckT, bfT, bfF, bndS, bnd2S, nmE, nI_1]
    have next := fun x' hx' => ih (i + 1) N x' (by omega) (by omega) hx'
    cases hb : g.testBit i with
    | true =>
      simp only [bfT]
      have hx : NI (fun i => ky (daN v i)) g (i + 1) x := by
        rcases h with ⟨e1, e2⟩ | ⟨j, j1, j2, j3, j4⟩
        · refine Or.inl ⟨e1, fun i' hi' => ?_⟩
          by_cases z : i' = i
          · rw [z]; exact hb
          · exact e2 i' (by omega)
        · refine Or.inr ⟨j, by omega, j2, j3, fun i' hi' hf => ?_⟩
          by_cases z : i' = i
          · rw [z, hb] at hf; cases hf
          · exact j4 i' (by omega) hf
      by_cases e : x = -9
      · rw [if_pos e]; exact next x hx
      · rw [if_neg e]
        rcases h with ⟨e1, e2⟩ | ⟨j, j1, j2, j3, j4⟩
        · exact absurd e1 e
        · rw [j2, hC.g3 (show j < n by omega), bndS]
          rw [j2] at hx
          split
          · exact next _ hx
          · exact next _ hx
    | false =>
      simp only [bfT, bfF]
      rcases h with ⟨e1, e2⟩ | ⟨j, j1, j2, j3, j4⟩
      · rw [if_pos e1]
        refine next _ (Or.inr ⟨i, by omega, rfl, hb, fun i' hi' hf => ?_⟩)
        by_cases z : i' = i
        · subst z; exact ⟨Nat.le_refl _, fun q => absurd q (by omega)⟩
        · rw [e2 i' (by omega)] at hf; cases hf
      · have hjn : j < n := by omega
        obtain ⟨p1, p2⟩ := daN_v hv hin
        obtain ⟨q1, q2⟩ := daN_v hv hjn
        rw [j2, if_neg (nI9 (by omega)), hC.g3 hjn, bndS, p1, q1]
        by_cases e : ky (daN v j) ≤ ky (daN v i)
        · rw [if_pos ((hW _ q2 _ p2).mpr e)]
          refine next _ (Or.inr ⟨j, by omega, rfl, j3, fun i' hi' hf => ?_⟩)
          by_cases z : i' = i
          · subst z; exact ⟨e, fun q => absurd q (by omega)⟩
          · exact j4 i' (by omega) hf
        · rw [if_neg (fun z => e ((hW _ q2 _ p2).mp z))]
          refine next _ (Or.inr ⟨i, by omega, rfl, hb, fun i' hi' hf => ?_⟩)
          by_cases z : i' = i
          · subst z; exact ⟨Nat.le_refl _, fun q => absurd q (by omega)⟩
          · have := (j4 i' (by omega) hf).1
            dsimp only at this ⊢
            exact ⟨by omega, fun _ => by omega⟩
theorem next_v {n s : Nat} {v : Nat → Int32} {σ : Sg} (hC : HC n v s σ) (hv : VW n v) {W : Int32} {ky : Nat → Nat} (hW : WayOK W ky) {g : Nat} (hg : g < 64) (hex : ∃ i, i < n ∧ g.testBit i = false) : ∃ j, f_X4_nextByDate s (nI g) W σ = some (nI j) ∧ NX (fun i => ky (daN v i)) n g j := by
  have hn := hC.1
  unfold f_X4_nextByDate
  obtain ⟨x, e1, e2⟩ := nextL hC hv hW hg (K := (fun (v3_79 : Int32) => (some (mmax (nI 0) v3_79)))) n 0 FU (-9) (by omega) (lt_FU (by omega)) (Or.inl ⟨rfl, fun i' hi' => absurd hi' (by omega)⟩)
  rw [show (0 : Int32) = nI 0 from rfl, e1]
  rcases e2 with ⟨-, e3⟩ | ⟨j, j1, j2, j3, j4⟩
  · obtain ⟨i, hi, hf⟩ := hex
    rw [e3 i hi] at hf
    cases hf
  · refine ⟨j, ?_, j1, j3, j4⟩
    rw [j2]
    exact congrArg some (mx0 (by omega))
theorem datesCL {n s r : Nat} {v : Nat → Int32} {σ : Sg} (hC : HC n v s σ) (hs0 : gR σ 0 = s) (hv : VW n v) (hr : r < 6) {W a3 a4 : Int32} {ky : Nat → Nat} (hW : WayOK W ky) {K : Sg → Option (Int32 × Sg)} : ∀ m i N q f, i + m = n → m < N → q < 6 ^ i → GR (fun i => ky (daN v i)) n i q → (∀ x, x < i → f x = nI (dgt i q x)) →
    ∃ q' f', l_X5_dates_80 (5 + r) a3 a4 W K N (nI (orD i q)) (nI i) (pA (pS σ (16 * (5 + r) + 1) (nI n)) (5 + r) f) = K (pA (pS σ (16 * (5 + r) + 1) (nI n)) (5 + r) f') ∧ q' < 6 ^ n ∧ GR (fun i => ky (daN v i)) n n q' ∧ ∀ x, x < n → f' x = nI (dgt n q' x) := by
  have hn := hC.1
  intro m
  induction m with
  | zero =>
    intro i N q f hi hN hq hG hf
    obtain ⟨N, rfl⟩ : ∃ z, N = z + 1 := ⟨N - 1, by omega⟩
    obtain rfl : i = n := hi
    refine ⟨q, f, ?_, hq, hG, hf⟩
    unfold l_X5_dates_80
    rw [show gR (pA (pS σ (16 * (5 + r) + 1) (nI i)) (5 + r) f) 0 = s from hs0, (hC.row hr).2.2.1, if_pos (nI_le (Nat.le_refl _) (by omega))]
  | succ m ih =>
    intro i N q f hi hN hq hG hf
    obtain ⟨N, rfl⟩ : ∃ z, N = z + 1 := ⟨N - 1, by omega⟩
    obtain ⟨g1, g2⟩ := GR_pc hn i q hG
    obtain ⟨z, z1, z2⟩ := al_ex _ _ (ex2n n (by omega) _ (orD64 i q) g2 (by omega))
    obtain ⟨j, e1, e2⟩ := next_v (hC.row hr (x := nI n) (f := f)) hv hW (orD64 i q) ⟨z, by omega, z2⟩
    have hj : j < 6 := by have := e2.1; omega
    unfold l_X5_dates_80
    rw [show gR (pA (pS σ (16 * (5 + r) + 1) (nI n)) (5 + r) f) 0 = s from hs0, (hC.row hr).2.2.1, if_neg (nI_ge (show i < n by omega) (by omega)), e1, bndS, X0_set_i (m := n) (by rw [gS_pA, gS_same]) (by rw [cLen_row hr]; omega) (show i < n by omega), bndS, nmE, nmE, orP _ (orD64 i q) _ hj, nI_1, pA_pA, gA_same]
    have ho : orD i q ||| 2 ^ j = orD (i + 1) (6 * q + j) := by
      show _ = orD i ((6 * q + j) / 6) ||| 2 ^ ((6 * q + j) % 6)
      rw [(q6 q hj).1, (q6 q hj).2]
    rw [ho]
    refine ih (i + 1) N (6 * q + j) _ (by omega) (by omega) (by rw [Nat.pow_succ]; omega) ⟨by rw [(q6 q hj).1]; exact hG, by rw [(q6 q hj).1, (q6 q hj).2]; exact e2⟩ (fun x hx => ?_)
    unfold upd
    by_cases ex : x = i
    · subst ex
      rw [if_pos rfl, dgt_l, (q6 q hj).2]
    · rw [if_neg ex, dgt_s (by omega), (q6 q hj).1]
      exact hf x (by omega)
theorem tv_fo {a : Nat → Nat} : ∀ m j, fo (fun x acc => acc + dif (a x) (a (x - 1))) (j + 1) m (tv a j) = tv a (j + m) := by
  intro m
  induction m with
  | zero => intro j; rfl
  | succ m ih =>
    intro j
    rw [fo_succ, show j + 1 - 1 = j by omega]
    show fo _ (j + 1 + 1) m (tv a (j + 1)) = _
    rw [ih, show j + 1 + m = j + (m + 1) by omega]
theorem tv_bd {a : Nat → Nat} : ∀ j, (∀ x, x ≤ j → a x ≤ 100) → tv a j ≤ 100 * j := by
  intro j
  induction j with
  | zero => intro _; exact Nat.zero_le _
  | succ j ih =>
    intro h
    have h0 := ih (fun x hx => h x (by omega))
    have h1 := h (j + 1) (by omega)
    have h2 := h j (by omega)
    show tv a j + dif (a (j + 1)) (a j) ≤ _
    unfold dif
    omega
theorem datesM1 {n c : Nat} {v : Nat → Int32} {τ : Sg} {a1 a2 a3 : Int32} (hM : HM n v τ) (hv : VW n v) (h0 : 0 < n) (hc : orD n c = 2 ^ n - 1) (h14 : ∀ x, x < n → gA τ 14 x = nI (dgt n c x)) {K : Int32 → Option (Int32 × Sg)} : l_X6_dates_63 a1 a2 a3 τ K FU (0 : Int32) (1 : Int32) = K (nI (tv (fun x => daN v (dgt n c x)) (n - 1))) := by
  have hn := hM.1
  have := loopL (fun N j (acc : Nat) => l_X6_dates_63 a1 a2 a3 τ K N (nI acc) (nI j)) (fun acc => K (nI acc)) (fun x acc => acc + dif (daN v (dgt n c x)) (daN v (dgt n c (x - 1)))) n (fun j _ => 0 < j)
    (fun N acc _ => by
      show l_X6_dates_63 a1 a2 a3 τ K (N + 1) (nI acc) (nI n) = _
      unfold l_X6_dates_63
      rw [hM.2.1, if_pos (nI_le (Nat.le_refl _) (by omega))])
    (fun N j acc hj j0 => by
      refine ⟨?_, Nat.succ_pos j⟩
      show l_X6_dates_63 a1 a2 a3 τ K (N + 1) (nI acc) (nI j) = _
      conv => lhs; unfold l_X6_dates_63
      have hd := ok_lt hn hc hj
      have hd1 := ok_lt hn hc (show j - 1 < n by omega)
      obtain ⟨p1, p2⟩ := daN_v hv hd
      obtain ⟨q1, q2⟩ := daN_v hv hd1
      rw [hM.2.1, if_neg (nI_ge hj (by omega)), show nI j - (1 : Int32) = nI (j - 1) from by rw [show (1 : Int32) = nI 1 from rfl, nIsub (by omega)], nI_clamp (show j < 2 ^ 31 by omega), nI_clamp (show j - 1 < 2 ^ 31 by omega), h14 j hj, h14 (j - 1) (by omega), ad5, ad5, inB_nI (k := j) (by rw [mL14]; omega) (by rw [mL14]; decide), inB_nI (k := j - 1) (by rw [mL14]; omega) (by rw [mL14]; decide), inB_nI (k := 5 + dgt n c j) (by rw [mL9]; omega) (by rw [mL9]; decide), inB_nI (k := 5 + dgt n c (j - 1)) (by rw [mL9]; omega) (by rw [mL9]; decide), nI_clamp (show 5 + dgt n c j < 2 ^ 31 by omega), nI_clamp (show 5 + dgt n c (j - 1) < 2 ^ 31 by omega), hM.d hd, hM.d hd1, p1, q1, farV (by omega) (by omega)]
      simp only [ckT, bfT, bfF, bndS, bnd2S, nmE, nI_1, nI_add]) (n - 1) 1 FU 0 (by omega) (lt_FU (by omega)) (by decide)
  refine this.1.trans ?_
  have e := tv_fo (a := fun x => daN v (dgt n c x)) (n - 1) 0
  simp only [Nat.zero_add] at e
  exact congrArg (fun z => K (nI z)) e
/-- the reference's state among the rows of dates -/
def DMI (n : Nat) (τ0 : Sg) (q D c : Nat) (x : Int32) (τ : Sg) : Prop := (∀ k, gS τ k = gS τ0 k) ∧ (∀ a, a ≠ 14 → a ≠ 15 → gA τ a = gA τ0 a) ∧ (∀ k, gL τ k = gL τ0 k) ∧ ∃ y, x = nI y ∧ y ≤ 99999 ∧ (c ≤ q → D < y) ∧ (q < c → y = D ∧ ∀ z, z < n → gA τ 15 z = nI (dgt n q z))
theorem datesML {n q D : Nat} {v : Nat → Int32} {τ0 : Sg} {a1 : Int32} (hM : HM n v τ0) (hv : VW n v) (h0 : 0 < n) (hq : orD n q = 2 ^ n - 1) (hD : tv (fun x => daN v (dgt n q x)) (n - 1) = D) (hle : ∀ c, orD n c = 2 ^ n - 1 → D ≤ tv (fun x => daN v (dgt n c x)) (n - 1)) (hlt : ∀ c, orD n c = 2 ^ n - 1 → c < q → D < tv (fun x => daN v (dgt n c x)) (n - 1)) {K : Int32 → Sg → Option (Int32 × Sg)} : ∀ m c N x τ, c + m = 6 ^ n → m < N → DMI n τ0 q D c x τ → ∃ x' τ', l_X6_dates_26 a1 K N x (nI c) τ = K x' τ' ∧ DMI n τ0 q D (6 ^ n) x' τ' := by
  have hn := hM.1
  have h6 := p6 hn
  have h64 := p64 hn
  intro m
  induction m with
  | zero =>
    intro c N x τ hc hN h
    obtain ⟨N, rfl⟩ : ∃ z, N = z + 1 := ⟨N - 1, by omega⟩
    obtain rfl : c = 6 ^ n := hc
    refine ⟨x, τ, ?_, h⟩
    unfold l_X6_dates_26
    rw [h.1 17, hM.2.1, rowsOf_v hn, bndS, if_pos (nI_le (Nat.le_refl _) (by omega))]
  | succ m ih =>
    intro c N x τ hc hN h
    obtain ⟨N, rfl⟩ : ∃ z, N = z + 1 := ⟨N - 1, by omega⟩
    obtain ⟨h1, h2, h3, y, hy, h4, h5, h6'⟩ := h
    unfold l_X6_dates_26
    rw [h1 17, hM.2.1, rowsOf_v hn, bndS, if_neg (nI_ge (show c < 6 ^ n by omega) (by omega)), sub1 n (by omega), layRow_v hn (by omega) (by omega), bnd2S]
    obtain ⟨τ3, e3⟩ : ∃ y, y = pA τ 14 (fun x => if x < n then nI (dgt n c x) else gA τ 14 x) := ⟨_, rfl⟩
    rw [← e3]
    have k14 : ∀ x, x < n → gA τ3 14 x = nI (dgt n c x) := fun x hx => by rw [e3, gA_same]; exact if_pos hx
    have kA : ∀ a, a ≠ 14 → gA τ3 a = gA τ a := fun a ha => by rw [e3, gA_ne _ _ ha]
    have kS : ∀ k, gS τ3 k = gS τ0 k := fun k => by rw [e3]; exact h1 k
    have kL : ∀ k, gL τ3 k = gL τ0 k := fun k => by rw [e3]; exact h3 k
    clear e3
    have kA0 : ∀ a, a ≠ 14 → a ≠ 15 → gA τ3 a = gA τ0 a := fun a b1 b2 => (kA a b1).trans (h2 a b1 b2)
    have hM3 : HM n v τ3 := hM.out (kS 17) (kS 16) (kA0 7 (by decide) (by decide)) (kA0 8 (by decide) (by decide)) (kA0 9 (by decide) (by decide))
    have next : ∀ x' τ', DMI n τ0 q D (c + 1) x' τ' → ∃ x'' τ'', (nm (nI c + (1 : Int32)) (fun y4 => (l_X6_dates_26 a1 K N x' y4 τ'))) = K x'' τ'' ∧ DMI n τ0 q D (6 ^ n) x'' τ'' := fun x' τ' hh => by
      rw [nmE, nI_1]
      exact ih (c + 1) N x' τ' (by omega) (by omega) hh
    have same : ¬ c = q → DMI n τ0 q D (c + 1) x τ3 := fun hne => ⟨kS, kA0, kL, y, hy, h4, fun z => h5 (by omega), fun z => ⟨(h6' (by omega)).1, fun u hu => by rw [kA 15 (by decide)]; exact (h6' (by omega)).2 u hu⟩⟩
    rw [nmE]
    by_cases hor : orD n c = 2 ^ n - 1
    · rw [decide_eq_true hor, bfT, datesM1 hM3 hv h0 hor k14]
      have hk := tv_bd (a := fun x => daN v (dgt n c x)) (n - 1) (fun x hx => by
        have := (daN_v hv (ok_lt hn hor (show x < n by omega))).2
        omega)
      obtain ⟨k, ek⟩ : ∃ k, k = tv (fun x => daN v (dgt n c x)) (n - 1) := ⟨_, rfl⟩
      have l1 := hle c hor
      have l2 := hlt c hor
      rw [← ek] at hk l1 l2 ⊢
      rw [hy]
      simp only [nIle (show y < 2 ^ 31 by omega) (show k < 2 ^ 31 by omega)]
      by_cases e : y ≤ k
      · rw [if_pos e, ← hy]
        refine next x τ3 (same (fun z => ?_))
        have := h5 (by omega)
        rw [z, hD] at ek
        omega
      · rw [if_neg e, keep6, bndS]
        refine next _ _ ⟨fun k => kS k, fun a b1 b2 => (gA_ne _ _ b2).trans (kA0 a b1 b2), fun k => kL k, k, rfl, by omega, fun z => l2 (by omega), fun z => ?_⟩
        by_cases hcq : c = q
        · subst hcq
          refine ⟨ek.trans hD, fun u hu => ?_⟩
          rw [gA_same, if_pos (by omega)]
          exact k14 u hu
        · have := (h6' (by omega)).1
          omega
    · rw [decide_eq_false hor, bfF]
      exact next x τ3 (same (fun z => hor (by rw [z]; exact hq)))
theorem NX_u {key : Nat → Nat} {n g i j : Nat} (h1 : NX key n g i) (h2 : NX key n g j) : i = j := by
  obtain ⟨a1, a2, a3⟩ := h1
  obtain ⟨b1, b2, b3⟩ := h2
  have c1 := a3 j b1 b2
  have c2 := b3 i a1 a2
  rcases Nat.lt_trichotomy i j with e | e | e
  · have := c2.2 e; omega
  · exact e
  · have := c1.2 e; omega
/-- both rows, and what they walk -/
theorem dates_R {n s r b0 L : Nat} {v : Nat → Int32} {σ τ : Sg} {a1 a3 a4 W : Int32} {f0 : Nat → Int32} {ky : Nat → Nat} (hC : HC n v s σ) (hs0 : gR σ 0 = s) (hM : HM n v τ) (hv : VW n v) (hr : r < 6) (h0 : 0 < n) (hW : WayOK W ky) (hk : ∀ a, a < 100 → ky a ≤ 100) (htv : ∀ a : Nat → Nat, (∀ x, x ≤ n - 1 → a x ≤ 100) → tv (fun x => ky (a x)) (n - 1) = tv a (n - 1))
    (hb0 : NX (fun i => ky (daN v i)) n 0 b0) (hL : L < n) (hmax : ∀ i, i < n → ky (daN v i) ≤ ky (daN v L)) (hfst : ∀ i, i < n → i < b0 → ky (daN v i) < ky (daN v L)) {KC : Sg → Option (Int32 × Sg)} {KM : Int32 → Sg → Option (Int32 × Sg)} :
    ∃ q f τ', l_X5_dates_80 (5 + r) a3 a4 W KC FU (0 : Int32) (0 : Int32) (pA (pS σ (16 * (5 + r) + 1) (nI n)) (5 + r) f0) = KC (pA (pS σ (16 * (5 + r) + 1) (nI n)) (5 + r) f) ∧ l_X6_dates_26 a1 KM FU (99999 : Int32) (0 : Int32) τ = KM (nI (ky (daN v L) - ky (daN v b0))) τ' ∧ (∀ x, x < n → f x = nI (dgt n q x) ∧ gA τ' 15 x = nI (dgt n q x)) ∧ (∀ k, gS τ' k = gS τ k) ∧ (∀ a, a ≠ 14 → a ≠ 15 → gA τ' a = gA τ a) ∧ ∀ k, gL τ' k = gL τ k := by
  have hn := hC.1
  have h6 := p6 hn
  obtain ⟨q, f, p1, p2, p3, p4⟩ := datesCL hC hs0 hv hr hW (K := KC) (a3 := a3) (a4 := a4) n 0 FU 0 f0 (by omega) (lt_FU (by omega)) (by decide) trivial (fun x hx => absurd hx (by omega))
  have hok := GR_ok hn p3
  have hq0 : dgt n q 0 = b0 := by
    have h1 := GR_x (n - 1) 0 q (by rw [show 0 + 1 + (n - 1) = n by omega]; exact p3)
    rw [dgt_r (show 0 + 1 + (n - 1) = n by omega)]
    exact NX_u h1 hb0
  have key_eq : ∀ c, orD n c = 2 ^ n - 1 → tv (fun x => ky (daN v (dgt n c x))) (n - 1) = tv (fun x => daN v (dgt n c x)) (n - 1) := fun c hc => htv (fun x => daN v (dgt n c x)) (fun x hx => by
    have := (daN_v hv (ok_lt hn hc (show x < n by omega))).2
    omega)
  have hcost := gr_cost hn h0 p3 hL hmax
  have hall := fun c hc => all_cost hn h0 p3 hL hmax (c := c) hc
  have hlow := fun c hc hlt => low_cost hn h0 p2 p3 hL hmax (by rw [hq0]; exact hfst) (c := c) hc hlt
  rw [hq0, key_eq q hok] at hcost
  have hkL := hk _ (daN_v hv hL).2
  obtain ⟨x', τ', m1, m2, m3, m4, y, m5, m6, m7, m8⟩ := datesML (a1 := a1) (K := KM) (D := ky (daN v L) - ky (daN v b0)) hM hv h0 hok (by omega) (fun c hc => by
    have := hall c hc
    rw [hq0, key_eq c hc] at this
    omega) (fun c hc hlt => by
    have := hlow c hc hlt
    rw [hq0, key_eq c hc] at this
    omega) (6 ^ n) 0 FU (99999 : Int32) τ (by omega) (lt_FU (by omega)) ⟨fun _ => rfl, fun _ _ _ => rfl, fun _ => rfl, 99999, rfl, by decide, fun _ => by omega, fun z => absurd z (by omega)⟩
  obtain ⟨y1, y2⟩ := m8 p2
  refine ⟨q, f, τ', p1, ?_, fun x hx => ⟨p4 x hx, y2 x hx⟩, m2, m3, m4⟩
  rw [show (0 : Int32) = nI 0 from rfl, m1, m5, y1]
theorem st_dates : S_dates Rel := by
  intro σ τ a1 h
  obtain ⟨h1, h2, h3, h4, h5, n, w, cs, t1, t2, t3, t4, t5⟩ := id h
  have c1 := t3.1
  have m1 := t4.1
  have hv := run_VW t1 t2
  have hn := c1.1
  have hlen := t2.1
  generalize run n (iniV w) cs = v at c1 m1 hv
  unfold f_X5_dates f_X6_dates
  rw [X6_in_v, bndS]
  rcases inV_c a1 (b := 5) (by decide) with ⟨r, hr, rfl, ed⟩ | ⟨hr, ed⟩
  rotate_left
  · rw [show (5 : Int32) = nI 5 from rfl, ed, bfF, pick_o (q := 71) hr, bndS, ocN]
    exact ⟨_, _, _, rfl, rfl, h⟩
  rw [show (5 : Int32) = nI 5 from rfl, ed, bfT, pick_i (q := 71) (show r < 6 by omega), bndS, ocS, show rBase 71 + r = 5 + r from rfl, c1.2.2.1, m1.2.1]
  simp only [eq0 (show n < 2 ^ 31 by omega)]
  by_cases e0 : n = 0
  · rw [if_pos e0, if_pos e0]
    exact ⟨_, _, _, rfl, rfl, h⟩
  rw [if_neg e0, if_neg e0]
  have hex : ∃ i, i < n ∧ (0 : Nat).testBit i = false := ⟨0, by omega, Nat.zero_testBit 0⟩
  obtain ⟨e, x1, x2⟩ := next_v c1 hv way_u (g := 0) (by decide) hex
  obtain ⟨l, y1, y2⟩ := next_v c1 hv way_d (g := 0) (by decide) hex
  rw [show f_X4_nextByDate (gR σ 0) (0 : Int32) (1 : Int32) σ = some (nI e) from x1, bndS, show f_X4_nextByDate (gR σ 0) (0 : Int32) (-1 : Int32) σ = some (nI l) from y1, bndS, nmE]
  have hle := x2.1
  have hll := y2.1
  obtain ⟨fe1, fe2⟩ := daN_v hv hle
  obtain ⟨fl1, fl2⟩ := daN_v hv hll
  have emin : ∀ i, i < n → daN v e ≤ daN v i ∧ (i < e → daN v e < daN v i) := fun i hi => x2.2.2 i hi (Nat.zero_testBit i)
  have lmax : ∀ i, i < n → 100 - daN v l ≤ 100 - daN v i ∧ (i < l → 100 - daN v l < 100 - daN v i) := fun i hi => y2.2.2 i hi (Nat.zero_testBit i)
  have hel := (emin l hll).1
  rw [X0_fill_i (k := n) (by rw [cLen_row (by omega)]; omega)]
  simp only [nIlt (show l < 2 ^ 31 by omega) (show e < 2 ^ 31 by omega), bndS]
  -- what is left when both rows stand
  have fin : ∀ (q : Nat) (f : Nat → Int32) (τ' : Sg), (∀ x, x < n → f x = nI (dgt n q x) ∧ gA τ' 15 x = nI (dgt n q x)) → (∀ k, gS τ' k = gS τ k) → (∀ a, a ≠ 14 → a ≠ 15 → gA τ' a = gA τ a) → (∀ k, gL τ' k = gL τ k) → ∃ rr σ' τ'', (bnd (f_X0_get (stI (gR (pA (pS σ (16 * (5 + r) + 1) (nI n)) (5 + r) f) 0) 3) (nI l) (pA (pS σ (16 * (5 + r) + 1) (nI n)) (5 + r) f)) (fun r16 => (bnd (f_X0_get (stI (gR (pA (pS σ (16 * (5 + r) + 1) (nI n)) (5 + r) f) 0) 3) (nI e) (pA (pS σ (16 * (5 + r) + 1) (nI n)) (5 + r) f)) (fun r18 => (some ((r16 - r18), (pA (pS σ (16 * (5 + r) + 1) (nI n)) (5 + r) f))))))) = some (rr, σ') ∧ (bnd (f_X6_anew (nI r) (gS τ' 17) τ') (fun σ9 => (some (nI (daN v l - daN v e), σ9)))) = some (rr, τ'') ∧ Rel σ' τ'' := fun q f τ' g1 g2 g3 g4 => by
    have hCf := c1.row (r := r) (x := nI n) (f := f) (by omega)
    have hR := Rel_fe h (FE.rf σ) g2 g3 g4
    rw [show gR (pA (pS σ (16 * (5 + r) + 1) (nI n)) (5 + r) f) 0 = gR σ 0 from rfl, hCf.g3 hll, bndS, hCf.g3 hle, bndS, fe1, fl1, nIsub hel, g2 17, m1.2.1, anew_v (by omega) hn, bndS]
    refine ⟨_, _, _, rfl, rfl, Rel_row hR (by omega) (Or.inr ⟨n, by omega, rfl, fun i hi => ?_⟩) (fun y hy => ?_)⟩
    · rw [if_pos (by omega), show 40 * r + i - 40 * r = i by omega, if_pos hi, (g1 i hi).1, (g1 i hi).2]
    · rw [if_neg hy]
  by_cases ew : l < e
  · rw [if_pos ew]
    obtain ⟨q, f, τ', q1, q2, q3, q4, q5, q6⟩ := dates_R (r := r) (b0 := l) (L := e) (a1 := nI r) (a3 := nI e) (a4 := nI l) (f0 := fun i => if i < n then 0 else gA σ (5 + r) i) (KC := (fun (σv128 : Sg) => (bnd (f_X0_get (stI (gR σv128 0) 3) (nI l) σv128) (fun r16 => (bnd (f_X0_get (stI (gR σv128 0) 3) (nI e) σv128) (fun r18 => (some ((r16 - r18), σv128)))))))) (KM := (fun (v2_146 : Int32) (σv146 : Sg) => (bnd (f_X6_anew (nI r) (gS σv146 17) σv146) (fun σ9 => (some (v2_146, σ9)))))) c1 rfl m1 hv (by omega) (by omega) way_d (fun a _ => by omega) (fun a ha => tv_sub _ ha) y2 hle (fun i hi => by have := (emin i hi).1; omega) (fun i hi hil => by have := (emin i hi).2 (by omega); have := (daN_v hv hi).2; omega)
    rw [q1, q2, show (100 - daN v e) - (100 - daN v l) = daN v l - daN v e by omega]
    exact fin q f τ' q3 q4 q5 q6
  · rw [if_neg ew]
    obtain ⟨q, f, τ', q1, q2, q3, q4, q5, q6⟩ := dates_R (r := r) (b0 := e) (L := l) (a1 := nI r) (a3 := nI e) (a4 := nI l) (f0 := fun i => if i < n then 0 else gA σ (5 + r) i) (KC := (fun (σv128 : Sg) => (bnd (f_X0_get (stI (gR σv128 0) 3) (nI l) σv128) (fun r16 => (bnd (f_X0_get (stI (gR σv128 0) 3) (nI e) σv128) (fun r18 => (some ((r16 - r18), σv128)))))))) (KM := (fun (v2_146 : Int32) (σv146 : Sg) => (bnd (f_X6_anew (nI r) (gS σv146 17) σv146) (fun σ9 => (some (v2_146, σ9)))))) c1 rfl m1 hv (by omega) (by omega) way_u (fun a _ => by omega) (fun a ha => rfl) x2 hll (fun i hi => by have := (lmax i hi).1; have := (daN_v hv hi).2; omega) (fun i hi hie => by have := (lmax i hi).2 (by omega); have := (daN_v hv hi).2; omega)
    rw [q1, q2]
    exact fin q f τ' q3 q4 q5 q6
