theorem HC.row {n s : Nat} {v : Nat → Int32} {σ : Sg} {r : Nat} {x : Int32} {f : Nat → Int32} (h : HC n v s σ) (hr : r < 6) : HC n v s (pA (pS σ (16 * (5 + r) + 1) x) (5 + r) f) := by
  obtain ⟨a, b, c, ⟨d1, d2, d3, d4, d5, d6, d7⟩, e, i⟩ := h
  have hs := b
  unfold isS at hs
  have ej : ∀ j, stI s j = 7 * s - 2 + j := fun _ => rfl
  have kS : ∀ j, 7 ≤ j → j < 15 → gS (pA (pS σ (16 * (5 + r) + 1) x) (5 + r) f) (16 * s + j) = gS σ (16 * s + j) := fun j h1 h2 => by rw [gS_pA, gS_ne _ _ (by omega)]
  have kI : ∀ j, j < 7 → gS (pA (pS σ (16 * (5 + r) + 1) x) (5 + r) f) (16 * stI s j + 1) = gS σ (16 * stI s j + 1) := fun j h1 => by have := ej j; rw [gS_pA, gS_ne _ _ (by omega)]
  have kA : ∀ j, j < 7 → gA (pA (pS σ (16 * (5 + r) + 1) x) (5 + r) f) (stI s j) = gA σ (stI s j) := fun j h1 => by have := ej j; rw [gA_ne _ _ (by omega)]; rfl
  refine ⟨a, b, (kS 7 (by omega) (by omega)).trans c, ⟨(kS 8 (by omega) (by omega)).trans d1, (kS 9 (by omega) (by omega)).trans d2, (kS 10 (by omega) (by omega)).trans d3, (kS 11 (by omega) (by omega)).trans d4, (kS 12 (by omega) (by omega)).trans d5, (kS 13 (by omega) (by omega)).trans d6, (kS 14 (by omega) (by omega)).trans d7⟩, fun j hj h0 => (kI j (by omega)).trans (e j hj h0), fun q hq => ?_⟩
  rw [kA 0 (by omega), kA 1 (by omega), kA 2 (by omega), kA 3 (by omega), kA 4 (by omega), kA 5 (by omega)]
  exact i q hq
def daN (v : Nat → Int32) (i : Nat) : Nat := (v (5 + i)).toNatClampNeg
theorem daN_v {n : Nat} {v : Nat → Int32} (hv : VW n v) {i : Nat} (hi : i < n) : v (5 + i) = nI (daN v i) ∧ daN v i < 100 := by
  obtain ⟨-, -, -, -, -, -, h⟩ := hv
  obtain ⟨-, -, ⟨d, hd, e⟩, -⟩ := h i hi
  unfold daN
  rw [e, nI_clamp (by omega)]
  exact ⟨rfl, hd⟩
/-- the way that the dates go: a number's place in it -/
def WayOK (W : Int32) (ky : Nat → Nat) : Prop := ∀ a, a < 100 → ∀ b, b < 100 → ((W * nI a ≤ W * nI b) ↔ (ky a ≤ ky b))
theorem way_u : WayOK 1 (fun a => a) := by
  have : ∀ a, a < 100 → ∀ b, b < 100 → (((1 : Int32) * nI a ≤ (1 : Int32) * nI b) ↔ (a ≤ b)) := by decide +kernel
  exact this
theorem way_d : WayOK (-1) (fun a => 100 - a) := by
  have : ∀ a, a < 100 → ∀ b, b < 100 → (((-1 : Int32) * nI a ≤ (-1 : Int32) * nI b) ↔ (100 - a ≤ 100 - b)) := by decide +kernel
  exact this
def NI (key : Nat → Nat) (g i : Nat) (x : Int32) : Prop := (x = -9 ∧ ∀ i', i' < i → g.testBit i' = true) ∨ ∃ j, j < i ∧ x = nI j ∧ g.testBit j = false ∧ ∀ i', i' < i → g.testBit i' = false → key j ≤ key i' ∧ (i' < j → key j < key i')
theorem nextL {n s : Nat} {v : Nat → Int32} {σ : Sg} (hC : HC n v s σ) (hv : VW n v) {W : Int32} {ky : Nat → Nat} (hW : WayOK W ky) {g : Nat} (hg : g < 64) {K : Int32 → Option Int32} : ∀ m i N x, i + m = n → m < N → NI (fun i => ky (daN v i)) g i x → ∃ x', l_X4_nextByDate_6 s (nI g) W σ K N x (nI i) = K x' ∧ NI (fun i => ky (daN v i)) g n x' := by
  have hn := hC.1
  intro m
  induction m with
  | zero =>
    intro i N x hi hN h
    obtain ⟨N, rfl⟩ : ∃ z, N = z + 1 := ⟨N - 1, by omega⟩
    obtain rfl : i = n := hi
    refine ⟨x, ?_, h⟩
    unfold l_X4_nextByDate_6
    rw [hC.2.2.1, if_pos (nI_le (Nat.le_refl _) (by omega))]
  | succ m ih =>
    intro i N x hi hN h
    obtain ⟨N, rfl⟩ : ∃ z, N = z + 1 := ⟨N - 1, by omega⟩
    have hin : i < n := by omega
    unfold l_X4_nextByDate_6
    rw [hC.2.2.1, if_neg (nI_ge hin (by omega)), X5_holds_v, hoB g hg i (by omega), hC.g3 hin]
    simp only [ckT, bfT, bfF, bndS, bnd2S, nmE, nI_1]
    have next := fun x' hx' => ih (i + 1) N x' (by omega) (by omega) hx'
    cases hb : g.testBit i with
    | true =>
      simp only [bfT]
      have hx : NI (fun i => ky (daN v i)) g (i + 1) x := by
        rcases h with ⟨e1, e2⟩ | ⟨j, j1, j2, j3, j4⟩
        · refine Or.inl ⟨e1, fun i' hi' => ?_⟩
          by_cases z : i' = i
          · rw [z]; exact hb
          · exact e2 i' (by omega)
        · refine Or.inr ⟨j, by omega, j2, j3, fun i' hi' hf => ?_⟩
          by_cases z : i' = i
          · rw [z, hb] at hf; cases hf
          · exact j4 i' (by omega) hf
      by_cases e : x = -9
      · rw [if_pos e]; exact next x hx
      · rw [if_neg e]
        rcases h with ⟨e1, e2⟩ | ⟨j, j1, j2, j3, j4⟩
        · exact absurd e1 e
        · rw [j2, hC.g3 (show j < n by omega), bndS]
          rw [j2] at hx
          split
          · exact next _ hx
          · exact next _ hx
    | false =>
      simp only [bfT, bfF]
      rcases h with ⟨e1, e2⟩ | ⟨j, j1, j2, j3, j4⟩
      · rw [if_pos e1]
        refine next _ (Or.inr ⟨i, by omega, rfl, hb, fun i' hi' hf => ?_⟩)
        by_cases z : i' = i
        · subst z; exact ⟨Nat.le_refl _, fun q => absurd q (by omega)⟩
        · rw [e2 i' (by omega)] at hf; cases hf
      · have hjn : j < n := by omega
        obtain ⟨p1, p2⟩ := daN_v hv hin
        obtain ⟨q1, q2⟩ := daN_v hv hjn
        rw [j2, if_neg (nI9 (by omega)), hC.g3 hjn, bndS, p1, q1]
        by_cases e : ky (daN v j) ≤ ky (daN v i)
        · rw [if_pos ((hW _ q2 _ p2).mpr e)]
          refine next _ (Or.inr ⟨j, by omega, rfl, j3, fun i' hi' hf => ?_⟩)
          by_cases z : i' = i
          · subst z; exact ⟨e, fun q => absurd q (by omega)⟩
          · exact j4 i' (by omega) hf
        · rw [if_neg (fun z => e ((hW _ q2 _ p2).mp z))]
          refine next _ (Or.inr ⟨i, by omega, rfl, hb, fun i' hi' hf => ?_⟩)
          by_cases z : i' = i
          · subst z; exact ⟨Nat.le_refl _, fun q => absurd q (by omega)⟩
          · have := (j4 i' (by omega) hf).1
            dsimp only at this ⊢
            exact ⟨by omega, fun _ => by omega⟩
theorem next_v {n s : Nat} {v : Nat → Int32} {σ : Sg} (hC : HC n v s σ) (hv : VW n v) {W : Int32} {ky : Nat → Nat} (hW : WayOK W ky) {g : Nat} (hg : g < 64) (hex : ∃ i, i < n ∧ g.testBit i = false) : ∃ j, f_X4_nextByDate s (nI g) W σ = some (nI j) ∧ NX (fun i => ky (daN v i)) n g j := by
  have hn := hC.1
  unfold f_X4_nextByDate
  obtain ⟨x, e1, e2⟩ := nextL hC hv hW hg (K := (fun (v3_79 : Int32) => (some (mmax (nI 0) v3_79)))) n 0 FU (-9) (by omega) (lt_FU (by omega)) (Or.inl ⟨rfl, fun i' hi' => absurd hi' (by omega)⟩)
  rw [show (0 : Int32) = nI 0 from rfl, e1]
  rcases e2 with ⟨-, e3⟩ | ⟨j, j1, j2, j3, j4⟩
  · obtain ⟨i, hi, hf⟩ := hex
    rw [e3 i hi] at hf
    cases hf
  · refine ⟨j, ?_, j1, j3, j4⟩
    rw [j2]
    exact congrArg some (mx0 (by omega))
theorem datesCL {n s r : Nat} {v : Nat → Int32} {σ : Sg} (hC : HC n v s σ) (hs0 : gR σ 0 = s) (hv : VW n v) (hr : r < 6) {W a3 a4 : Int32} {ky : Nat → Nat} (hW : WayOK W ky) {K : Sg → Option (Int32 × Sg)} : ∀ m i N q f, i + m = n → m < N → q < 6 ^ i → GR (fun i => ky (daN v i)) n i q → (∀ x, x < i → f x = nI (dgt i q x)) →
    ∃ q' f', l_X5_dates_80 (5 + r) a3 a4 W K N (nI (orD i q)) (nI i) (pA (pS σ (16 * (5 + r) + 1) (nI n)) (5 + r) f) = K (pA (pS σ (16 * (5 + r) + 1) (nI n)) (5 + r) f') ∧ q' < 6 ^ n ∧ GR (fun i => ky (daN v i)) n n q' ∧ ∀ x, x < n → f' x = nI (dgt n q' x) := by
  have hn := hC.1
  intro m
  induction m with
  | zero =>
    intro i N q f hi hN hq hG hf
    obtain ⟨N, rfl⟩ : ∃ z, N = z + 1 := ⟨N - 1, by omega⟩
    obtain rfl : i = n := hi
    refine ⟨q, f, ?_, hq, hG, hf⟩
    unfold l_X5_dates_80
    rw [show gR (pA (pS σ (16 * (5 + r) + 1) (nI i)) (5 + r) f) 0 = s from hs0, (hC.row hr).2.2.1, if_pos (nI_le (Nat.le_refl _) (by omega))]
  | succ m ih =>
    intro i N q f hi hN hq hG hf
    obtain ⟨N, rfl⟩ : ∃ z, N = z + 1 := ⟨N - 1, by omega⟩
    obtain ⟨g1, g2⟩ := GR_pc hn i q hG
    obtain ⟨z, z1, z2⟩ := al_ex _ _ (ex2n n (by omega) _ (orD64 i q) g2 (by omega))
    obtain ⟨j, e1, e2⟩ := next_v (hC.row hr (x := nI n) (f := f)) hv hW (orD64 i q) ⟨z, by omega, z2⟩
    have hj : j < 6 := by have := e2.1; omega
    unfold l_X5_dates_80
    rw [show gR (pA (pS σ (16 * (5 + r) + 1) (nI n)) (5 + r) f) 0 = s from hs0, (hC.row hr).2.2.1, if_neg (nI_ge (show i < n by omega) (by omega)), e1, bndS, X0_set_i (m := n) (by rw [gS_pA, gS_same]) (by rw [cLen_row hr]; omega) (show i < n by omega), bndS, nmE, nmE, orP _ (orD64 i q) _ hj, nI_1, pA_pA, gA_same]
    have ho : orD i q ||| 2 ^ j = orD (i + 1) (6 * q + j) := by
      show _ = orD i ((6 * q + j) / 6) ||| 2 ^ ((6 * q + j) % 6)
      rw [(q6 q hj).1, (q6 q hj).2]
    rw [ho]
    refine ih (i + 1) N (6 * q + j) _ (by omega) (by omega) (by rw [Nat.pow_succ]; omega) ⟨by rw [(q6 q hj).1]; exact hG, by rw [(q6 q hj).1, (q6 q hj).2]; exact e2⟩ (fun x hx => ?_)
    unfold upd
    by_cases ex : x = i
    · subst ex
      rw [if_pos rfl, dgt_l, (q6 q hj).2]
    · rw [if_neg ex, dgt_s (by omega), (q6 q hj).1]
      exact hf x (by omega)
theorem tv_fo {a : Nat → Nat} : ∀ m j, fo (fun x acc => acc + dif (a x) (a (x - 1))) (j + 1) m (tv a j) = tv a (j + m) := by
  intro m
  induction m with
  | zero => intro j; rfl
  | succ m ih =>
    intro j
    rw [fo_succ, show j + 1 - 1 = j by omega]
    show fo _ (j + 1 + 1) m (tv a (j + 1)) = _
    rw [ih, show j + 1 + m = j + (m + 1) by omega]
theorem tv_bd {a : Nat → Nat} : ∀ j, (∀ x, x ≤ j → a x ≤ 100) → tv a j ≤ 100 * j := by
  intro j
  induction j with
  | zero => intro _; exact Nat.zero_le _
  | succ j ih =>
    intro h
    have h0 := ih (fun x hx => h x (by omega))
    have h1 := h (j + 1) (by omega)
    have h2 := h j (by omega)
    show tv a j + dif (a (j + 1)) (a j) ≤ _
    unfold dif
    omega
/-- the reference's state among the rows of dates -/
def DMI (n : Nat) (τ0 : Sg) (q D c : Nat) (x : Int32) (τ : Sg) : Prop := (∀ k, gS τ k = gS τ0 k) ∧ (∀ a, a ≠ 14 → a ≠ 15 → gA τ a = gA τ0 a) ∧ (∀ k, gL τ k = gL τ0 k) ∧ ∃ y, x = nI y ∧ y ≤ 99999 ∧ (c ≤ q → D < y) ∧ (q < c → y = D ∧ ∀ z, z < n → gA τ 15 z = nI (dgt n q z))
theorem NX_u {key : Nat → Nat} {n g i j : Nat} (h1 : NX key n g i) (h2 : NX key n g j) : i = j := by
  obtain ⟨a1, a2, a3⟩ := h1
  obtain ⟨b1, b2, b3⟩ := h2
  have c1 := a3 j b1 b2
  have c2 := b3 i a1 a2
  rcases Nat.lt_trichotomy i j with e | e | e
  · have := c2.2 e; omega
  · exact e
  · have := c1.2 e; omega
