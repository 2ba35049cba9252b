theorem al_mk {P : Nat → Bool} : ∀ m j, (∀ i, j ≤ i → i < j + m → P i = true) → al P j m = true := by
  intro m
  induction m with
  | zero => intro j _; rfl
  | succ m ih =>
    intro j h
    rw [al_succ, h j (Nat.le_refl _) (by omega), ih (j + 1) (fun i h1 h2 => h i (by omega) (by omega))]
    rfl
def gB (n : Nat) (v : Nat → Int32) (a : Nat) : Bool := decide ((nI a &&& (nI (bsN (wakB v) n) ^^^ (-1 : Int32))) = 0)
theorem gB_lt {n : Nat} {v : Nat → Int32} (hn : n ≤ 6) {a : Nat} (ha : a < 64) (h : bsN (wakB v) n < a) : gB n v a = false := by
  have : ∀ w < 64, ∀ a < 64, w < a → decide ((nI a &&& (nI w ^^^ (-1 : Int32))) = 0) = false := by decide +kernel
  exact this _ (bsN_64 _ hn) a ha h
theorem gB_G {n : Nat} {v : Nat → Int32} (hn : n ≤ 6) {a : Nat} (ha : a < 2 ^ n) : gB n v a = true ↔ GSet n v a := by
  have h64 := p64 hn
  unfold gB
  rw [← can_eq hn ha]
  refine ⟨fun h => GSet_can hn ha h, fun h => ?_⟩
  unfold canV
  refine al_mk _ _ (fun i _ hi => ?_)
  rw [hoB a (by omega) i (by omega)]
  cases e : a.testBit i with
  | false => rfl
  | true =>
    rw [decide_eq_true (h.2 i (by omega) e).2]
    rfl
/-- the best row of a set is one of it, and there is one if any row is -/
theorem bestN_I {n : Nat} {v : Nat → Int32} {S : Nat} : (bestN n v S = none → ∀ c, c < 6 ^ pcN S → ∀ s, FV n v (pcN S) c = some s → ¬ s.1 = S) ∧ ∀ b, bestN n v S = some b → b.2 < 6 ^ pcN S ∧ ∃ s, FV n v (pcN S) b.2 = some s ∧ s.1 = S := by
  have := fo_ind (g := Mst n v (pcN S) S) (fun j st => (st = none → ∀ c, c < j → ∀ s, FV n v (pcN S) c = some s → ¬ s.1 = S) ∧ ∀ b, st = some b → b.2 < j ∧ ∃ s, FV n v (pcN S) b.2 = some s ∧ s.1 = S) (6 ^ pcN S) 0 none (fun i st _ _ h => by
    obtain ⟨h1, h2⟩ := h
    cases hF : FV n v (pcN S) i with
    | none =>
      rw [Mst_n hF]
      refine ⟨fun e c hc s hs => ?_, fun b hb => ⟨by have := (h2 b hb).1; omega, (h2 b hb).2⟩⟩
      by_cases z : c = i
      · subst z; rw [hF] at hs; cases hs
      · exact h1 e c (by omega) s hs
    | some s =>
      by_cases e : s.1 = S
      · have hM : ∃ b, Mst n v (pcN S) S i st = some b ∧ (b = (s.2.2.2, i) ∨ st = some b) := by
          unfold Mst
          rw [hF]
          dsimp only
          rw [if_pos e]
          cases st with
          | none => exact ⟨_, rfl, Or.inl rfl⟩
          | some b =>
            dsimp only
            by_cases z : b.1 ≤ s.2.2.2
            · rw [if_pos z]; exact ⟨_, rfl, Or.inr rfl⟩
            · rw [if_neg z]; exact ⟨_, rfl, Or.inl rfl⟩
        obtain ⟨b, hb, hb2⟩ := hM
        rw [hb]
        refine ⟨(fun z => by cases z), fun b' hb' => ?_⟩
        obtain rfl := Option.some.inj hb'
        rcases hb2 with hb2 | hb2
        · rw [hb2]; exact ⟨Nat.lt_succ_self i, s, hF, e⟩
        · exact ⟨by have := (h2 b hb2).1; omega, (h2 b hb2).2⟩
      · have hM : Mst n v (pcN S) S i st = st := by
          unfold Mst
          rw [hF]
          dsimp only
          rw [if_neg e]
        rw [hM]
        refine ⟨fun e' c hc s' hs => ?_, fun b hb => ⟨by have := (h2 b hb).1; omega, (h2 b hb).2⟩⟩
        by_cases z : c = i
        · subst z; rw [hF] at hs; obtain rfl := Option.some.inj hs; exact e
        · exact h1 e' c (by omega) s' hs) ⟨fun _ c hc => absurd hc (by omega), fun b hb => by cases hb⟩
  rw [Nat.zero_add] at this
  exact this
theorem bestN_R {n : Nat} {v : Nat → Int32} (hn : n ≤ 6) (hv : VW n v) {a : Nat} (ha : a < 2 ^ n) (h0 : 0 < a) : (gB n v a && (bestN n v a).isSome) = true ↔ ∃ l m, l < n ∧ RWk n v a l m := by
  have h64 := p64 hn
  have hg := gB_G (v := v) hn ha
  refine ⟨fun h => ?_, fun h => ?_⟩
  · rw [Bool.and_eq_true] at h
    have hG := hg.mp h.1
    obtain ⟨b, hb⟩ := Option.isSome_iff_exists.mp h.2
    obtain ⟨b1, s, b2, b3⟩ := (bestN_I.2 b hb)
    have hR : RWk n v a s.2.1 s.2.2.1 := ⟨hG, pcN a, b.2, s.2.2.2, b1, by rw [b2, ← b3]⟩
    obtain ⟨r1, r2, -⟩ := RWk_i hn hv hR (by omega)
    exact ⟨_, _, (hG.2 _ r1 r2).1, hR⟩
  · obtain ⟨l, m, hl, hG, k, c, w, hc, hF⟩ := h
    rw [Bool.and_eq_true]
    refine ⟨hg.mpr hG, ?_⟩
    have hk := (FS_all (pN_v hn hv).2 (moN5 hv) _ _ _ hF).2.1
    dsimp only at hk
    subst hk
    cases e : bestN n v a with
    | none => exact absurd rfl (bestN_I.1 e c hc _ hF)
    | some b => rfl
/-- a set that wakes more than the best one -/
def manyG (n : Nat) (v : Nat → Int32) (a b : Nat) : Nat := if (gB n v a && (bestN n v a).isSome) = true ∧ pcN b < pcN a then a else b
/-- the class's table, filled up to a set -/
def DT (n : Nat) (v : Nat → Int32) (σ0 : Sg) (a : Nat) (σ : Sg) : Prop := StI n v σ0 n σ ∧ gS σ (16 * 33 + 1) = nI (6 * 2 ^ n) ∧ (∀ a', 0 < a' → a' < a → ∀ i, i < 6 → SpecE n v a' i (gA σ 33 (a' * 6 + i))) ∧ ∀ x, a * 6 ≤ x → x < 6 * 2 ^ n → gA σ 33 x = -9
theorem StI.p33 {n j : Nat} {v : Nat → Int32} {σ0 σ : Sg} {f : Nat → Int32} (h : StI n v σ0 j σ) : StI n v σ0 j (pA σ 33 f) := by
  obtain ⟨a, b, c, d⟩ := h
  refine ⟨a.tr (FE.a (by decide)), b, c, fun i hi => ?_⟩
  rw [gA_ne _ _ (by decide), gA_ne _ _ (by decide)]
  exact d i hi
def DI (n : Nat) (v : Nat → Int32) (σ0 : Sg) (a j : Nat) (c : Bool) (σ : Sg) : Prop := StI n v σ0 n σ ∧ gS σ (16 * 33 + 1) = nI (6 * 2 ^ n) ∧ (∀ a', 0 < a' → a' < a → ∀ i, i < 6 → SpecE n v a' i (gA σ 33 (a' * 6 + i))) ∧ (∀ i, i < j → SpecE n v a i (gA σ 33 (a * 6 + i))) ∧ (∀ x, a * 6 + j ≤ x → x < 6 * 2 ^ n → gA σ 33 x = -9) ∧ (c = true ↔ ∃ l m, l < j ∧ RWk n v a l m)
theorem manyC1 {n s : Nat} {v : Nat → Int32} {σ0 : Sg} (hC : HC n v s σ0) (hv : VW n v) {a : Nat} (h0 : 0 < a) (ha : a < 2 ^ n) {b : Int32} {K : Bool → Sg → Option (Int32 × Sg)} : ∀ m j N c σ, j + m = n → m < N → DI n v σ0 a j c σ → ∃ c' σ', l_X3_greatest_41 s b (nI a) K N c (nI j) σ = K c' σ' ∧ DI n v σ0 a n c' σ' := by
  have hn := hC.1
  have h64 := p64 hn
  intro m
  induction m with
  | zero =>
    intro j N c σ hj hN h
    obtain ⟨N, rfl⟩ : ∃ z, N = z + 1 := ⟨N - 1, by omega⟩
    obtain rfl : j = n := hj
    refine ⟨c, σ, ?_, h⟩
    unfold l_X3_greatest_41
    rw [(hC.fe h.1.1).2.2.1, if_pos (nI_le (Nat.le_refl _) (by omega))]
  | succ m ih =>
    intro j N c σ hj hN h
    obtain ⟨N, rfl⟩ : ∃ z, N = z + 1 := ⟨N - 1, by omega⟩
    obtain ⟨h1, h2, h3, h4, h5, h6⟩ := h
    have hC' := hC.fe h1.1
    have hjn : j < n := by omega
    unfold l_X3_greatest_41
    rw [hC'.2.2.1, if_neg (nI_ge hjn (by omega)), X5_holds_v, hoB a (by omega) j (by omega), bndS, nmE]
    -- the answer for this last house
    have step : ∀ x, SpecE n v a j x → ∃ c' σ', (bnd (f_X0_set 33 ((nI a * (6 : Int32)) + nI j) x σ) (fun σ4 => (nm (fun (t0_110 : Bool) => (nm (nI j + (1 : Int32)) (fun y5 => (l_X3_greatest_41 s b (nI a) K N t0_110 y5 σ4))))
    (fun k110 => (nm (k110 true)
    (fun k105 => (bf c
    k105
    (if x = (-9 : Int32) then
    (k110 false)
    else
    k105)))))))) = K c' σ' ∧ DI n v σ0 a n c' σ' := fun x hx => by
      rw [show nI a * (6 : Int32) = nI (a * 6) from nImul a 6, nI_add, X0_set_i h2 (show 6 * 2 ^ n ≤ cLen 33 by show 6 * 2 ^ n ≤ 384; omega) (show a * 6 + j < 6 * 2 ^ n by omega), bndS]
      simp only [nmE, nI_1]
      have hxc : x = -9 ↔ ¬ ∃ m, RWk n v a j m := by
        rcases hx with ⟨q1, q2⟩ | ⟨e, q1, q2, q3, q4⟩
        · exact ⟨fun _ z => z.elim (fun m hm => q2 m hm), fun _ => q1⟩
        · exact ⟨fun z => absurd (q1.symm.trans z) (nI9 (by omega)), fun z => absurd ⟨e, q3⟩ z⟩
      have inv : ∀ c', (c' = true ↔ (c = true ∨ ¬ x = -9)) → DI n v σ0 a (j + 1) c' (pA σ 33 (upd (gA σ 33) (a * 6 + j) x)) := fun c' hc' => by
        refine ⟨h1.p33, h2, fun a' z1 z2 i hi => ?_, fun i hi => ?_, fun y y1 y2 => ?_, ?_⟩
        · rw [gA_same]
          unfold upd
          rw [if_neg (by omega)]
          exact h3 a' z1 z2 i hi
        · rw [gA_same]
          unfold upd
          by_cases z : i = j
          · subst z; rw [if_pos rfl]; exact hx
          · rw [if_neg (by omega)]; exact h4 i (by omega)
        · rw [gA_same]
          unfold upd
          rw [if_neg (by omega)]
          exact h5 y (by omega) y2
        · rw [hc', h6, hxc]
          refine ⟨fun z => ?_, fun z => ?_⟩
          · rcases z with ⟨l, m, z1, z2⟩ | z
            · exact ⟨l, m, by omega, z2⟩
            · obtain ⟨m, hm⟩ := Classical.not_not.mp z
              exact ⟨j, m, by omega, hm⟩
          · obtain ⟨l, m, z1, z2⟩ := z
            by_cases zl : l = j
            · subst zl; exact Or.inr (fun q => q ⟨m, z2⟩)
            · exact Or.inl ⟨l, m, by omega, z2⟩
      cases c with
      | true =>
        rw [bfT]
        exact ih (j + 1) N true _ (by omega) (by omega) (inv true ⟨fun _ => Or.inl rfl, fun _ => rfl⟩)
      | false =>
        rw [bfF]
        by_cases e : x = -9
        · rw [if_pos e]
          exact ih (j + 1) N false _ (by omega) (by omega) (inv false ⟨(fun z => by cases z), fun z => by
            rcases z with z | z
            · cases z
            · exact absurd e z⟩)
        · rw [if_neg e]
          exact ih (j + 1) N true _ (by omega) (by omega) (inv true ⟨fun _ => Or.inr e, fun _ => rfl⟩)
    cases hb : a.testBit j with
    | false =>
      rw [bfF]
      refine step (-9) (Or.inl ⟨rfl, fun m hm => ?_⟩)
      have := (RWk_i hn hv hm (by omega)).2.1
      rw [hb] at this
      cases this
    | true =>
      obtain ⟨x, p1, p2⟩ := endAt_v hn hv h1 h2 ha hjn hb h3
      rw [bfT, hC'.2.2.2.1.2.2.2.2.2.1, p1, bndS]
      exact step x p2
theorem manyC {n s : Nat} {v : Nat → Int32} {σ0 : Sg} (hC : HC n v s σ0) (hv : VW n v) {K : Int32 → Sg → Option (Int32 × Sg)} : ∀ m a N b σ, a + m = 2 ^ n → m < N → 0 < a → b < 64 → DT n v σ0 a σ → ∃ σ', l_X3_greatest_25 s K N (nI b) (nI a) σ = K (nI (fo (manyG n v) a m b)) σ' ∧ FE σ0 σ' := by
  have hn := hC.1
  have h64 := p64 hn
  intro m
  induction m with
  | zero =>
    intro a N b σ ha hN h0 hb h
    obtain ⟨N, rfl⟩ : ∃ z, N = z + 1 := ⟨N - 1, by omega⟩
    refine ⟨σ, ?_, h.1.1⟩
    unfold l_X3_greatest_25
    rw [(hC.fe h.1.1).2.2.1, shl1 n (by omega), if_pos (nI_le (by omega) (by omega))]
    rfl
  | succ m ih =>
    intro a N b σ ha hN h0 hb h
    obtain ⟨N, rfl⟩ : ∃ z, N = z + 1 := ⟨N - 1, by omega⟩
    obtain ⟨h1, h2, h3, h4⟩ := h
    unfold l_X3_greatest_25
    rw [(hC.fe h1.1).2.2.1, shl1 n (by omega), if_neg (nI_ge (show a < 2 ^ n by omega) (by omega))]
    obtain ⟨c, σ1, p1, p2⟩ := manyC1 hC hv h0 (show a < 2 ^ n by omega) (b := nI b) (K := (fun (v4_118 : Bool) (σv118 : Sg) => (nm (fun (t0_139 : Int32) => (nm (nI a + (1 : Int32)) (fun y7 => (l_X3_greatest_25 s K N t0_139 y7 σv118))))
    (fun k139 => (nm (k139 (nI b))
    (fun k138 => (bf v4_118
    (bnd (f_J6_bitCount_0f7a4 (nI a)) (fun r8 => (bnd (f_J6_bitCount_0f7a4 (nI b)) (fun r9 => (if r8 ≤ r9 then
    k138
    else
    (k139 (nI a)))))))
    k138))))))) n 0 FU false σ (by omega) (lt_FU (by omega)) ⟨h1, h2, h3, fun i hi => absurd hi (by omega), fun x x1 x2 => h4 x (by omega) x2, ⟨(fun z => by cases z), fun ⟨l, m, z, _⟩ => absurd z (by omega)⟩⟩
    refine (show ∃ σ', _ ∧ _ from ?_)
    rw [show (0 : Int32) = nI 0 from rfl, p1]
    clear p1
    obtain ⟨q1, q2, q3, q4, q5, q6⟩ := p2
    have hD : DT n v σ0 (a + 1) σ1 := by
      refine ⟨q1, q2, fun a' z1 z2 i hi => ?_, fun x x1 x2 => q5 x (by omega) x2⟩
      by_cases z : a' = a
      · subst z
        by_cases zi : i < n
        · exact q4 i zi
        · rw [q5 _ (by omega) (by omega)]
          refine Or.inl ⟨rfl, fun m hm => ?_⟩
          have := RWk_i hn hv hm (by omega)
          exact zi (hm.1.2 i hi this.2.1).1
      · exact q3 a' z1 (by omega) i hi
    have hc : c = (gB n v a && (bestN n v a).isSome) := by
      have := (bestN_R hn hv (show a < 2 ^ n by omega) h0).trans q6.symm
      cases c with
      | true => exact (this.mpr rfl).symm
      | false =>
        cases e : (gB n v a && (bestN n v a).isSome) with
        | false => rfl
        | true => rw [e] at this; exact absurd (this.mp rfl) (by decide)
    have p1 := pcN6 a (by omega)
    have p2 := pcN6 b hb
    simp only [nmE, nI_1, fo_succ]
    rw [bitC a (by omega), bitC b hb, bitsN a (by omega), bitsN b hb]
    simp only [bndS, nIle (show pcN a < 2 ^ 31 by omega) (show pcN b < 2 ^ 31 by omega)]
    cases hcc : c with
    | false =>
      rw [hcc] at hc
      rw [bfF, show manyG n v a b = b from if_neg (by rw [← hc]; intro z; exact absurd z.1 (by decide))]
      exact ih (a + 1) N b σ1 (by omega) (by omega) (by omega) hb hD
    | true =>
      rw [hcc] at hc
      rw [bfT]
      by_cases ec : pcN a ≤ pcN b
      · rw [if_pos ec, show manyG n v a b = b from if_neg (by omega)]
        exact ih (a + 1) N b σ1 (by omega) (by omega) (by omega) hb hD
      · rw [if_neg ec, show manyG n v a b = a from if_pos ⟨hc.symm, by omega⟩]
        exact ih (a + 1) N a σ1 (by omega) (by omega) (by omega) (by omega) hD
theorem six_v : ∀ n < 7, (6 : Int32) <<< (nI n &&& 31) = nI (6 * 2 ^ n) := by decide +kernel
