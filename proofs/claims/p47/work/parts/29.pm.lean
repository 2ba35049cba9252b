/-! sets within sets -/
theorem sb1 : ∀ S < 64, ∀ a < 64, a &&& S = a → ∀ i < 6, (S - a).testBit i = (S.testBit i && !(a.testBit i)) := by decide +kernel
theorem sb2 : ∀ a < 64, ∀ i < 6, a.testBit i = false → a ||| 2 ^ i = a + 2 ^ i := by decide +kernel
theorem sb3 : ∀ S < 64, ∀ a < 64, a &&& S = a → ∀ i < 6, S.testBit i = true → (a ||| 2 ^ i) &&& S = a ||| 2 ^ i := by decide +kernel
theorem sb4 : ∀ S < 64, ∀ a < 64, a &&& S = a → (pcN a = pcN S ∨ S - a = 0) → a = S := by decide +kernel
theorem lesB : ∀ L < 64, ∀ i < 6, L.testBit i = true → nI L &&& (((1 : Int32) <<< (nI i &&& 31)) ^^^ (-1 : Int32)) = nI (L - 2 ^ i) := by decide +kernel
/-! the walk over what is left -/
def wkN (L p : Nat) : Nat := (walkO (nI L) (nI p)).toNatClampNeg
theorem wk_v : ∀ L < 64, ∀ p < 6, walkO (nI L) (nI p) = nI (wkN L p) ∧ wkN L p ≤ 10 := by decide +kernel
theorem wk_s : ∀ L < 64, ∀ i < 6, L.testBit i = true → ∀ p < 6, wkN L p ≤ dif p i + wkN (L - 2 ^ i) i := by decide +kernel
theorem wk_0 : ∀ p < 6, wkN 0 p = 0 := by decide +kernel
/-! rows with one beginning -/
theorem fo_id {α : Type} {g : Nat → α → α} : ∀ m j a, (∀ i, j ≤ i → i < j + m → g i a = a) → fo g j m a = a := by
  intro m
  induction m with
  | zero => intro j a _; rfl
  | succ m ih =>
    intro j a h
    rw [fo_succ, h j (Nat.le_refl _) (by omega)]
    exact ih (j + 1) a (fun i h1 h2 => h i (by omega) (by omega))
theorem fo_add {α : Type} {g : Nat → α → α} : ∀ m j m' a, fo g j (m + m') a = fo g (j + m) m' (fo g j m a) := by
  intro m
  induction m with
  | zero => intro j m' a; rw [Nat.zero_add, Nat.add_zero]; rfl
  | succ m ih =>
    intro j m' a
    rw [show m + 1 + m' = (m + m') + 1 by omega, fo_succ, fo_succ, ih, show j + 1 + m = j + (m + 1) by omega]
theorem fo_blk {α : Type} {g : Nat → α → α} {M a0 : Nat} : ∀ e i st, fo g (a0 + i * M) (e * M) st = fo (fun i st => fo g (a0 + i * M) M st) i e st := by
  intro e
  induction e with
  | zero => intro i st; rw [Nat.zero_mul]; rfl
  | succ e ih =>
    intro i st
    rw [fo_succ, Nat.succ_mul, Nat.add_comm (e * M) M, fo_add, ← ih (i + 1), Nat.succ_mul, Nat.add_assoc]
def blk (n : Nat) (v : Nat → Int32) (k S r q : Nat) (st : Option (Nat × Nat)) : Option (Nat × Nat) := fo (Mst n v k S) (q * 6 ^ r) (6 ^ r) st
theorem blk_s (n : Nat) (v : Nat → Int32) (k S r q : Nat) (st : Option (Nat × Nat)) : blk n v k S (r + 1) q st = fo (fun i st => blk n v k S r (6 * q + i) st) 0 6 st := by
  unfold blk
  have h := fo_blk (g := Mst n v k S) (M := 6 ^ r) (a0 := 6 * q * 6 ^ r) 6 0 st
  rw [Nat.zero_mul, Nat.add_zero] at h
  rw [show q * 6 ^ (r + 1) = 6 * q * 6 ^ r from by rw [Nat.pow_succ, Nat.mul_comm (6 ^ r) 6, ← Nat.mul_assoc, Nat.mul_comm q 6], show 6 ^ (r + 1) = 6 * 6 ^ r from by rw [Nat.pow_succ, Nat.mul_comm], h]
  refine fo_congr _ _ _ (fun i st _ _ => ?_)
  rw [Nat.add_mul]
theorem blk_div {q r c : Nat} (h1 : q * 6 ^ r ≤ c) (h2 : c < q * 6 ^ r + 6 ^ r) : c / 6 ^ r = q := by
  refine Nat.div_eq_of_lt_le h1 ?_
  rw [Nat.succ_mul]; exact h2
theorem blk_n {n : Nat} {v : Nat → Int32} {k S r q j : Nat} (hj : j + r = k) (h : FV n v j q = none) (st : Option (Nat × Nat)) : blk n v k S r q st = st := by
  refine fo_id _ _ _ (fun c h1 h2 => Mst_n ?_)
  refine FS_pre r j hj ?_
  rw [blk_div h1 h2]; exact h
theorem blk_o {n : Nat} {v : Nat → Int32} (hn : n ≤ 6) (hv : VW n v) {k S r q j i : Nat} (hj : j + r = k) (hi : i < 6) (h : (orD j q).testBit i = true) (hS : S.testBit i = false) (st : Option (Nat × Nat)) : blk n v k S r q st = st := by
  refine fo_id _ _ _ (fun c h1 h2 => Mst_o hn hv (fun e => ?_))
  have := orDx (k := k) (c := c) hi r j hj (by rw [blk_div h1 h2]; exact h)
  rw [e, hS] at this
  cases this
theorem q6 (q : Nat) {i : Nat} (hi : i < 6) : (6 * q + i) / 6 = q ∧ (6 * q + i) % 6 = i := by omega
/-- the next house of a beginning -/
theorem FV_q {n : Nat} {v : Nat → Int32} {j q i : Nat} (hi : i < 6) {s : Nat × Nat × Nat × Nat} (h : FV n v j q = some s) : FV n v (j + 1) (6 * q + i) = adv (tN v) (moN v n) (waN v n) s i := by
  have := FS_s (t := tN v) (p := pN v) (mo := moN v n) (wa := waN v n) (k := j) (c := 6 * q + i) (s := s) (by rw [(q6 q hi).1]; exact h)
  rw [(q6 q hi).2] at this
  exact this
theorem orD_q {j q i : Nat} (hi : i < 6) : (orD (j + 1) (6 * q + i)).testBit i = true := by
  show (orD j ((6 * q + i) / 6) ||| 2 ^ ((6 * q + i) % 6)).testBit i = true
  rw [(q6 q hi).1, (q6 q hi).2, orPb _ (orD64 _ _) _ hi _ hi, decide_eq_true rfl, Bool.or_true]
/-- no row of this beginning walks less than the best one -/
theorem blk_lb {n : Nat} {v : Nat → Int32} (hn : n ≤ 6) (hv : VW n v) {k S : Nat} (hS : S < 64) (b : Nat × Nat) : ∀ r j q s, j + r = k → FV n v j q = some s → s.1 &&& S = s.1 → b.1 ≤ s.2.2.2 + wkN (S - s.1) s.2.1 → blk n v k S r q (some b) = some b := by
  intro r
  induction r with
  | zero =>
    intro j q s hj h hs hb
    obtain rfl : j = k := hj
    obtain ⟨f1, f2, f3, f4, f5, f6⟩ := FS_all (pN_v hn hv).2 (moN5 hv) _ _ _ h
    unfold blk
    rw [Nat.pow_zero, Nat.mul_one]
    show Mst n v j S q (some b) = some b
    unfold Mst
    rw [h]
    dsimp only
    by_cases e : s.1 = S
    · rw [e, Nat.sub_self, wk_0 _ f3] at hb
      rw [if_pos e, if_pos (by omega)]
    · rw [if_neg e]
  | succ r ih =>
    intro j q s hj h hs hb
    obtain ⟨f1, f2, f3, f4, f5, f6⟩ := FS_all (pN_v hn hv).2 (moN5 hv) _ _ _ h
    have h64 : s.1 < 64 := by rw [f1]; exact orD64 _ _
    rw [blk_s]
    refine fo_id _ _ _ (fun i _ hi => ?_)
    have hi6 : i < 6 := by omega
    have hF := FV_q hi6 h
    cases hA : adv (tN v) (moN v n) (waN v n) s i with
    | none => rw [hA] at hF; exact blk_n (j := j + 1) (by omega) hF _
    | some s' =>
      rw [hA] at hF
      obtain ⟨a1, a2, a3⟩ := adv_i hA
      cases hSi : S.testBit i with
      | false => exact blk_o hn hv (j := j + 1) (by omega) hi6 (orD_q hi6) hSi _
      | true =>
        refine ih (j + 1) (6 * q + i) s' (by omega) hF (by rw [a3]; exact sb3 S hS _ h64 hs i hi6 hSi) ?_
        rw [a3]
        dsimp only
        have hL : (S - s.1).testBit i = true := by rw [sb1 S hS _ h64 hs i hi6, hSi, a1]; rfl
        have := wk_s (S - s.1) (by omega) i hi6 hL s.2.1 f3
        rw [sb2 _ h64 i hi6 a1, ← Nat.sub_sub]
        omega
/-! the class's seeking -/
def SE (n : Nat) (v : Nat → Int32) (k : Nat) (σ : Sg) : Prop := gS σ (16 * 35 + 1) = nI n ∧ gS σ (16 * 36 + 1) = nI n ∧ gS σ (16 * 34 + 1) = nI k ∧ ∀ i, i < n → gA σ 35 i = moreV v i ∧ gA σ 36 i = v (29 + i) - v 0
def SB (k : Nat) (st : Option (Nat × Nat)) (σ : Sg) : Prop := (st = none → gS σ 37 = nI 1000) ∧ ∀ b, st = some b → b.1 ≤ 30 ∧ gS σ 37 = nI b.1 ∧ gS σ (16 * 37 + 1) = nI k ∧ ∀ x, x < k → gA σ 37 x = nI (dgt k b.2 x)
def PR (j q : Nat) (σ : Sg) : Prop := ∀ x, x < j → gA σ 34 x = nI (dgt j q x)
def FK (σ σ' : Sg) : Prop := (∀ k, k ≠ 37 → k ≠ 16 * 37 + 1 → gS σ' k = gS σ k) ∧ (∀ a, a ≠ 34 → a ≠ 37 → gA σ' a = gA σ a) ∧ (∀ k, gL σ' k = gL σ k) ∧ ∀ k, gR σ' k = gR σ k
theorem FK.rf (σ : Sg) : FK σ σ := ⟨fun _ _ _ => rfl, fun _ _ _ => rfl, fun _ => rfl, fun _ => rfl⟩
theorem FK.tr {σ σ' σ'' : Sg} (h : FK σ σ') (g : FK σ' σ'') : FK σ σ'' := ⟨fun k a b => (g.1 k a b).trans (h.1 k a b), fun k a b => (g.2.1 k a b).trans (h.2.1 k a b), fun k => (g.2.2.1 k).trans (h.2.2.1 k), fun k => (g.2.2.2 k).trans (h.2.2.2 k)⟩
theorem SE.k {n : Nat} {v : Nat → Int32} {k : Nat} {σ σ' : Sg} (h : SE n v k σ) (f : FK σ σ') : SE n v k σ' := by
  obtain ⟨a, b, c, d⟩ := h
  refine ⟨(f.1 _ (by decide) (by decide)).trans a, (f.1 _ (by decide) (by decide)).trans b, (f.1 _ (by decide) (by decide)).trans c, fun i hi => ?_⟩
  rw [f.2.1 35 (by decide) (by decide), f.2.1 36 (by decide) (by decide)]
  exact d i hi
theorem spare_v {x t m : Nat} (hx : x < 1000) (ht : t < 1000) (hm : m < 1000) : (nI x - nI t < nI m) = ¬ (t + m ≤ x) := by
  refine propext ?_
  rw [Int32.lt_iff_toInt_lt, nI_sub_toInt (by omega) (by omega), nI_toInt (by omega)]
  omega
/-- one house after another tried -/
theorem seekL {n : Nat} {v : Nat → Int32} (hn : n ≤ 6) (hv : VW n v) {k S : Nat} (hG : GSet n v S) (hpc : pcN S = k) {j q r fuel : Nat} (hj : j + (r + 1) = k) {s : Nat × Nat × Nat × Nat} (hs : FV n v j q = some s) (hsub : s.1 &&& S = s.1)
    (ih : ∀ q s σ st, FV n v (j + 1) q = some s → s.1 &&& S = s.1 → SE n v k σ → PR (j + 1) q σ → SB k st σ → ∃ σ', f_X3_seek fuel (nI (j + 1)) (nI (S - s.1)) (nI s.2.1) (nI s.2.2.1) (nI s.2.2.2) σ = some σ' ∧ FK σ σ' ∧ PR (j + 1) q σ' ∧ SB k (blk n v k S r q st) σ') :
    ∀ e i N σ st, i + e = 6 → e < N → SE n v k σ → PR j q σ → SB k st σ → ∃ σ', l_X3_seek_47 (f_X3_seek fuel) (nI j) (nI (S - s.1)) (nI s.2.1) (nI s.2.2.1) (nI s.2.2.2) (fun (σv143 : Sg) => (some σv143)) N (nI i) σ = some σ' ∧ FK σ σ' ∧ PR j q σ' ∧ SB k (fo (fun i st => blk n v k S r (6 * q + i) st) i e st) σ' := by
  obtain ⟨f1, f2, f3, f4, f5, f6⟩ := FS_all (pN_v hn hv).2 (moN5 hv) _ _ _ hs
  have h64 : s.1 < 64 := by rw [f1]; exact orD64 _ _
  have hk6 : k ≤ 6 := by rw [← hpc]; exact pcN6 S hG.1
  have hS := hG.1
  intro e
  induction e with
  | zero =>
    intro i N σ st hi hN h1 h2 h3
    obtain ⟨N, rfl⟩ : ∃ z, N = z + 1 := ⟨N - 1, by omega⟩
    refine ⟨σ, ?_, FK.rf σ, h2, h3⟩
    obtain rfl : i = 6 := hi
    unfold l_X3_seek_47
    rw [if_pos (by decide)]
  | succ e ihe =>
    intro i N σ st hi hN h1 h2 h3
    obtain ⟨N, rfl⟩ : ∃ z, N = z + 1 := ⟨N - 1, by omega⟩
    have hi6 : i < 6 := by omega
    have hF := FV_q hi6 hs
    have hdf := dif5 s.2.1 f3 i hi6
    obtain ⟨r5, e5, q5⟩ : ∃ r5, f_X0_get 35 (nI i) σ = some r5 ∧ (i < n → r5 = moreV v i) := by
      by_cases hin : i < n
      · exact ⟨_, X0_get_i h1.1 (show n ≤ cLen 35 from hn) hin, fun _ => (h1.2.2.2 i hin).1⟩
      · exact ⟨_, X0_get_o (by rw [h1.1]; exact nI_le (by omega) (by omega)), fun z => absurd z hin⟩
    have g6 : ¬ ((6 : Int32) ≤ nI i) := by rw [show (6 : Int32) = nI 6 from rfl]; exact nI_ge hi6 (by omega)
    unfold l_X3_seek_47
    rw [if_neg g6, nmE, e5, bndS, nmE, X5_holds_v, hoB _ (by omega) i hi6, sb1 S hS _ h64 hsub i hi6, bndS, nmE, difV i hi6 _ f3, dif_c i]
    have skip : blk n v k S r (6 * q + i) st = st → ∃ σ', (nm (nI i + (1 : Int32)) (fun y8 => (l_X3_seek_47 (f_X3_seek fuel) (nI j) (nI (S - s.1)) (nI s.2.1) (nI s.2.2.1) (nI s.2.2.2) (fun (σv143 : Sg) => (some σv143)) N y8 σ))) = some σ' ∧ FK σ σ' ∧ PR j q σ' ∧ SB k (fo (fun i st => blk n v k S r (6 * q + i) st) i (e + 1) st) σ' := fun eb => by
      rw [nmE, nI_1, fo_succ]
      show ∃ σ', _ ∧ _ ∧ _ ∧ SB k (fo _ (i + 1) e (blk n v k S r (6 * q + i) st)) σ'
      rw [eb]
      exact ihe (i + 1) N σ st (by omega) (by omega) h1 h2 h3
    cases hSi : S.testBit i with
    | false =>
      rw [Bool.false_and, bfF]
      exact skip (blk_o hn hv (j := j + 1) (by omega) hi6 (orD_q hi6) hSi _)
    | true =>
      obtain ⟨hin, hpos⟩ := hG.2 i hi6 hSi
      obtain ⟨m1, m2⟩ := moN_v hv hin hpos
      obtain ⟨w1, w2⟩ := waN_v hv hin
      obtain ⟨t1, t2⟩ := tN_v hv
      have hm5 := moN5 hv (n := n) i
      rw [q5 hin, m1]
      cases hAi : s.1.testBit i with
      | true =>
        rw [Bool.not_true, Bool.and_false, bfF]
        refine skip (blk_n (j := j + 1) (by omega) ?_ _)
        rw [hF]
        unfold adv
        rw [if_neg (fun z => by rw [hAi] at z; cases z.1)]
      | false =>
        rw [Bool.not_false, Bool.and_true, bfT, X0_get_i h1.2.1 (show n ≤ cLen 36 from hn) hin, bndS, (h1.2.2.2 i hin).2, w1, t1, nI_add, nI_add, nI_add]
        simp only [spare_v (show waN v n i < 1000 by omega) (show tN v < 1000 by omega) (show s.2.2.1 + dif s.2.1 i + moN v n i < 1000 by omega)]
        by_cases ed : tN v + (s.2.2.1 + dif s.2.1 i + moN v n i) ≤ waN v n i
        · have hA : adv (tN v) (moN v n) (waN v n) s i = some (s.1 ||| 2 ^ i, i, s.2.2.1 + (dif s.2.1 i + moN v n i), s.2.2.2 + dif s.2.1 i) := by
            unfold adv
            rw [if_pos ⟨hAi, by omega⟩]
          rw [hA] at hF
          rw [if_neg (fun z => z ed), X0_set_i h1.2.2.1 (show k ≤ cLen 34 from hk6) (show j < k by omega), bndS, nI_1]
          have hL : (S - s.1).testBit i = true := by rw [sb1 S hS _ h64 hsub i hi6, hSi, hAi]; rfl
          rw [lesB (S - s.1) (by omega) i hi6 hL, Nat.sub_sub, ← sb2 _ h64 i hi6 hAi, Nat.add_assoc]
          obtain ⟨σ1, e1⟩ : ∃ x, x = pA σ 34 (upd (gA σ 34) j (nI i)) := ⟨_, rfl⟩
          rw [← e1]
          have k1 : FK σ σ1 := by
            rw [e1]
            exact ⟨fun _ _ _ => rfl, fun a a1 _ => gA_ne _ _ a1, fun _ => rfl, fun _ => rfl⟩
          have k2 : PR (j + 1) (6 * q + i) σ1 := by
            intro x hx
            rw [e1, gA_same]
            unfold upd
            by_cases ex : x = j
            · subst ex
              rw [if_pos rfl, dgt_l, (q6 q hi6).2]
            · rw [if_neg ex, dgt_s (by omega), (q6 q hi6).1]
              exact h2 x (by omega)
          have k3 : SB k st σ1 := by
            rw [e1]
            refine ⟨h3.1, fun b hb => ?_⟩
            obtain ⟨b1, b2, b3, b4⟩ := h3.2 b hb
            exact ⟨b1, b2, b3, fun x hx => by rw [gA_ne _ _ (by decide)]; exact b4 x hx⟩
          clear e1
          obtain ⟨σ2, p1, p2, p3, p4⟩ := ih (6 * q + i) _ σ1 st hF (sb3 S hS _ h64 hsub i hi6 hSi) (h1.k k1) k2 k3
          dsimp only at p1
          rw [p1, bndS, nmE, nI_1]
          have p3' : PR j q σ2 := fun x hx => by
            rw [p3 x (by omega), dgt_s hx, (q6 q hi6).1]
          obtain ⟨σ3, r1, r2, r3, r4⟩ := ihe (i + 1) N σ2 _ (by omega) (by omega) ((h1.k k1).k p2) p3' p4
          exact ⟨σ3, r1, (k1.tr p2).tr r2, r3, r4⟩
        · rw [if_pos ed]
          refine skip (blk_n (j := j + 1) (by omega) ?_ _)
          rw [hF]
          unfold adv
          rw [if_neg (fun z => ed (by have := z.2; omega))]
theorem seek_v {n : Nat} {v : Nat → Int32} (hn : n ≤ 6) (hv : VW n v) {k S : Nat} (hG : GSet n v S) (hpc : pcN S = k) : ∀ r j fuel q s σ st, j + r = k → r < fuel → FV n v j q = some s → s.1 &&& S = s.1 → SE n v k σ → PR j q σ → SB k st σ → ∃ σ', f_X3_seek fuel (nI j) (nI (S - s.1)) (nI s.2.1) (nI s.2.2.1) (nI s.2.2.2) σ = some σ' ∧ FK σ σ' ∧ PR j q σ' ∧ SB k (blk n v k S r q st) σ' := by
  have hk6 : k ≤ 6 := by rw [← hpc]; exact pcN6 S hG.1
  have hS := hG.1
  intro r
  induction r with
  | zero =>
    intro j fuel q s σ st hj hfu hs hsub h1 h2 h3
    obtain ⟨fuel, rfl⟩ : ∃ z, fuel = z + 1 := ⟨fuel - 1, by omega⟩
    obtain rfl : j = k := hj
    obtain ⟨f1, f2, f3, f4, f5, f6⟩ := FS_all (pN_v hn hv).2 (moN5 hv) _ _ _ hs
    have h64 : s.1 < 64 := by rw [f1]; exact orD64 _ _
    have hAS : s.1 = S := sb4 S hS _ h64 hsub (Or.inl (f2.trans hpc.symm))
    unfold f_X3_seek
    dsimp only
    have g6 : ¬ ((6 : Int32) < nI j) := by rw [show (6 : Int32) = nI 6 from rfl, nIlt (by decide) (by omega)]; omega
    rw [if_neg g6, X3_walkOver_v, bndS, hAS, Nat.sub_self, (wk_v 0 (by decide) _ f3).1, wk_0 _ f3, nI_add, Nat.add_zero]
    have hb0 : blk n v j S 0 q st = Mst n v j S q st := by
      unfold blk
      rw [Nat.pow_zero, Nat.mul_one]
      rfl
    rw [hb0]
    cases hst : st with
    | none =>
      rw [hst] at h3
      rw [h3.1 rfl]
      simp only [nIlt (show s.2.2.2 < 2 ^ 31 by omega) (show 1000 < 2 ^ 31 by omega)]
      rw [if_pos (by omega), if_pos (show nI 0 = 0 from rfl), nmE, X0_takeFrom_i (m := j) (by rw [gS_ne _ _ (by decide)]; exact h1.2.2.1) (show j ≤ cLen 34 from hk6) (show j ≤ cLen 37 from hk6) (by decide), bndS]
      refine ⟨_, rfl, ⟨fun k a b => ?_, fun a _ a2 => gA_ne _ _ a2, fun _ => rfl, fun _ => rfl⟩, fun x hx => ?_, ?_⟩
      · rw [gS_pA, gS_ne _ _ b, gS_ne _ _ a]
      · rw [gA_ne _ _ (by decide)]; exact h2 x hx
      · have : Mst n v j S q none = some (s.2.2.2, q) := by unfold Mst; rw [hs]; dsimp only; rw [if_pos hAS]
        rw [this]
        refine ⟨(fun z => by cases z), fun b hb => ?_⟩
        obtain rfl := Option.some.inj hb
        refine ⟨by dsimp only; omega, ?_, ?_, fun x hx => ?_⟩
        · rw [gS_pA, gS_ne _ _ (by decide), gS_same]
        · rw [gS_pA, gS_same]
        · rw [gA_same]
          dsimp only
          rw [if_pos hx]
          exact h2 x hx
    | some b =>
      rw [hst] at h3
      obtain ⟨b1, b2, b3, b4⟩ := h3.2 b rfl
      rw [b2]
      simp only [nIlt (show s.2.2.2 < 2 ^ 31 by omega) (show b.1 < 2 ^ 31 by omega)]
      have hMs : Mst n v j S q (some b) = if b.1 ≤ s.2.2.2 then some b else some (s.2.2.2, q) := by unfold Mst; rw [hs]; dsimp only; rw [if_pos hAS]
      rw [hMs]
      by_cases el : s.2.2.2 < b.1
      · rw [if_pos el, if_neg (show ¬ b.1 ≤ s.2.2.2 by omega), if_pos (show nI 0 = 0 from rfl), nmE, X0_takeFrom_i (m := j) (by rw [gS_ne _ _ (by decide)]; exact h1.2.2.1) (show j ≤ cLen 34 from hk6) (show j ≤ cLen 37 from hk6) (by decide), bndS]
        refine ⟨_, rfl, ⟨fun k a b => ?_, fun a _ a2 => gA_ne _ _ a2, fun _ => rfl, fun _ => rfl⟩, fun x hx => ?_, ?_⟩
        · rw [gS_pA, gS_ne _ _ b, gS_ne _ _ a]
        · rw [gA_ne _ _ (by decide)]; exact h2 x hx
        · refine ⟨(fun z => by cases z), fun b hb => ?_⟩
          obtain rfl := Option.some.inj hb
          refine ⟨by dsimp only; omega, ?_, ?_, fun x hx => ?_⟩
          · rw [gS_pA, gS_ne _ _ (by decide), gS_same]
          · rw [gS_pA, gS_same]
          · rw [gA_same]
            dsimp only
            rw [if_pos hx]
            exact h2 x hx
      · rw [if_neg el, if_pos (by omega)]
        exact ⟨σ, rfl, FK.rf σ, h2, h3⟩
  | succ r ihr =>
    intro j fuel q s σ st hj hfu hs hsub h1 h2 h3
    obtain ⟨fuel, rfl⟩ : ∃ z, fuel = z + 1 := ⟨fuel - 1, by omega⟩
    obtain ⟨f1, f2, f3, f4, f5, f6⟩ := FS_all (pN_v hn hv).2 (moN5 hv) _ _ _ hs
    have h64 : s.1 < 64 := by rw [f1]; exact orD64 _ _
    have hL0 : ¬ S - s.1 = 0 := fun z => by
      have := sb4 S hS _ h64 hsub (Or.inr z)
      rw [this, hpc] at f2
      omega
    have hwk := wk_v (S - s.1) (by omega) _ f3
    unfold f_X3_seek
    dsimp only
    have g6 : ¬ ((6 : Int32) < nI j) := by rw [show (6 : Int32) = nI 6 from rfl, nIlt (by decide) (by omega)]; omega
    rw [if_neg g6, X3_walkOver_v, bndS, hwk.1, nI_add]
    have go : ∃ σ', (if nI (S - s.1) = 0 then (nm (pS σ 37 (nI s.2.2.2)) (fun σ2 => (bnd (f_X0_takeFrom 37 34 σ2) (fun σ3 => (some σ3))))) else (l_X3_seek_47 (f_X3_seek fuel) (nI j) (nI (S - s.1)) (nI s.2.1) (nI s.2.2.1) (nI s.2.2.2) (fun (σv143 : Sg) => (some σv143)) FU (0 : Int32) σ)) = some σ' ∧ FK σ σ' ∧ PR j q σ' ∧ SB k (blk n v k S (r + 1) q st) σ' := by
      rw [if_neg (by rw [eq0 (by omega)]; exact hL0), blk_s]
      exact seekL hn hv hG hpc hj hs hsub (fun q s σ st g1 g2 g3 g4 g5 => ihr (j + 1) fuel q s σ st (by omega) (by omega) g1 g2 g3 g4 g5) 6 0 FU σ st (by omega) (lt_FU (by omega)) h1 h2 h3
    cases hst : st with
    | none =>
      rw [hst] at h3 go
      rw [h3.1 rfl, if_pos (by rw [nIlt (by omega) (by omega)]; omega)]
      exact go
    | some b =>
      rw [hst] at h3 go
      obtain ⟨b1, b2, b3, b4⟩ := h3.2 b rfl
      rw [b2]
      simp only [nIlt (show s.2.2.2 + wkN (S - s.1) s.2.1 < 2 ^ 31 by omega) (show b.1 < 2 ^ 31 by omega)]
      by_cases el : s.2.2.2 + wkN (S - s.1) s.2.1 < b.1
      · rw [if_pos el]
        exact go
      · rw [if_neg el, blk_lb hn hv hS b (r + 1) j q s hj hs hsub (by omega)]
        exact ⟨σ, rfl, FK.rf σ, h2, h3⟩
