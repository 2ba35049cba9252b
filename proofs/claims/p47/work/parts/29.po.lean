theorem sb7 : ∀ a < 64, ∀ l < 6, a.testBit l = true → (a - 2 ^ l).testBit l = false ∧ (a - 2 ^ l) ||| 2 ^ l = a ∧ a - 2 ^ l < a := by decide +kernel
/-- a set woken in time, with its last house and the minutes -/
def RWk (n : Nat) (v : Nat → Int32) (a l m : Nat) : Prop := GSet n v a ∧ ∃ k c w, c < 6 ^ k ∧ FV n v k c = some (a, l, m, w)
theorem GSet_sub {n : Nat} {v : Nat → Int32} {a i : Nat} (ha : a < 64) (hi : i < 6) (h : GSet n v (a ||| 2 ^ i)) : GSet n v a :=
  ⟨ha, fun j hj hb => h.2 j hj (by rw [orPb a ha i hi j hj, hb]; rfl)⟩
theorem RWk_i {n : Nat} {v : Nat → Int32} (hn : n ≤ 6) (hv : VW n v) {a l m : Nat} (h : RWk n v a l m) (h0 : ¬ a = 0) : l < 6 ∧ a.testBit l = true ∧ m ≤ 60 ∧ ∃ p' m', m = m' + (dif p' l + moN v n l) ∧ tN v + m ≤ waN v n l ∧ ((a - 2 ^ l = 0 ∧ p' = pN v ∧ m' = 0) ∨ (¬ a - 2 ^ l = 0 ∧ p' < 6 ∧ RWk n v (a - 2 ^ l) p' m')) := by
  obtain ⟨hG, k, c, w, hc, hF⟩ := h
  cases k with
  | zero =>
    have : some (0, pN v, 0, 0) = some (a, l, m, w) := hF
    have := Option.some.inj this
    exact absurd (congrArg Prod.fst this).symm h0
  | succ k =>
    have hall := FS_all (pN_v hn hv).2 (moN5 hv) _ _ _ hF
    have hk6 : k + 1 ≤ 6 := by
      have := hall.2.1
      have h2 := pcN6 a hG.1
      dsimp only at this
      omega
    obtain ⟨s, h1, h2⟩ := FS_i hF
    obtain ⟨a1, a2, a3⟩ := adv_i h2
    obtain ⟨f1, f2, f3, f4, f5, f6⟩ := FS_all (pN_v hn hv).2 (moN5 hv) _ _ _ h1
    have h64 : s.1 < 64 := by rw [f1]; exact orD64 _ _
    have hd : c % 6 < 6 := Nat.mod_lt _ (by decide)
    obtain ⟨e1, e2⟩ := Prod.mk.inj a3
    obtain ⟨e2, e3⟩ := Prod.mk.inj e2
    obtain ⟨e3, e4⟩ := Prod.mk.inj e3
    subst e2
    have hs1 : a - 2 ^ (c % 6) = s.1 := by rw [e1, sb2 _ h64 _ hd a1]; omega
    refine ⟨hd, by rw [e1, orPb _ h64 _ hd _ hd, decide_eq_true rfl, Bool.or_true], ?_, s.2.1, s.2.2.1, e3, by rw [e3]; exact a2, ?_⟩
    · have := hall.2.2.2.1
      dsimp only at this
      omega
    · rw [hs1]
      by_cases z : s.1 = 0
      · left
        have hk0 : k = 0 := by rw [← f2, z]; decide
        subst hk0
        have : some (0, pN v, 0, 0) = some s := h1
        have := Option.some.inj this
        rw [← this]
        exact ⟨rfl, rfl, rfl⟩
      · right
        refine ⟨z, f3, GSet_sub h64 hd (by rw [← e1]; exact hG), k, c / 6, s.2.2.2, ?_, h1⟩
        rw [Nat.pow_succ] at hc
        omega
theorem RWk_mk {n : Nat} {v : Nat → Int32} {a l p' m' : Nat} (hG : GSet n v a) (hl : l < 6) (hb : a.testBit l = true) (h : (a - 2 ^ l = 0 ∧ p' = pN v ∧ m' = 0) ∨ (¬ a - 2 ^ l = 0 ∧ p' < 6 ∧ RWk n v (a - 2 ^ l) p' m')) (ht : tN v + (m' + (dif p' l + moN v n l)) ≤ waN v n l) : RWk n v a l (m' + (dif p' l + moN v n l)) := by
  obtain ⟨k, c, w, hc, hF⟩ : ∃ k c w, c < 6 ^ k ∧ FV n v k c = some (a - 2 ^ l, p', m', w) := by
    rcases h with ⟨h1, h2, h3⟩ | ⟨-, -, -, k, c, w, hc, hF⟩
    · refine ⟨0, 0, 0, by decide, ?_⟩
      rw [h1, h2, h3]
      rfl
    · exact ⟨k, c, w, hc, hF⟩
  obtain ⟨z1, z2, -⟩ := sb7 a hG.1 l hl hb
  refine ⟨hG, k + 1, 6 * c + l, w + dif p' l, by rw [Nat.pow_succ]; omega, ?_⟩
  rw [FV_q hl hF]
  unfold adv
  rw [if_pos ⟨z1, ht⟩]
  dsimp only
  rw [z2]
def SpecE (n : Nat) (v : Nat → Int32) (a l : Nat) (x : Int32) : Prop := (x = -9 ∧ ∀ m, ¬ RWk n v a l m) ∨ ∃ e, x = nI e ∧ e ≤ 60 ∧ RWk n v a l e ∧ ∀ m, RWk n v a l m → e ≤ m
/-- from where the last house can be gone to -/
def Cd (n : Nat) (v : Nat → Int32) (b p' m' : Nat) : Prop := (b = 0 ∧ p' = pN v ∧ m' = 0) ∨ (¬ b = 0 ∧ p' < 6 ∧ RWk n v b p' m')
def EI (n : Nat) (v : Nat → Int32) (b l i : Nat) (x : Int32) : Prop := (x = -9 ∧ ∀ p' m', Cd n v b p' m' → (b = 0 ∨ p' < i) → False) ∨ ∃ p' m', Cd n v b p' m' ∧ m' ≤ 60 ∧ p' < 6 ∧ x = nI (m' + dif p' l) ∧ ∀ p'' m'', Cd n v b p'' m'' → (b = 0 ∨ p'' < i) → m' + dif p' l ≤ m'' + dif p'' l
theorem endL {n : Nat} {v : Nat → Int32} (hn : n ≤ 6) (hv : VW n v) {σ : Sg} (h33 : gS σ (16 * 33 + 1) = nI (6 * 2 ^ n)) {b l : Nat} (hb : b < 2 ^ n) (hl : l < 6) {K : Int32 → Option Int32} (hT : 0 < b → ∀ i, i < 6 → SpecE n v b i (gA σ 33 (b * 6 + i))) :
    ∀ e i N x, i + e = 6 → e < N → EI n v b l i x → ∃ x', l_X3_endAt_44 (nI l) (nI b) σ K N x (nI i) = K x' ∧ EI n v b l 6 x' := by
  have h64 := p64 hn
  intro e
  induction e with
  | zero =>
    intro i N x hi hN h
    obtain ⟨N, rfl⟩ : ∃ z, N = z + 1 := ⟨N - 1, by omega⟩
    obtain rfl : i = 6 := hi
    refine ⟨x, ?_, h⟩
    unfold l_X3_endAt_44
    rw [if_pos (by decide)]
  | succ e ih =>
    intro i N x hi hN h
    obtain ⟨N, rfl⟩ : ∃ z, N = z + 1 := ⟨N - 1, by omega⟩
    have hi6 : i < 6 := by omega
    have g6 : ¬ ((6 : Int32) ≤ nI i) := by rw [show (6 : Int32) = nI 6 from rfl]; exact nI_ge hi6 (by omega)
    have next : ∀ x', EI n v b l (i + 1) x' → ∃ x'', (nm (nI i + (1 : Int32)) (fun y5 => (l_X3_endAt_44 (nI l) (nI b) σ K N x' y5))) = K x'' ∧ EI n v b l 6 x'' := fun x' hx => by
      rw [nmE, nI_1]
      exact ih (i + 1) N x' (by omega) (by omega) hx
    -- a house from which nothing comes
    have none_ : (∀ m', ¬ Cd n v b i m' ∨ b = 0) → EI n v b l (i + 1) x := fun hno => by
      rcases h with ⟨e1, e2⟩ | ⟨p', m', e1, e2, e3, e4, e5⟩
      · refine Or.inl ⟨e1, fun p'' m'' hc hp => ?_⟩
        rcases hp with hp | hp
        · exact e2 p'' m'' hc (Or.inl hp)
        · by_cases z : p'' = i
          · subst z
            rcases hno m'' with q | q
            · exact q hc
            · exact e2 _ m'' hc (Or.inl q)
          · exact e2 p'' m'' hc (Or.inr (by omega))
      · refine Or.inr ⟨p', m', e1, e2, e3, e4, fun p'' m'' hc hp => ?_⟩
        rcases hp with hp | hp
        · exact e5 p'' m'' hc (Or.inl hp)
        · by_cases z : p'' = i
          · subst z
            rcases hno m'' with q | q
            · exact absurd hc q
            · exact e5 _ m'' hc (Or.inl q)
          · exact e5 p'' m'' hc (Or.inr (by omega))
    unfold l_X3_endAt_44
    rw [if_neg g6, X5_holds_v, hoB b (by omega) i hi6, bndS, nmE]
    cases hbi : b.testBit i with
    | false =>
      rw [bfF]
      dsimp only
      rw [nmE, nmE, if_pos rfl]
      refine next x (none_ (fun m' => ?_))
      by_cases z : b = 0
      · exact Or.inr z
      · refine Or.inl (fun hc => ?_)
        rcases hc with ⟨q, -⟩ | ⟨-, -, q⟩
        · exact z q
        · have := (RWk_i hn hv q z).2.1
          rw [hbi] at this
          cases this
    | true =>
      have hb0 : ¬ b = 0 := fun z => by rw [z, Nat.zero_testBit] at hbi; cases hbi
      rw [bfT, show nI b * (6 : Int32) = nI (b * 6) from nImul b 6, nI_add, X0_get_i h33 (show 6 * 2 ^ n ≤ cLen 33 by show 6 * 2 ^ n ≤ 384; omega) (show b * 6 + i < 6 * 2 ^ n by omega), bndS]
      dsimp only
      rw [nmE, nmE]
      rcases hT (by omega) i hi6 with ⟨q1, q2⟩ | ⟨e', q1, q2, q3, q4⟩
      · rw [q1, if_pos rfl]
        refine next x (none_ (fun m' => Or.inl (fun hc => ?_)))
        rcases hc with ⟨z, -⟩ | ⟨-, -, q⟩
        · exact hb0 z
        · exact q2 m' q
      · have hdf := dif5 i hi6 l hl
        rw [q1, if_neg (nI9 (by omega)), difV l hl i hi6, dif_c, nI_add, nmE]
        have new : (∀ p'' m'', Cd n v b p'' m'' → (b = 0 ∨ p'' < i) → e' + dif i l ≤ m'' + dif p'' l) → EI n v b l (i + 1) (nI (e' + dif i l)) := fun hle => by
          refine Or.inr ⟨i, e', Or.inr ⟨hb0, hi6, q3⟩, q2, hi6, rfl, fun p'' m'' hc hp => ?_⟩
          by_cases z : p'' = i
          · subst z
            rcases hc with ⟨z, -⟩ | ⟨-, -, q⟩
            · exact absurd z hb0
            · have := q4 m'' q
              omega
          · exact hle p'' m'' hc (by omega)
        rcases h with ⟨e1, e2⟩ | ⟨p', m', e1, e2, e3, e4, e5⟩
        · rw [e1, if_pos rfl]
          exact next _ (new (fun p'' m'' hc hp => (e2 p'' m'' hc hp).elim))
        · have hdf2 := dif5 p' e3 l hl
          rw [e4, if_neg (nI9 (by omega))]
          simp only [nIle (show m' + dif p' l < 2 ^ 31 by omega) (show e' + dif i l < 2 ^ 31 by omega)]
          by_cases ec : m' + dif p' l ≤ e' + dif i l
          · rw [if_pos ec]
            refine next _ (Or.inr ⟨p', m', e1, e2, e3, rfl, fun p'' m'' hc hp => ?_⟩)
            by_cases z : p'' = i
            · subst z
              rcases hc with ⟨z, -⟩ | ⟨-, -, q⟩
              · exact absurd z hb0
              · have := q4 m'' q
                omega
            · exact e5 p'' m'' hc (by omega)
          · rw [if_neg ec]
            refine next _ (new (fun p'' m'' hc hp => ?_))
            have := e5 p'' m'' hc hp
            omega
theorem endAt_v {n : Nat} {v : Nat → Int32} (hn : n ≤ 6) (hv : VW n v) {σ0 σ : Sg} (hSt : StI n v σ0 n σ) (h33 : gS σ (16 * 33 + 1) = nI (6 * 2 ^ n)) {a l : Nat} (ha : a < 2 ^ n) (hl : l < n) (hb : a.testBit l = true) (hT : ∀ a', 0 < a' → a' < a → ∀ i, i < 6 → SpecE n v a' i (gA σ 33 (a' * 6 + i))) : ∃ x, f_X3_endAt (nI a) (nI l) (v 2) σ = some x ∧ SpecE n v a l x := by
  have h64 := p64 hn
  obtain ⟨-, s1, s2, s3⟩ := hSt
  obtain ⟨z1, z2, z3⟩ := sb7 a (by omega) l (by omega) hb
  have ha0 : ¬ a = 0 := fun z => by rw [z, Nat.zero_testBit] at hb; cases hb
  unfold f_X3_endAt
  rw [X0_get_i s1 (show n ≤ cLen 35 from hn) hl, X0_get_i s2 (show n ≤ cLen 36 from hn) hl, (s3 l hl).1, (s3 l hl).2, bndS]
  by_cases hpos : 0 < moreV v l
  · obtain ⟨m1, m2⟩ := moN_v hv hl hpos
    obtain ⟨w1, w2⟩ := waN_v hv hl
    obtain ⟨t1, t2⟩ := tN_v hv
    have hm5 := moN5 hv (n := n) l
    have hp6 := (pN_v hn hv).2
    rw [if_pos hpos, lesB a (by omega) l (by omega) hb, nmE, nmE, (pN_v hn hv).1, difV l (by omega) _ hp6, dif_c l, m1, w1, t1]
    simp only [eq0 (show a - 2 ^ l < 2 ^ 31 by omega)]
    obtain ⟨x0, e0, i0⟩ : ∃ x0, (fun k39 : Int32 → Option Int32 => (if a - 2 ^ l = 0 then k39 (nI (dif (pN v) l)) else k39 (-9 : Int32))) = (fun k39 => k39 x0) ∧ EI n v (a - 2 ^ l) l 0 x0 := by
      by_cases z : a - 2 ^ l = 0
      · refine ⟨nI (dif (pN v) l), by simp only [if_pos z], Or.inr ⟨pN v, 0, Or.inl ⟨z, rfl, rfl⟩, by omega, hp6, by rw [Nat.zero_add], fun p'' m'' hc _ => ?_⟩⟩
        rcases hc with ⟨-, q1, q2⟩ | ⟨q, -⟩
        · rw [q1, q2]; exact Nat.le_refl _
        · exact absurd z q
      · refine ⟨-9, by simp only [if_neg z], Or.inl ⟨rfl, fun p' m' _ hp => ?_⟩⟩
        omega
    have e0' : ∀ k39 : Int32 → Option Int32, (if a - 2 ^ l = 0 then k39 (nI (dif (pN v) l)) else k39 (-9 : Int32)) = k39 x0 := fun k39 => congrFun e0 k39
    obtain ⟨KK, eK⟩ : ∃ KK : Int32 → Option Int32, KK = (fun (v5_126 : Int32) => (nm (fun (t0_160 : Bool) => (bf t0_160
    (bnd (some (nI (moN v n l))) (fun r7 => (some (v5_126 + r7))))
    (some (-9 : Int32))))
    (fun k160 => (nm (k160 false)
    (fun k159 => (if v5_126 = (-9 : Int32) then
    k159
    else
    (bnd (some (nI (moN v n l))) (fun r8 => (bnd (some (nI (waN v n l) - nI (tN v))) (fun r9 => (if r9 < (v5_126 + r8) then
    k159
    else
    (k160 true)))))))))))) := ⟨_, rfl⟩
    rw [← eK]
    have e1 := e0' (fun x => l_X3_endAt_44 (nI l) (nI (a - 2 ^ l)) σ KK FU x 0)
    rw [e1]
    obtain ⟨x', p1, p2⟩ := endL hn hv h33 (b := a - 2 ^ l) (l := l) (by omega) (by omega) (K := KK) (fun hb0 => hT _ hb0 z3) 6 0 FU x0 (by omega) (lt_FU (by omega)) i0
    rw [show (0 : Int32) = nI 0 from rfl, p1, eK]
    clear p1 eK e1
    simp only [ckT, bfT, bfF, bndS, bnd2S, nmE]
    rcases p2 with ⟨q1, q2⟩ | ⟨p', m', q1, q2, q3, q4, q5⟩
    · rw [if_pos q1]
      refine ⟨_, rfl, Or.inl ⟨rfl, fun m hm => ?_⟩⟩
      obtain ⟨-, -, -, p', m', -, -, r3⟩ := RWk_i hn hv hm ha0
      refine q2 p' m' r3 ?_
      rcases r3 with ⟨r, -⟩ | ⟨-, r, -⟩
      · exact Or.inl r
      · exact Or.inr r
    · have hdf := dif5 p' q3 l (by omega)
      rw [q4, if_neg (nI9 (by omega)), nI_add]
      simp only [spare_v (show waN v n l < 1000 by omega) (show tN v < 1000 by omega) (show m' + dif p' l + moN v n l < 1000 by omega)]
      have low : ∀ m, RWk n v a l m → m' + dif p' l + moN v n l ≤ m ∧ tN v + m ≤ waN v n l := fun m hm => by
        obtain ⟨-, -, -, p'', m'', r1, r2, r3⟩ := RWk_i hn hv hm ha0
        have := q5 p'' m'' r3 (by
          rcases r3 with ⟨r, -⟩ | ⟨-, r, -⟩
          · exact Or.inl r
          · exact Or.inr r)
        omega
      by_cases ed : tN v + (m' + dif p' l + moN v n l) ≤ waN v n l
      · rw [if_neg (fun z => z ed)]
        have hG : ∀ hG : GSet n v a, SpecE n v a l (nI (m' + dif p' l + moN v n l)) := fun hG => by
          have hR := RWk_mk hG (show l < 6 by omega) hb q1 (by omega)
          rw [← Nat.add_assoc] at hR
          have h60 := (RWk_i hn hv hR ha0).2.2.1
          exact Or.inr ⟨_, rfl, h60, hR, fun m hm => (low m hm).1⟩
        refine ⟨_, rfl, hG ?_⟩
        refine ⟨by omega, fun i hi hbi => ?_⟩
        by_cases z : i = l
        · subst z; exact ⟨hl, hpos⟩
        · rcases q1 with ⟨r, -⟩ | ⟨-, -, r, -⟩
          · have h2 := orPb (a - 2 ^ l) (by omega) l (by omega) i hi
            rw [z2, hbi, r, Nat.zero_testBit, decide_eq_false z] at h2
            cases h2
          · refine r.2 i hi ?_
            have h2 := orPb (a - 2 ^ l) (by omega) l (by omega) i hi
            rw [z2, hbi, decide_eq_false z, Bool.or_false] at h2
            exact h2.symm
      · rw [if_pos ed]
        refine ⟨_, rfl, Or.inl ⟨rfl, fun m hm => ?_⟩⟩
        have := low m hm
        omega
  · rw [if_neg hpos]
    refine ⟨_, rfl, Or.inl ⟨rfl, fun m hm => ?_⟩⟩
    exact hpos (hm.1.2 l (by omega) hb).2
