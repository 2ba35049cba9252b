theorem bmodN {d : Nat} (h : d < 2 ^ 31) : ((d : Int)).bmod (2 ^ 32) = (d : Int) := by
  rw [Int.bmod_def]
  omega
theorem nIdiv {a b : Nat} (ha : a < 2 ^ 31) (hb : b < 2 ^ 31) : nI a / nI b = nI (a / b) := by
  apply Int32.toInt_inj.mp
  have h : a / b ≤ a := Nat.div_le_self a b
  rw [Int32.toInt_div, nI_toInt ha, nI_toInt hb, nI_toInt (by omega)]
  rw [Int.tdiv_eq_ediv_of_nonneg (by omega), ← Int.natCast_ediv]
  exact bmodN (by omega)
theorem nIrem {a b : Nat} (ha : a < 2 ^ 31) (hb : b < 2 ^ 31) : nI a - nI a / nI b * nI b = nI (a % b) := by
  rw [nIdiv ha hb, nImul, nIsub (Nat.div_mul_le_self a b)]
  congr 1
  have := Nat.div_add_mod a b
  rw [Nat.mul_comm] at this
  omega
/-- the code of a deed: 1000 * what + 100 * door + value -/
def cok (n c : Nat) : Prop := 0 < n ∧ c < 5000 ∧ c / 100 % 10 < n ∧ (c / 1000 = 3 → c % 100 < 2)
def tapV (p : Nat) (v : Nat → Int32) : Nat → Int32 :=
  if awV v p = true ∨ dueV v p = -9 ∨ v (11 + p) + 1 < dueV v p then va_up (va_up v 0 (v 0 + 1)) (11 + p) (v (11 + p) + 1)
  else va_up (va_up (va_up (va_up v 0 (v 0 + 1)) (11 + p) (v (11 + p) + 1)) (17 + p) (v (5 + p))) 4 (mmin 9999 (v 4 + feeV (v (23 + p))))
def walkV (d : Nat) (v : Nat → Int32) : Nat → Int32 := va_up (va_up v 0 (v 0 + mabs (nI d - v 2))) 2 (nI d)
def slateV (d x : Nat) (v : Nat → Int32) : Nat → Int32 := va_up (va_up v (5 + d) (nI x)) (11 + d) 0
def slpV (n : Nat) (v : Nat → Int32) : Nat → Int32 := fun k => if k = 0 then 0 else if k = 2 then 0 else if 11 ≤ k ∧ k < 11 + n then 0 else if 17 ≤ k ∧ k < 17 + n then -9 else v k
theorem slpV_o {n k : Nat} {v : Nat → Int32} (h0 : k ≠ 0) (h2 : k ≠ 2) (h3 : ¬ (11 ≤ k ∧ k < 11 + n)) (h4 : ¬ (17 ≤ k ∧ k < 17 + n)) : slpV n v k = v k := by unfold slpV; rw [if_neg h0, if_neg h2, if_neg h3, if_neg h4]
theorem slpV_t {n i : Nat} {v : Nat → Int32} (hi : i < n) : slpV n v (11 + i) = 0 := by unfold slpV; rw [if_neg (by omega), if_neg (by omega), if_pos (by omega)]
theorem slpV_y {n i : Nat} {v : Nat → Int32} (hn : n ≤ 6) (hi : i < n) : slpV n v (17 + i) = -9 := by unfold slpV; rw [if_neg (by omega), if_neg (by omega), if_neg (by omega), if_pos (by omega)]
def nightV (n : Nat) (v : Nat → Int32) : Nat → Int32 := slpV n (va_up v 1 (v 1 + 1))
def stp (n c : Nat) (v : Nat → Int32) : Nat → Int32 :=
  if c / 1000 = 0 then walkV (c / 100 % 10) v else if c / 1000 = 1 then tapV (v 2).toNatClampNeg v else if c / 1000 = 2 then slateV (c / 100 % 10) (c % 100) v else if c / 1000 = 3 then va_up v 3 (nI (c % 100)) else nightV n v
/-- what a deed leaves as it was -/
def FrC (s : Nat) (σ σ' : Sg) : Prop := (∀ k, ¬ (16 * s + 10 ≤ k ∧ k ≤ 16 * s + 14) → k ≠ 16 * stI s 3 + 1 → k ≠ 16 * stI s 4 + 1 → k ≠ 16 * stI s 5 + 1 → gS σ' k = gS σ k) ∧ (∀ a, a ≠ stI s 3 → a ≠ stI s 4 → a ≠ stI s 5 → gA σ' a = gA σ a) ∧ (∀ k, gL σ' k = gL σ k) ∧ ∀ k, gR σ' k = gR σ k
theorem FrC.rf (s : Nat) (σ : Sg) : FrC s σ σ := ⟨fun _ _ _ _ _ => rfl, fun _ _ _ _ => rfl, fun _ => rfl, fun _ => rfl⟩
theorem FrC.tr {s : Nat} {a b c : Sg} (h : FrC s a b) (g : FrC s b c) : FrC s a c := ⟨fun k h1 h2 h3 h4 => (g.1 k h1 h2 h3 h4).trans (h.1 k h1 h2 h3 h4), fun k h1 h2 h3 => (g.2.1 k h1 h2 h3).trans (h.2.1 k h1 h2 h3), fun k => (g.2.2.1 k).trans (h.2.2.1 k), fun k => (g.2.2.2 k).trans (h.2.2.2 k)⟩
theorem FrC.s {s k : Nat} {x : Int32} {σ : Sg} (hk : (16 * s + 10 ≤ k ∧ k ≤ 16 * s + 14) ∨ k = 16 * stI s 3 + 1 ∨ k = 16 * stI s 4 + 1 ∨ k = 16 * stI s 5 + 1) : FrC s σ (pS σ k x) := ⟨fun j h1 h2 h3 h4 => gS_ne _ _ (by intro e; subst e; omega), fun _ _ _ _ => rfl, fun _ => rfl, fun _ => rfl⟩
theorem FrC.a {s a : Nat} {f : Nat → Int32} {σ : Sg} (ha : a = stI s 3 ∨ a = stI s 4 ∨ a = stI s 5) : FrC s σ (pA σ a f) := ⟨fun _ _ _ _ _ => rfl, fun j h1 h2 h3 => gA_ne _ _ (by intro e; subst e; omega), fun _ => rfl, fun _ => rfl⟩
section SC
variable {n : Nat} {v : Nat → Int32} {s : Nat} {σ : Sg}
theorem HC.congr {v' : Nat → Int32} (h : HC n v s σ) (hk : ∀ k, k < 5 → v k = v' k) (h2 : ∀ k, 23 ≤ k → v k = v' k) (hi : ∀ i, i < n → v (5 + i) = v' (5 + i) ∧ v (11 + i) = v' (11 + i) ∧ v (17 + i) = v' (17 + i)) : HC n v' s σ := by
  obtain ⟨a, b, c, ⟨d1, d2, d3, d4, d5, d6, d7⟩, e, f⟩ := h
  refine ⟨a, b, c, ⟨?_, ?_, ?_, ?_, ?_, ?_, ?_⟩, e, fun i hi' => ?_⟩
  · rw [d1, h2 _ (by omega)]
  · rw [d2, h2 _ (by omega)]
  · rw [d3, hk _ (by omega)]
  · rw [d4, hk _ (by omega)]
  · rw [d5, hk _ (by omega)]
  · rw [d6, hk _ (by omega)]
  · rw [d7, hk _ (by omega)]
  · obtain ⟨f1, f2, f3, f4, f5, f6⟩ := f i hi'
    obtain ⟨g1, g2, g3⟩ := hi i hi'
    rw [f1, f2, f3, f4, f5, f6, h2 _ (by omega), h2 _ (by omega), h2 _ (by omega), g1, g2, g3]
    exact ⟨rfl, rfl, rfl, rfl, rfl, rfl⟩
theorem HC.p10 (h : HC n v s σ) (x : Int32) : HC n (va_up v 3 x) s (pS σ (16 * s + 10) x) := by
  have hn := h.1
  have hs := h.2.1
  unfold isS at hs
  have e0 : stI s 0 = 7 * s - 2 + 0 := rfl
  have e1 : stI s 1 = 7 * s - 2 + 1 := rfl
  have e2 : stI s 2 = 7 * s - 2 + 2 := rfl
  have e3 : stI s 3 = 7 * s - 2 + 3 := rfl
  have e4 : stI s 4 = 7 * s - 2 + 4 := rfl
  have e5 : stI s 5 = 7 * s - 2 + 5 := rfl
  have ej : ∀ j, stI s j = 7 * s - 2 + j := fun _ => rfl
  obtain ⟨a, b, c, ⟨d1, d2, d3, d4, d5, d6, d7⟩, e, f⟩ := h
  refine ⟨a, b, (gS_ne _ _ (by omega)).trans c, ⟨((gS_ne _ _ (by omega)).trans d1).trans (va_up_ne _ _ (by omega)).symm, ((gS_ne _ _ (by omega)).trans d2).trans (va_up_ne _ _ (by omega)).symm, (gS_same _ _ _).trans (va_up_self _ _ _).symm, ((gS_ne _ _ (by omega)).trans d4).trans (va_up_ne _ _ (by omega)).symm, ((gS_ne _ _ (by omega)).trans d5).trans (va_up_ne _ _ (by omega)).symm, ((gS_ne _ _ (by omega)).trans d6).trans (va_up_ne _ _ (by omega)).symm, ((gS_ne _ _ (by omega)).trans d7).trans (va_up_ne _ _ (by omega)).symm⟩, fun j hj h0 => (gS_ne _ _ (by have := ej j; omega)).trans (e j hj h0), fun i hi => ?_⟩
  obtain ⟨f1, f2, f3, f4, f5, f6⟩ := f i hi
  simp only [gA_pS]
  rw [f1, f2, f3, f4, f5, f6]
  exact ⟨(va_up_ne _ _ (by omega)).symm, (va_up_ne _ _ (by omega)).symm, (va_up_ne _ _ (by omega)).symm, (va_up_ne _ _ (by omega)).symm, (va_up_ne _ _ (by omega)).symm, (va_up_ne _ _ (by omega)).symm⟩
theorem HC.p11 (h : HC n v s σ) (x : Int32) : HC n (va_up v 0 x) s (pS σ (16 * s + 11) x) := by
  have hn := h.1
  have hs := h.2.1
  unfold isS at hs
  have e0 : stI s 0 = 7 * s - 2 + 0 := rfl
  have e1 : stI s 1 = 7 * s - 2 + 1 := rfl
  have e2 : stI s 2 = 7 * s - 2 + 2 := rfl
  have e3 : stI s 3 = 7 * s - 2 + 3 := rfl
  have e4 : stI s 4 = 7 * s - 2 + 4 := rfl
  have e5 : stI s 5 = 7 * s - 2 + 5 := rfl
  have ej : ∀ j, stI s j = 7 * s - 2 + j := fun _ => rfl
  obtain ⟨a, b, c, ⟨d1, d2, d3, d4, d5, d6, d7⟩, e, f⟩ := h
  refine ⟨a, b, (gS_ne _ _ (by omega)).trans c, ⟨((gS_ne _ _ (by omega)).trans d1).trans (va_up_ne _ _ (by omega)).symm, ((gS_ne _ _ (by omega)).trans d2).trans (va_up_ne _ _ (by omega)).symm, ((gS_ne _ _ (by omega)).trans d3).trans (va_up_ne _ _ (by omega)).symm, (gS_same _ _ _).trans (va_up_self _ _ _).symm, ((gS_ne _ _ (by omega)).trans d5).trans (va_up_ne _ _ (by omega)).symm, ((gS_ne _ _ (by omega)).trans d6).trans (va_up_ne _ _ (by omega)).symm, ((gS_ne _ _ (by omega)).trans d7).trans (va_up_ne _ _ (by omega)).symm⟩, fun j hj h0 => (gS_ne _ _ (by have := ej j; omega)).trans (e j hj h0), fun i hi => ?_⟩
  obtain ⟨f1, f2, f3, f4, f5, f6⟩ := f i hi
  simp only [gA_pS]
  rw [f1, f2, f3, f4, f5, f6]
  exact ⟨(va_up_ne _ _ (by omega)).symm, (va_up_ne _ _ (by omega)).symm, (va_up_ne _ _ (by omega)).symm, (va_up_ne _ _ (by omega)).symm, (va_up_ne _ _ (by omega)).symm, (va_up_ne _ _ (by omega)).symm⟩
theorem HC.p12 (h : HC n v s σ) (x : Int32) : HC n (va_up v 1 x) s (pS σ (16 * s + 12) x) := by
  have hn := h.1
  have hs := h.2.1
  unfold isS at hs
  have e0 : stI s 0 = 7 * s - 2 + 0 := rfl
  have e1 : stI s 1 = 7 * s - 2 + 1 := rfl
  have e2 : stI s 2 = 7 * s - 2 + 2 := rfl
  have e3 : stI s 3 = 7 * s - 2 + 3 := rfl
  have e4 : stI s 4 = 7 * s - 2 + 4 := rfl
  have e5 : stI s 5 = 7 * s - 2 + 5 := rfl
  have ej : ∀ j, stI s j = 7 * s - 2 + j := fun _ => rfl
  obtain ⟨a, b, c, ⟨d1, d2, d3, d4, d5, d6, d7⟩, e, f⟩ := h
  refine ⟨a, b, (gS_ne _ _ (by omega)).trans c, ⟨((gS_ne _ _ (by omega)).trans d1).trans (va_up_ne _ _ (by omega)).symm, ((gS_ne _ _ (by omega)).trans d2).trans (va_up_ne _ _ (by omega)).symm, ((gS_ne _ _ (by omega)).trans d3).trans (va_up_ne _ _ (by omega)).symm, ((gS_ne _ _ (by omega)).trans d4).trans (va_up_ne _ _ (by omega)).symm, (gS_same _ _ _).trans (va_up_self _ _ _).symm, ((gS_ne _ _ (by omega)).trans d6).trans (va_up_ne _ _ (by omega)).symm, ((gS_ne _ _ (by omega)).trans d7).trans (va_up_ne _ _ (by omega)).symm⟩, fun j hj h0 => (gS_ne _ _ (by have := ej j; omega)).trans (e j hj h0), fun i hi => ?_⟩
  obtain ⟨f1, f2, f3, f4, f5, f6⟩ := f i hi
  simp only [gA_pS]
  rw [f1, f2, f3, f4, f5, f6]
  exact ⟨(va_up_ne _ _ (by omega)).symm, (va_up_ne _ _ (by omega)).symm, (va_up_ne _ _ (by omega)).symm, (va_up_ne _ _ (by omega)).symm, (va_up_ne _ _ (by omega)).symm, (va_up_ne _ _ (by omega)).symm⟩
theorem HC.p13 (h : HC n v s σ) (x : Int32) : HC n (va_up v 2 x) s (pS σ (16 * s + 13) x) := by
  have hn := h.1
  have hs := h.2.1
  unfold isS at hs
  have e0 : stI s 0 = 7 * s - 2 + 0 := rfl
  have e1 : stI s 1 = 7 * s - 2 + 1 := rfl
  have e2 : stI s 2 = 7 * s - 2 + 2 := rfl
  have e3 : stI s 3 = 7 * s - 2 + 3 := rfl
  have e4 : stI s 4 = 7 * s - 2 + 4 := rfl
  have e5 : stI s 5 = 7 * s - 2 + 5 := rfl
  have ej : ∀ j, stI s j = 7 * s - 2 + j := fun _ => rfl
  obtain ⟨a, b, c, ⟨d1, d2, d3, d4, d5, d6, d7⟩, e, f⟩ := h
  refine ⟨a, b, (gS_ne _ _ (by omega)).trans c, ⟨((gS_ne _ _ (by omega)).trans d1).trans (va_up_ne _ _ (by omega)).symm, ((gS_ne _ _ (by omega)).trans d2).trans (va_up_ne _ _ (by omega)).symm, ((gS_ne _ _ (by omega)).trans d3).trans (va_up_ne _ _ (by omega)).symm, ((gS_ne _ _ (by omega)).trans d4).trans (va_up_ne _ _ (by omega)).symm, ((gS_ne _ _ (by omega)).trans d5).trans (va_up_ne _ _ (by omega)).symm, (gS_same _ _ _).trans (va_up_self _ _ _).symm, ((gS_ne _ _ (by omega)).trans d7).trans (va_up_ne _ _ (by omega)).symm⟩, fun j hj h0 => (gS_ne _ _ (by have := ej j; omega)).trans (e j hj h0), fun i hi => ?_⟩
  obtain ⟨f1, f2, f3, f4, f5, f6⟩ := f i hi
  simp only [gA_pS]
  rw [f1, f2, f3, f4, f5, f6]
  exact ⟨(va_up_ne _ _ (by omega)).symm, (va_up_ne _ _ (by omega)).symm, (va_up_ne _ _ (by omega)).symm, (va_up_ne _ _ (by omega)).symm, (va_up_ne _ _ (by omega)).symm, (va_up_ne _ _ (by omega)).symm⟩
theorem HC.p14 (h : HC n v s σ) (x : Int32) : HC n (va_up v 4 x) s (pS σ (16 * s + 14) x) := by
  have hn := h.1
  have hs := h.2.1
  unfold isS at hs
  have e0 : stI s 0 = 7 * s - 2 + 0 := rfl
  have e1 : stI s 1 = 7 * s - 2 + 1 := rfl
  have e2 : stI s 2 = 7 * s - 2 + 2 := rfl
  have e3 : stI s 3 = 7 * s - 2 + 3 := rfl
  have e4 : stI s 4 = 7 * s - 2 + 4 := rfl
  have e5 : stI s 5 = 7 * s - 2 + 5 := rfl
  have ej : ∀ j, stI s j = 7 * s - 2 + j := fun _ => rfl
  obtain ⟨a, b, c, ⟨d1, d2, d3, d4, d5, d6, d7⟩, e, f⟩ := h
  refine ⟨a, b, (gS_ne _ _ (by omega)).trans c, ⟨((gS_ne _ _ (by omega)).trans d1).trans (va_up_ne _ _ (by omega)).symm, ((gS_ne _ _ (by omega)).trans d2).trans (va_up_ne _ _ (by omega)).symm, ((gS_ne _ _ (by omega)).trans d3).trans (va_up_ne _ _ (by omega)).symm, ((gS_ne _ _ (by omega)).trans d4).trans (va_up_ne _ _ (by omega)).symm, ((gS_ne _ _ (by omega)).trans d5).trans (va_up_ne _ _ (by omega)).symm, ((gS_ne _ _ (by omega)).trans d6).trans (va_up_ne _ _ (by omega)).symm, (gS_same _ _ _).trans (va_up_self _ _ _).symm⟩, fun j hj h0 => (gS_ne _ _ (by have := ej j; omega)).trans (e j hj h0), fun i hi => ?_⟩
  obtain ⟨f1, f2, f3, f4, f5, f6⟩ := f i hi
  simp only [gA_pS]
  rw [f1, f2, f3, f4, f5, f6]
  exact ⟨(va_up_ne _ _ (by omega)).symm, (va_up_ne _ _ (by omega)).symm, (va_up_ne _ _ (by omega)).symm, (va_up_ne _ _ (by omega)).symm, (va_up_ne _ _ (by omega)).symm, (va_up_ne _ _ (by omega)).symm⟩
theorem HC.a3 (h : HC n v s σ) {i0 : Nat} (hi0 : i0 < n) (x : Int32) : HC n (va_up v (5 + i0) x) s (pA σ (stI s 3) (upd (gA σ (stI s 3)) i0 x)) := by
  have hn := h.1
  have hs := h.2.1
  unfold isS at hs
  have e0 : stI s 0 = 7 * s - 2 + 0 := rfl
  have e1 : stI s 1 = 7 * s - 2 + 1 := rfl
  have e2 : stI s 2 = 7 * s - 2 + 2 := rfl
  have e3 : stI s 3 = 7 * s - 2 + 3 := rfl
  have e4 : stI s 4 = 7 * s - 2 + 4 := rfl
  have e5 : stI s 5 = 7 * s - 2 + 5 := rfl
  have ej : ∀ j, stI s j = 7 * s - 2 + j := fun _ => rfl
  obtain ⟨a, b, c, ⟨d1, d2, d3, d4, d5, d6, d7⟩, e, f⟩ := h
  refine ⟨a, b, c, ⟨d1.trans (va_up_ne _ _ (by omega)).symm, d2.trans (va_up_ne _ _ (by omega)).symm, d3.trans (va_up_ne _ _ (by omega)).symm, d4.trans (va_up_ne _ _ (by omega)).symm, d5.trans (va_up_ne _ _ (by omega)).symm, d6.trans (va_up_ne _ _ (by omega)).symm, d7.trans (va_up_ne _ _ (by omega)).symm⟩, e, fun i hi => ?_⟩
  obtain ⟨f1, f2, f3, f4, f5, f6⟩ := f i hi
  refine ⟨?_, ?_, ?_, ?_, ?_, ?_⟩
  · rw [gA_ne _ _ (by omega), f1, va_up_ne _ _ (by omega)]
  · rw [gA_ne _ _ (by omega), f2, va_up_ne _ _ (by omega)]
  · rw [gA_ne _ _ (by omega), f3, va_up_ne _ _ (by omega)]
  · rw [gA_same]
    unfold upd
    by_cases z : i = i0
    · subst z; rw [if_pos rfl, va_up_self]
    · rw [if_neg z, f4, va_up_ne _ _ (by omega)]
  · rw [gA_ne _ _ (by omega), f5, va_up_ne _ _ (by omega)]
  · rw [gA_ne _ _ (by omega), f6, va_up_ne _ _ (by omega)]
theorem HC.f3 (h : HC n v s σ) {w : Nat → Int32} {v' : Nat → Int32} (hw : ∀ i, i < n → w i = v' (5 + i)) (hne : ∀ k, ¬ (5 ≤ k ∧ k < 5 + n) → v k = v' k) : HC n v' s (pA (pS σ (16 * stI s 3 + 1) (nI n)) (stI s 3) w) := by
  have hn := h.1
  have hs := h.2.1
  unfold isS at hs
  have e0 : stI s 0 = 7 * s - 2 + 0 := rfl
  have e1 : stI s 1 = 7 * s - 2 + 1 := rfl
  have e2 : stI s 2 = 7 * s - 2 + 2 := rfl
  have e3 : stI s 3 = 7 * s - 2 + 3 := rfl
  have e4 : stI s 4 = 7 * s - 2 + 4 := rfl
  have e5 : stI s 5 = 7 * s - 2 + 5 := rfl
  have ej : ∀ j, stI s j = 7 * s - 2 + j := fun _ => rfl
  obtain ⟨a, b, c, ⟨d1, d2, d3, d4, d5, d6, d7⟩, e, f⟩ := h
  refine ⟨a, b, (gS_ne _ _ (by omega)).trans c, ⟨((gS_ne _ _ (by omega)).trans d1).trans (hne _ (by omega)), ((gS_ne _ _ (by omega)).trans d2).trans (hne _ (by omega)), ((gS_ne _ _ (by omega)).trans d3).trans (hne _ (by omega)), ((gS_ne _ _ (by omega)).trans d4).trans (hne _ (by omega)), ((gS_ne _ _ (by omega)).trans d5).trans (hne _ (by omega)), ((gS_ne _ _ (by omega)).trans d6).trans (hne _ (by omega)), ((gS_ne _ _ (by omega)).trans d7).trans (hne _ (by omega))⟩, fun j hj h0 => ?_, fun i hi => ?_⟩
  · show gS (pS σ (16 * stI s 3 + 1) (nI n)) (16 * stI s j + 1) = nI n
    by_cases z : 16 * stI s j + 1 = 16 * stI s 3 + 1
    · rw [z, gS_same]
    · rw [gS_ne _ _ z]; exact e j hj h0
  obtain ⟨f1, f2, f3, f4, f5, f6⟩ := f i hi
  refine ⟨?_, ?_, ?_, ?_, ?_, ?_⟩
  · rw [gA_ne _ _ (by omega), gA_pS, f1, hne _ (by omega)]
  · rw [gA_ne _ _ (by omega), gA_pS, f2, hne _ (by omega)]
  · rw [gA_ne _ _ (by omega), gA_pS, f3, hne _ (by omega)]
  · rw [gA_same, hw i hi]
  · rw [gA_ne _ _ (by omega), gA_pS, f5, hne _ (by omega)]
  · rw [gA_ne _ _ (by omega), gA_pS, f6, hne _ (by omega)]
theorem HC.a4 (h : HC n v s σ) {i0 : Nat} (hi0 : i0 < n) (x : Int32) : HC n (va_up v (11 + i0) x) s (pA σ (stI s 4) (upd (gA σ (stI s 4)) i0 x)) := by
  have hn := h.1
  have hs := h.2.1
  unfold isS at hs
  have e0 : stI s 0 = 7 * s - 2 + 0 := rfl
  have e1 : stI s 1 = 7 * s - 2 + 1 := rfl
  have e2 : stI s 2 = 7 * s - 2 + 2 := rfl
  have e3 : stI s 3 = 7 * s - 2 + 3 := rfl
  have e4 : stI s 4 = 7 * s - 2 + 4 := rfl
  have e5 : stI s 5 = 7 * s - 2 + 5 := rfl
  have ej : ∀ j, stI s j = 7 * s - 2 + j := fun _ => rfl
  obtain ⟨a, b, c, ⟨d1, d2, d3, d4, d5, d6, d7⟩, e, f⟩ := h
  refine ⟨a, b, c, ⟨d1.trans (va_up_ne _ _ (by omega)).symm, d2.trans (va_up_ne _ _ (by omega)).symm, d3.trans (va_up_ne _ _ (by omega)).symm, d4.trans (va_up_ne _ _ (by omega)).symm, d5.trans (va_up_ne _ _ (by omega)).symm, d6.trans (va_up_ne _ _ (by omega)).symm, d7.trans (va_up_ne _ _ (by omega)).symm⟩, e, fun i hi => ?_⟩
  obtain ⟨f1, f2, f3, f4, f5, f6⟩ := f i hi
  refine ⟨?_, ?_, ?_, ?_, ?_, ?_⟩
  · rw [gA_ne _ _ (by omega), f1, va_up_ne _ _ (by omega)]
  · rw [gA_ne _ _ (by omega), f2, va_up_ne _ _ (by omega)]
  · rw [gA_ne _ _ (by omega), f3, va_up_ne _ _ (by omega)]
  · rw [gA_ne _ _ (by omega), f4, va_up_ne _ _ (by omega)]
  · rw [gA_same]
    unfold upd
    by_cases z : i = i0
    · subst z; rw [if_pos rfl, va_up_self]
    · rw [if_neg z, f5, va_up_ne _ _ (by omega)]
  · rw [gA_ne _ _ (by omega), f6, va_up_ne _ _ (by omega)]
theorem HC.f4 (h : HC n v s σ) {w : Nat → Int32} {v' : Nat → Int32} (hw : ∀ i, i < n → w i = v' (11 + i)) (hne : ∀ k, ¬ (11 ≤ k ∧ k < 11 + n) → v k = v' k) : HC n v' s (pA (pS σ (16 * stI s 4 + 1) (nI n)) (stI s 4) w) := by
  have hn := h.1
  have hs := h.2.1
  unfold isS at hs
  have e0 : stI s 0 = 7 * s - 2 + 0 := rfl
  have e1 : stI s 1 = 7 * s - 2 + 1 := rfl
  have e2 : stI s 2 = 7 * s - 2 + 2 := rfl
  have e3 : stI s 3 = 7 * s - 2 + 3 := rfl
  have e4 : stI s 4 = 7 * s - 2 + 4 := rfl
  have e5 : stI s 5 = 7 * s - 2 + 5 := rfl
  have ej : ∀ j, stI s j = 7 * s - 2 + j := fun _ => rfl
  obtain ⟨a, b, c, ⟨d1, d2, d3, d4, d5, d6, d7⟩, e, f⟩ := h
  refine ⟨a, b, (gS_ne _ _ (by omega)).trans c, ⟨((gS_ne _ _ (by omega)).trans d1).trans (hne _ (by omega)), ((gS_ne _ _ (by omega)).trans d2).trans (hne _ (by omega)), ((gS_ne _ _ (by omega)).trans d3).trans (hne _ (by omega)), ((gS_ne _ _ (by omega)).trans d4).trans (hne _ (by omega)), ((gS_ne _ _ (by omega)).trans d5).trans (hne _ (by omega)), ((gS_ne _ _ (by omega)).trans d6).trans (hne _ (by omega)), ((gS_ne _ _ (by omega)).trans d7).trans (hne _ (by omega))⟩, fun j hj h0 => ?_, fun i hi => ?_⟩
  · show gS (pS σ (16 * stI s 4 + 1) (nI n)) (16 * stI s j + 1) = nI n
    by_cases z : 16 * stI s j + 1 = 16 * stI s 4 + 1
    · rw [z, gS_same]
    · rw [gS_ne _ _ z]; exact e j hj h0
  obtain ⟨f1, f2, f3, f4, f5, f6⟩ := f i hi
  refine ⟨?_, ?_, ?_, ?_, ?_, ?_⟩
  · rw [gA_ne _ _ (by omega), gA_pS, f1, hne _ (by omega)]
  · rw [gA_ne _ _ (by omega), gA_pS, f2, hne _ (by omega)]
  · rw [gA_ne _ _ (by omega), gA_pS, f3, hne _ (by omega)]
  · rw [gA_ne _ _ (by omega), gA_pS, f4, hne _ (by omega)]
  · rw [gA_same, hw i hi]
  · rw [gA_ne _ _ (by omega), gA_pS, f6, hne _ (by omega)]
theorem HC.a5 (h : HC n v s σ) {i0 : Nat} (hi0 : i0 < n) (x : Int32) : HC n (va_up v (17 + i0) x) s (pA σ (stI s 5) (upd (gA σ (stI s 5)) i0 x)) := by
  have hn := h.1
  have hs := h.2.1
  unfold isS at hs
  have e0 : stI s 0 = 7 * s - 2 + 0 := rfl
  have e1 : stI s 1 = 7 * s - 2 + 1 := rfl
  have e2 : stI s 2 = 7 * s - 2 + 2 := rfl
  have e3 : stI s 3 = 7 * s - 2 + 3 := rfl
  have e4 : stI s 4 = 7 * s - 2 + 4 := rfl
  have e5 : stI s 5 = 7 * s - 2 + 5 := rfl
  have ej : ∀ j, stI s j = 7 * s - 2 + j := fun _ => rfl
  obtain ⟨a, b, c, ⟨d1, d2, d3, d4, d5, d6, d7⟩, e, f⟩ := h
  refine ⟨a, b, c, ⟨d1.trans (va_up_ne _ _ (by omega)).symm, d2.trans (va_up_ne _ _ (by omega)).symm, d3.trans (va_up_ne _ _ (by omega)).symm, d4.trans (va_up_ne _ _ (by omega)).symm, d5.trans (va_up_ne _ _ (by omega)).symm, d6.trans (va_up_ne _ _ (by omega)).symm, d7.trans (va_up_ne _ _ (by omega)).symm⟩, e, fun i hi => ?_⟩
  obtain ⟨f1, f2, f3, f4, f5, f6⟩ := f i hi
  refine ⟨?_, ?_, ?_, ?_, ?_, ?_⟩
  · rw [gA_ne _ _ (by omega), f1, va_up_ne _ _ (by omega)]
  · rw [gA_ne _ _ (by omega), f2, va_up_ne _ _ (by omega)]
  · rw [gA_ne _ _ (by omega), f3, va_up_ne _ _ (by omega)]
  · rw [gA_ne _ _ (by omega), f4, va_up_ne _ _ (by omega)]
  · rw [gA_ne _ _ (by omega), f5, va_up_ne _ _ (by omega)]
  · rw [gA_same]
    unfold upd
    by_cases z : i = i0
    · subst z; rw [if_pos rfl, va_up_self]
    · rw [if_neg z, f6, va_up_ne _ _ (by omega)]
theorem HC.f5 (h : HC n v s σ) {w : Nat → Int32} {v' : Nat → Int32} (hw : ∀ i, i < n → w i = v' (17 + i)) (hne : ∀ k, ¬ (17 ≤ k ∧ k < 17 + n) → v k = v' k) : HC n v' s (pA (pS σ (16 * stI s 5 + 1) (nI n)) (stI s 5) w) := by
  have hn := h.1
  have hs := h.2.1
  unfold isS at hs
  have e0 : stI s 0 = 7 * s - 2 + 0 := rfl
  have e1 : stI s 1 = 7 * s - 2 + 1 := rfl
  have e2 : stI s 2 = 7 * s - 2 + 2 := rfl
  have e3 : stI s 3 = 7 * s - 2 + 3 := rfl
  have e4 : stI s 4 = 7 * s - 2 + 4 := rfl
  have e5 : stI s 5 = 7 * s - 2 + 5 := rfl
  have ej : ∀ j, stI s j = 7 * s - 2 + j := fun _ => rfl
  obtain ⟨a, b, c, ⟨d1, d2, d3, d4, d5, d6, d7⟩, e, f⟩ := h
  refine ⟨a, b, (gS_ne _ _ (by omega)).trans c, ⟨((gS_ne _ _ (by omega)).trans d1).trans (hne _ (by omega)), ((gS_ne _ _ (by omega)).trans d2).trans (hne _ (by omega)), ((gS_ne _ _ (by omega)).trans d3).trans (hne _ (by omega)), ((gS_ne _ _ (by omega)).trans d4).trans (hne _ (by omega)), ((gS_ne _ _ (by omega)).trans d5).trans (hne _ (by omega)), ((gS_ne _ _ (by omega)).trans d6).trans (hne _ (by omega)), ((gS_ne _ _ (by omega)).trans d7).trans (hne _ (by omega))⟩, fun j hj h0 => ?_, fun i hi => ?_⟩
  · show gS (pS σ (16 * stI s 5 + 1) (nI n)) (16 * stI s j + 1) = nI n
    by_cases z : 16 * stI s j + 1 = 16 * stI s 5 + 1
    · rw [z, gS_same]
    · rw [gS_ne _ _ z]; exact e j hj h0
  obtain ⟨f1, f2, f3, f4, f5, f6⟩ := f i hi
  refine ⟨?_, ?_, ?_, ?_, ?_, ?_⟩
  · rw [gA_ne _ _ (by omega), gA_pS, f1, hne _ (by omega)]
  · rw [gA_ne _ _ (by omega), gA_pS, f2, hne _ (by omega)]
  · rw [gA_ne _ _ (by omega), gA_pS, f3, hne _ (by omega)]
  · rw [gA_ne _ _ (by omega), gA_pS, f4, hne _ (by omega)]
  · rw [gA_ne _ _ (by omega), gA_pS, f5, hne _ (by omega)]
  · rw [gA_same, hw i hi]
theorem X0_fill_st (h : HC n v s σ) {j : Nat} (hj : j < 6) (w : Int32) : f_X0_fill (stI s j) (nI n) w σ = some (pA (pS σ (16 * stI s j + 1) (nI n)) (stI s j) (fun i => if i < n then w else gA σ (stI s j) i)) :=
  X0_fill_i (by rw [cLen_st h.2.1 hj]; exact h.1)
theorem X4_sleep_v (h : HC n v s σ) : ∃ σ', f_X4_sleep s σ = some σ' ∧ HC n (slpV n v) s σ' ∧ FrC s σ σ' := by
  have hn := h.1
  have hs := h.2.1
  unfold isS at hs
  have e3 : stI s 3 = 7 * s - 2 + 3 := rfl
  have e4 : stI s 4 = 7 * s - 2 + 4 := rfl
  have e5 : stI s 5 = 7 * s - 2 + 5 := rfl
  unfold f_X4_sleep
  rw [h.2.2.1, X0_fill_st h (by decide), bndS]
  have h1 := h.f4 (w := fun i => if i < n then 0 else gA σ (stI s 4) i) (v' := fun k => if 11 ≤ k ∧ k < 11 + n then 0 else v k) (fun i hi => by rw [if_pos hi, if_pos (by omega)]) (fun k hk => by rw [if_neg hk])
  have g1 : FrC s σ (pA (pS σ (16 * stI s 4 + 1) (nI n)) (stI s 4) (fun i => if i < n then 0 else gA σ (stI s 4) i)) := (FrC.s (Or.inr (Or.inr (Or.inl rfl)))).tr (FrC.a (Or.inr (Or.inl rfl)))
  generalize (pA (pS σ (16 * stI s 4 + 1) (nI n)) (stI s 4) (fun i => if i < n then 0 else gA σ (stI s 4) i)) = σ1 at h1 g1 ⊢
  rw [h1.2.2.1, X0_fill_st h1 (by decide), bndS]
  have h2 := h1.f5 (w := fun i => if i < n then -9 else gA σ1 (stI s 5) i) (v' := fun k => if 17 ≤ k ∧ k < 17 + n then -9 else if 11 ≤ k ∧ k < 11 + n then 0 else v k) (fun i hi => by rw [if_pos hi, if_pos (by omega)]) (fun k hk => by rw [if_neg hk])
  have g2 : FrC s σ1 (pA (pS σ1 (16 * stI s 5 + 1) (nI n)) (stI s 5) (fun i => if i < n then -9 else gA σ1 (stI s 5) i)) := (FrC.s (Or.inr (Or.inr (Or.inr rfl)))).tr (FrC.a (Or.inr (Or.inr rfl)))
  generalize (pA (pS σ1 (16 * stI s 5 + 1) (nI n)) (stI s 5) (fun i => if i < n then -9 else gA σ1 (stI s 5) i)) = σ2 at h2 g2 ⊢
  simp only [nmE]
  refine ⟨_, rfl, ?_, ((g1.tr g2).tr (FrC.s (Or.inl (by omega)))).tr (FrC.s (Or.inl (by omega)))⟩
  refine ((h2.p11 0).p13 0).congr (fun k hk => ?_) (fun k hk => ?_) (fun i hi => ?_)
  · simp only [va_up, slpV]
    repeat' split
    all_goals first | rfl | omega
  · simp only [va_up, slpV]
    repeat' split
    all_goals first | rfl | omega
  · simp only [va_up, slpV]
    refine ⟨?_, ?_, ?_⟩
    all_goals (repeat' split)
    all_goals first | rfl | omega
theorem X4_hear_v (h : HC n v s σ) {p : Nat} (hp : p < n) : ∃ σ', f_X4_hear s (nI p) σ = some σ' ∧ FrC s σ σ' ∧
    HC n (if awV v p = true ∨ dueV v p = -9 ∨ v (11 + p) + 1 < dueV v p then va_up v (11 + p) (v (11 + p) + 1) else va_up (va_up (va_up v (11 + p) (v (11 + p) + 1)) (17 + p) (v (5 + p))) 4 (mmin 9999 (v 4 + feeV (v (23 + p))))) s σ' := by
  have hn := h.1
  have hs := h.2.1
  unfold f_X4_hear
  rw [h.g4 hp, bndS, X0_set_i (h.2.2.2.2.1 4 (by decide) (by omega)) (by rw [cLen_st h.2.1 (by decide)]; exact hn) hp, bndS]
  have h1 := h.a4 hp (v (11 + p) + 1)
  have g1 : FrC s σ (pA σ (stI s 4) (upd (gA σ (stI s 4)) p (v (11 + p) + 1))) := FrC.a (Or.inr (Or.inl rfl))
  generalize (pA σ (stI s 4) (upd (gA σ (stI s 4)) p (v (11 + p) + 1))) = σ1 at h1 g1 ⊢
  rw [h1.g3 hp, bndS, X4_tapsFor_v h1 hp, bndS, X4_isAwake_v h1 hp, bndS, h1.g4 hp, bndS, bndS]
  have a1 : awV (va_up v (11 + p) (v (11 + p) + 1)) p = awV v p := by unfold awV; rw [va_up_ne _ _ (by omega)]
  have a2 : tapsV (va_up v (11 + p) (v (11 + p) + 1) (23 + p)) (va_up v (11 + p) (v (11 + p) + 1) (5 + p)) (va_up v (11 + p) (v (11 + p) + 1) 3) = dueV v p := by unfold dueV; rw [va_up_ne _ _ (by omega), va_up_ne _ _ (by omega), va_up_ne _ _ (by omega)]
  rw [a1, a2, va_up_self]
  cases hb : awV v p
  · rw [bfF]
    by_cases hd : dueV v p = -9
    · rw [if_pos hd, if_pos (Or.inr (Or.inl hd))]
      exact ⟨_, rfl, g1, h1⟩
    · rw [if_neg hd]
      by_cases hl : v (11 + p) + 1 < dueV v p
      · rw [if_pos hl, if_pos (Or.inr (Or.inr hl))]
        exact ⟨_, rfl, g1, h1⟩
      · have hcn : ¬ (false = true ∨ dueV v p = -9 ∨ v (11 + p) + 1 < dueV v p) := fun z => z.elim (fun y => by cases y) (fun y => y.elim hd hl)
        rw [if_neg hl, if_neg hcn]
        rw [X0_set_i (h1.2.2.2.2.1 5 (by decide) (by omega)) (by rw [cLen_st h.2.1 (by decide)]; exact hn) hp, bndS]
        have h2 := h1.a5 hp (va_up v (11 + p) (v (11 + p) + 1) (5 + p))
        rw [va_up_ne v _ (show 5 + p ≠ 11 + p by omega)] at h2 ⊢
        have g2 : FrC s σ1 (pA σ1 (stI s 5) (upd (gA σ1 (stI s 5)) p (v (5 + p)))) := FrC.a (Or.inr (Or.inr rfl))
        generalize (pA σ1 (stI s 5) (upd (gA σ1 (stI s 5)) p (v (5 + p)))) = σ2 at h2 g2 ⊢
        rw [X4_fee_v h2 hp, bndS, nmE, h2.2.2.2.1.2.2.2.2.2.2]
        refine ⟨_, rfl, (g1.tr g2).tr (FrC.s (Or.inl (by omega))), ?_⟩
        have := h2.p14 (mmin 9999 (va_up (va_up v (11 + p) (v (11 + p) + 1)) (17 + p) (v (5 + p)) 4 + feeV (va_up (va_up v (11 + p) (v (11 + p) + 1)) (17 + p) (v (5 + p)) (23 + p))))
        rw [va_up_ne _ _ (show 4 ≠ 17 + p by omega), va_up_ne _ _ (show 4 ≠ 11 + p by omega), va_up_ne _ _ (show 23 + p ≠ 17 + p by omega), va_up_ne _ _ (show 23 + p ≠ 11 + p by omega)] at this
        rw [va_up_ne _ _ (show 4 ≠ 17 + p by omega), va_up_ne _ _ (show 4 ≠ 11 + p by omega), va_up_ne _ _ (show 23 + p ≠ 17 + p by omega), va_up_ne _ _ (show 23 + p ≠ 11 + p by omega)]
        exact this
  · rw [bfT, if_pos (Or.inl rfl)]
    exact ⟨_, rfl, g1, h1⟩
theorem X4_perform_v {b : Nat} (h : HC n v s σ) (hv : VWb b n v) {c : Nat} (hc : cok n c) : ∃ σ', f_X4_perform s (nI c) σ = some σ' ∧ HC n (stp n c v) s σ' ∧ FrC s σ σ' := by
  have hn := h.1
  have hs := h.2.1
  obtain ⟨c0, c1, c2, c3⟩ := hc
  have q1 : nI c / (100 : Int32) = nI (c / 100) := nIdiv (b := 100) (by omega) (by decide)
  have q2 : nI c / (1000 : Int32) = nI (c / 1000) := nIdiv (b := 1000) (by omega) (by decide)
  have q3 : nI (c / 100) - nI (c / 100) / (10 : Int32) * (10 : Int32) = nI (c / 100 % 10) := nIrem (b := 10) (by omega) (by decide)
  have q4 : nI c - nI c / (100 : Int32) * (100 : Int32) = nI (c % 100) := nIrem (b := 100) (by omega) (by decide)
  have z : ∀ (k : Nat) (j : Int32), j = nI k → k < 5 → (nI (c / 1000) = j) = (c / 1000 = k) := fun k j e hk => by rw [e]; exact nIeq (by omega) (by omega)
  unfold f_X4_perform stp
  rw [q4, q1, q2, q3]
  simp only [nmE, z 0 0 rfl (by decide), z 1 1 rfl (by decide), z 2 2 rfl (by decide), z 3 3 rfl (by decide)]
  by_cases k0 : c / 1000 = 0
  · rw [if_pos k0, if_pos k0]
    refine ⟨_, rfl, ?_, (FrC.s (Or.inl (by omega))).tr (FrC.s (Or.inl (by omega)))⟩
    rw [h.2.2.2.1.2.2.2.1, h.2.2.2.1.2.2.2.2.2.1]
    exact (h.p11 _).p13 _
  rw [if_neg k0, if_neg k0]
  by_cases k1 : c / 1000 = 1
  · rw [if_pos k1, if_pos k1, h.2.2.2.1.2.2.2.1]
    obtain ⟨p, hp, ep⟩ := hv.2.2.1
    have hp' : p < n := by omega
    have h1 := h.p11 (v 0 + 1)
    have g1 : FrC s σ (pS σ (16 * s + 11) (v 0 + 1)) := FrC.s (Or.inl (by omega))
    generalize (pS σ (16 * s + 11) (v 0 + 1)) = σ1 at h1 g1 ⊢
    obtain ⟨σ2, e2, g2, h2⟩ := X4_hear_v h1 hp'
    rw [h1.2.2.2.1.2.2.2.2.2.1, va_up_ne _ _ (by decide), ep, e2, bndS]
    refine ⟨_, rfl, ?_, g1.tr g2⟩
    rw [nI_clamp (by omega)]
    unfold tapV
    have b1 : awV (va_up v 0 (v 0 + 1)) p = awV v p := by unfold awV; rw [va_up_ne _ _ (by omega)]
    have b2 : dueV (va_up v 0 (v 0 + 1)) p = dueV v p := by unfold dueV; rw [va_up_ne _ _ (by omega), va_up_ne _ _ (by omega), va_up_ne _ _ (by omega)]
    rw [b1, b2, va_up_ne _ _ (show 11 + p ≠ 0 by omega), va_up_ne _ _ (show 5 + p ≠ 0 by omega), va_up_ne _ _ (show 4 ≠ 0 by omega), va_up_ne _ _ (show 23 + p ≠ 0 by omega)] at h2
    exact h2
  rw [if_neg k1, if_neg k1]
  by_cases k2 : c / 1000 = 2
  · rw [if_pos k2, if_pos k2, X0_set_i (h.2.2.2.2.1 3 (by decide) (by omega)) (by rw [cLen_st h.2.1 (by decide)]; exact hn) c2, bndS]
    have h1 := h.a3 c2 (nI (c % 100))
    have g1 : FrC s σ (pA σ (stI s 3) (upd (gA σ (stI s 3)) (c / 100 % 10) (nI (c % 100)))) := FrC.a (Or.inl rfl)
    generalize (pA σ (stI s 3) (upd (gA σ (stI s 3)) (c / 100 % 10) (nI (c % 100)))) = σ1 at h1 g1 ⊢
    rw [X0_set_i (h1.2.2.2.2.1 4 (by decide) (by omega)) (by rw [cLen_st h.2.1 (by decide)]; exact hn) c2, bndS]
    exact ⟨_, rfl, h1.a4 c2 0, g1.tr (FrC.a (Or.inr (Or.inl rfl)))⟩
  rw [if_neg k2, if_neg k2]
  by_cases k3 : c / 1000 = 3
  · rw [if_pos k3, if_pos k3]
    exact ⟨_, rfl, h.p10 _, FrC.s (Or.inl (by omega))⟩
  rw [if_neg k3, if_neg k3]
  have h1 := h.p12 (v 1 + 1)
  rw [h.2.2.2.1.2.2.2.2.1]
  have g1 : FrC s σ (pS σ (16 * s + 12) (v 1 + 1)) := FrC.s (Or.inl (by omega))
  obtain ⟨σ2, e2, h2, g2⟩ := X4_sleep_v h1
  rw [e2, bndS]
  exact ⟨_, rfl, h2, g1.tr g2⟩
end SC
/-! ranges -/
theorem mabs6 : ∀ a < 6, ∀ b < 6, ∃ x, x < 6 ∧ mabs (nI a - nI b) = nI x := by
  have h : ∀ a < 6, ∀ b < 6, mabs (nI a - nI b) = nI 0 ∨ mabs (nI a - nI b) = nI 1 ∨ mabs (nI a - nI b) = nI 2 ∨ mabs (nI a - nI b) = nI 3 ∨ mabs (nI a - nI b) = nI 4 ∨ mabs (nI a - nI b) = nI 5 := by decide +kernel
  intro a ha b hb
  rcases h a ha b hb with e | e | e | e | e | e
  · exact ⟨0, by omega, e⟩
  · exact ⟨1, by omega, e⟩
  · exact ⟨2, by omega, e⟩
  · exact ⟨3, by omega, e⟩
  · exact ⟨4, by omega, e⟩
  · exact ⟨5, by omega, e⟩
theorem fee_rg {k : Nat} : ∃ x, x < 6 ∧ feeV (nI k) = nI x := by
  unfold feeV
  repeat' split
  · exact ⟨2, by omega, rfl⟩
  · exact ⟨0, by omega, rfl⟩
  · exact ⟨5, by omega, rfl⟩
  · exact ⟨1, by omega, rfl⟩
theorem VWb.mono {b b' n : Nat} {v : Nat → Int32} (h : VWb b n v) (hb : b ≤ b') : VWb b' n v := by
  obtain ⟨h1, h2, h3, h4, ⟨m, hm, em⟩, ⟨k, hk, ek⟩, h7⟩ := h
  refine ⟨h1, h2, h3, h4, ⟨m, by omega, em⟩, ⟨k, by omega, ek⟩, fun i hi => ?_⟩
  obtain ⟨a, b, c, ⟨t, ht, et⟩, d⟩ := h7 i hi
  exact ⟨a, b, c, ⟨t, by omega, et⟩, d⟩
theorem VWb_stp {b n : Nat} {v : Nat → Int32} (h : VWb b n v) {c : Nat} (hc : cok n c) (hb : b < 40) (hn : n ≤ 6) : VWb (b + 1) n (stp n c v) := by
  obtain ⟨c0, c1, c2, c3⟩ := hc
  obtain ⟨h3, ⟨u, hu, eu⟩, ⟨p, hp, ep⟩, ⟨q, hq, eq⟩, ⟨m, hm, em⟩, ⟨t, ht, et⟩, hi⟩ := h
  have hp' : p < n := by omega
  unfold stp
  by_cases k0 : c / 1000 = 0
  · rw [if_pos k0]
    unfold walkV
    obtain ⟨x, hx, ex⟩ := mabs6 (c / 100 % 10) (by omega) p (by omega)
    refine ⟨h3, ⟨u, hu, eu⟩, ⟨c / 100 % 10, Or.inl c2, va_up_self _ _ _⟩, ⟨q, hq, eq⟩, ⟨m + x, by omega, ?_⟩, ⟨t, by omega, et⟩, fun i hi' => ?_⟩
    · rw [va_up_ne _ _ (by decide), va_up_self, em, ep, ex, nI_add]
    · simp only [va_up_ne _ _ (show 23 + i ≠ 2 by omega), va_up_ne _ _ (show 23 + i ≠ 0 by omega), va_up_ne _ _ (show 29 + i ≠ 2 by omega), va_up_ne _ _ (show 29 + i ≠ 0 by omega), va_up_ne _ _ (show 5 + i ≠ 2 by omega), va_up_ne _ _ (show 5 + i ≠ 0 by omega), va_up_ne _ _ (show 11 + i ≠ 2 by omega), va_up_ne _ _ (show 11 + i ≠ 0 by omega), va_up_ne _ _ (show 17 + i ≠ 2 by omega), va_up_ne _ _ (show 17 + i ≠ 0 by omega)]
      obtain ⟨a1, a2, a3, ⟨z, hz, ez⟩, a5⟩ := hi i hi'
      exact ⟨a1, a2, a3, ⟨z, by omega, ez⟩, a5⟩
  rw [if_neg k0]
  by_cases k1 : c / 1000 = 1
  · rw [if_pos k1, ep, nI_clamp (by omega)]
    have hT : VWb (b + 1) n (va_up (va_up v 0 (v 0 + 1)) (11 + p) (v (11 + p) + 1)) := by
      refine ⟨?_, ⟨u, hu, ?_⟩, ⟨p, hp, ?_⟩, ⟨q, hq, ?_⟩, ⟨m + 1, by omega, ?_⟩, ⟨t, by omega, ?_⟩, fun i hi' => ?_⟩
      · rw [va_up_ne _ _ (by omega), va_up_ne _ _ (by omega)]; exact h3
      · rw [va_up_ne _ _ (by omega), va_up_ne _ _ (by omega)]; exact eu
      · rw [va_up_ne _ _ (by omega), va_up_ne _ _ (by omega)]; exact ep
      · rw [va_up_ne _ _ (by omega), va_up_ne _ _ (by omega)]; exact eq
      · rw [va_up_ne _ _ (by omega), va_up_self, em]; exact nI_1 m
      · rw [va_up_ne _ _ (by omega), va_up_ne _ _ (by omega)]; exact et
      · obtain ⟨a1, a2, a3, ⟨z, hz, ez⟩, a5⟩ := hi i hi'
        rw [va_up_ne _ _ (show 23 + i ≠ 11 + p by omega), va_up_ne _ _ (show 23 + i ≠ 0 by omega), va_up_ne _ _ (show 29 + i ≠ 11 + p by omega), va_up_ne _ _ (show 29 + i ≠ 0 by omega), va_up_ne _ _ (show 5 + i ≠ 11 + p by omega), va_up_ne _ _ (show 5 + i ≠ 0 by omega), va_up_ne _ _ (show 17 + i ≠ 11 + p by omega), va_up_ne _ _ (show 17 + i ≠ 0 by omega)]
        refine ⟨a1, a2, a3, ?_, a5⟩
        by_cases e : i = p
        · subst e
          exact ⟨z + 1, by omega, by rw [va_up_self, ez]; exact nI_1 z⟩
        · exact ⟨z, by omega, by rw [va_up_ne _ _ (by omega), va_up_ne _ _ (by omega)]; exact ez⟩
    unfold tapV
    by_cases hcnd : awV v p = true ∨ dueV v p = -9 ∨ v (11 + p) + 1 < dueV v p
    · rw [if_pos hcnd]; exact hT
    · rw [if_neg hcnd]
      obtain ⟨⟨kk, hkk, ekk⟩, -, ⟨dd, hdd, edd⟩, -⟩ := hi p hp'
      obtain ⟨f, hf, ef⟩ := fee_rg (k := kk)
      generalize va_up (va_up v 0 (v 0 + 1)) (11 + p) (v (11 + p) + 1) = w at hT ⊢
      obtain ⟨t3, t4, ⟨r, hr, er⟩, t35, ⟨m', hm', em'⟩, ⟨t', ht', et'⟩, ti⟩ := hT
      have e99 : (9999 : Int32) = nI 9999 := rfl
      refine ⟨?_, ⟨min 9999 (u + f), by omega, ?_⟩, ⟨r, hr, ?_⟩, ?_, ⟨m', hm', ?_⟩, ⟨t', ht', ?_⟩, fun i hi' => ?_⟩
      · rw [va_up_ne _ _ (by omega), va_up_ne _ _ (by omega)]; exact t3
      · rw [va_up_self, eu, ekk, ef, nI_add, e99, mmin_n (by omega) (by omega)]
      · rw [va_up_ne _ _ (by omega), va_up_ne _ _ (by omega)]; exact er
      · rw [va_up_ne _ _ (by omega), va_up_ne _ _ (by omega)]; exact t35
      · rw [va_up_ne _ _ (by omega), va_up_ne _ _ (by omega)]; exact em'
      · rw [va_up_ne _ _ (by omega), va_up_ne _ _ (by omega)]; exact et'
      · rw [va_up_ne _ _ (show 23 + i ≠ 4 by omega), va_up_ne _ _ (show 23 + i ≠ 17 + p by omega), va_up_ne _ _ (show 29 + i ≠ 4 by omega), va_up_ne _ _ (show 29 + i ≠ 17 + p by omega), va_up_ne _ _ (show 5 + i ≠ 4 by omega), va_up_ne _ _ (show 5 + i ≠ 17 + p by omega), va_up_ne _ _ (show 11 + i ≠ 4 by omega), va_up_ne _ _ (show 11 + i ≠ 17 + p by omega), va_up_ne _ _ (show 17 + i ≠ 4 by omega)]
        obtain ⟨a1, a2, a3, a4, a5⟩ := ti i hi'
        refine ⟨a1, a2, a3, a4, ?_⟩
        by_cases e : i = p
        · subst e
          rw [va_up_self]
          exact Or.inr ⟨dd, hdd, edd⟩
        · rw [va_up_ne _ _ (by omega)]; exact a5
  rw [if_neg k1]
  by_cases k2 : c / 1000 = 2
  · rw [if_pos k2]
    unfold slateV
    refine ⟨?_, ⟨u, hu, ?_⟩, ⟨p, hp, ?_⟩, ⟨q, hq, ?_⟩, ⟨m, by omega, ?_⟩, ⟨t, by omega, ?_⟩, fun i hi' => ?_⟩
    · rw [va_up_ne _ _ (by omega), va_up_ne _ _ (by omega)]; exact h3
    · rw [va_up_ne _ _ (by omega), va_up_ne _ _ (by omega)]; exact eu
    · rw [va_up_ne _ _ (by omega), va_up_ne _ _ (by omega)]; exact ep
    · rw [va_up_ne _ _ (by omega), va_up_ne _ _ (by omega)]; exact eq
    · rw [va_up_ne _ _ (by omega), va_up_ne _ _ (by omega)]; exact em
    · rw [va_up_ne _ _ (by omega), va_up_ne _ _ (by omega)]; exact et
    · obtain ⟨a1, a2, a3, ⟨z, hz, ez⟩, a5⟩ := hi i hi'
      generalize hdo : c / 100 % 10 = d at c2
      rw [va_up_ne _ _ (show 23 + i ≠ 11 + d by omega), va_up_ne _ _ (show 23 + i ≠ 5 + d by omega), va_up_ne _ _ (show 29 + i ≠ 11 + d by omega), va_up_ne _ _ (show 29 + i ≠ 5 + d by omega), va_up_ne _ _ (show 5 + i ≠ 11 + d by omega), va_up_ne _ _ (show 17 + i ≠ 11 + d by omega), va_up_ne _ _ (show 17 + i ≠ 5 + d by omega)]
      refine ⟨a1, a2, ?_, ?_, a5⟩
      · by_cases e : i = d
        · subst e; exact ⟨c % 100, by omega, va_up_self _ _ _⟩
        · rw [va_up_ne _ _ (by omega)]; exact a3
      · by_cases e : i = d
        · subst e; exact ⟨0, by omega, va_up_self _ _ _⟩
        · exact ⟨z, by omega, by rw [va_up_ne _ _ (by omega), va_up_ne _ _ (by omega)]; exact ez⟩
  rw [if_neg k2]
  by_cases k3 : c / 1000 = 3
  · rw [if_pos k3]
    refine ⟨?_, ⟨u, hu, eu⟩, ⟨p, hp, ep⟩, ⟨q, hq, eq⟩, ⟨m, by omega, em⟩, ⟨t, by omega, et⟩, fun i hi' => ?_⟩
    · rw [va_up_self]
      have := c3 k3
      rcases (show c % 100 = 0 ∨ c % 100 = 1 by omega) with e | e
      · rw [e]; exact Or.inl rfl
      · rw [e]; exact Or.inr rfl
    · obtain ⟨a1, a2, a3, ⟨z, hz, ez⟩, a5⟩ := hi i hi'
      rw [va_up_ne _ _ (show 23 + i ≠ 3 by omega), va_up_ne _ _ (show 29 + i ≠ 3 by omega), va_up_ne _ _ (show 5 + i ≠ 3 by omega), va_up_ne _ _ (show 11 + i ≠ 3 by omega), va_up_ne _ _ (show 17 + i ≠ 3 by omega)]
      exact ⟨a1, a2, a3, ⟨z, by omega, ez⟩, a5⟩
  rw [if_neg k3]
  unfold nightV
  refine ⟨h3, ⟨u, hu, ?_⟩, ⟨0, Or.inr rfl, rfl⟩, ⟨q, hq, ?_⟩, ⟨0, by omega, rfl⟩, ⟨t + 1, by omega, ?_⟩, fun i hi' => ?_⟩
  · exact eu
  · rw [slpV_o (by omega) (by omega) (by omega) (by omega), va_up_ne _ _ (by omega)]; exact eq
  · rw [slpV_o (by omega) (by omega) (by omega) (by omega), va_up_self, et]; exact nI_1 t
  · obtain ⟨a1, a2, a3, a4, a5⟩ := hi i hi'
    refine ⟨?_, ?_, ?_, ⟨0, by omega, ?_⟩, Or.inl ?_⟩
    · rw [slpV_o (by omega) (by omega) (by omega) (by omega), va_up_ne _ _ (by omega)]; exact a1
    · rw [slpV_o (by omega) (by omega) (by omega) (by omega), va_up_ne _ _ (by omega)]; exact a2
    · rw [slpV_o (by omega) (by omega) (by omega) (by omega), va_up_ne _ _ (by omega)]; exact a3
    · exact slpV_t hi'
    · exact slpV_y hn hi' 
