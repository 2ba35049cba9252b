/-! sets that can be woken, rounds, the greatest number: what the law asks of them -/
section MX
variable {n : Nat} {v : Nat → Int32}
theorem can_of {S : Nat} (hn : n ≤ 6) (hG : GSet n v S) : canV v (nI S) n = true := by
  unfold canV
  refine al_mk n 0 (fun i _ hi => ?_)
  rw [hoB S hG.1 i (by omega)]
  cases hb : S.testBit i
  · rfl
  · have := (hG.2 i (by omega) hb).2
    rw [decide_eq_true this]
    rfl
theorem g_of_and {c x : Nat} (hn : n ≤ 6) (hc : c = bsN (wakB v) n) : GSet n v (c &&& x) := by
  have h64 : c < 64 := by rw [hc]; exact bsN_64 _ hn
  have hle : c &&& x ≤ c := Nat.and_le_left
  refine ⟨by omega, fun i hi hb => ?_⟩
  rw [Nat.testBit_and, Bool.and_eq_true] at hb
  have hb := hb.1
  have hin : i < n := by
    by_cases e : i < n
    · exact e
    · have := outB n (by omega) c h64 (by rw [hc]; exact bsN_lt _ n) i hi (by omega)
      rw [this] at hb
      exact absurd hb (by decide)
  refine ⟨hin, ?_⟩
  rw [hc, bsN_bit _ n hn i hin] at hb
  exact of_decide_eq_true hb
theorem GSet.lt {S : Nat} (hn : n ≤ 6) (hG : GSet n v S) : S < 2 ^ n := by
  have h : ∀ n < 7, ∀ S < 64, (al (fun i => !(S.testBit i) || decide (i < n)) 0 6) = true → S < 2 ^ n := by decide +kernel
  refine h n (by omega) S hG.1 (al_mk 6 0 (fun i _ hi => ?_))
  cases hb : S.testBit i
  · rfl
  · rw [decide_eq_true (hG.2 i (by omega) hb).1]
    rfl
theorem taps_ge (mo : Nat → Nat) (S : Nat) {i : Nat} (hi : i < 6) (hb : S.testBit i = true) : mo i ≤ tapsN mo S := by
  unfold tapsN
  rcases (show i = 0 ∨ i = 1 ∨ i = 2 ∨ i = 3 ∨ i = 4 ∨ i = 5 by omega) with e | e | e | e | e | e <;> subst e <;> rw [if_pos hb] <;> omega
theorem some_bit : ∀ S < 64, 0 < S → al (fun i => !(S.testBit i)) 0 6 = false := by decide +kernel
theorem taps_pos (hv : VW n v) {S : Nat} (hG : GSet n v S) (h0 : 0 < S) : 0 < tapsN (moN v n) S := by
  obtain ⟨i, hi, hb⟩ := al_ex 6 0 (some_bit S hG.1 h0)
  have hb : S.testBit i = true := by
    cases h : S.testBit i
    · rw [h] at hb; exact absurd hb (by decide)
    · rfl
  have := taps_ge (moN v n) S (show i < 6 by omega) hb
  have hp := (moN_v hv (hG.2 i (by omega) hb).1 (hG.2 i (by omega) hb).2).2
  omega
theorem taps_0 (mo : Nat → Nat) : tapsN mo 0 = 0 := by
  unfold tapsN
  simp
/-- the soonest round's minutes as a number -/
theorem soon_n (hn : n ≤ 6) (hv : VW n v) {S : Nat} (hG : GSet n v S) : tapsLeftV v (nI S) n + walkO (nI S) (v 2) = nI (tapsN (moN v n) S + wkN S (pN v)) ∧ tapsN (moN v n) S ≤ 30 ∧ wkN S (pN v) ≤ 10 := by
  obtain ⟨e1, e2⟩ := pN_v hn hv
  obtain ⟨w1, w2⟩ := wk_v S hG.1 _ e2
  rw [taps_eq hn hv hG, e1, w1, nI_add]
  exact ⟨rfl, tapsN30 (moN5 hv) S, w2⟩
/-- a row of houses walks no less than the soonest -/
theorem walk_lb (hn : n ≤ 6) (hv : VW n v) {k c S : Nat} (hor : orD k c = S) {sf : Nat × Nat × Nat × Nat} (hf : FV n v k c = some sf) : ∀ x r, x + r = k → ∃ s, FV n v x (c / 6 ^ r) = some s ∧ s.1 &&& S = s.1 ∧ wkN S (pN v) ≤ s.2.2.2 + wkN (S - s.1) s.2.1 := by
  have hS : S < 64 := by rw [← hor]; exact orD64 _ _
  intro x
  induction x with
  | zero =>
    intro r hr
    refine ⟨(0, pN v, 0, 0), rfl, Nat.zero_and S, ?_⟩
    show wkN S (pN v) ≤ 0 + wkN (S - 0) (pN v)
    rw [Nat.zero_add, Nat.sub_zero]
    exact Nat.le_refl _
  | succ x ih =>
    intro r hr
    obtain ⟨s, h1, h2, h3⟩ := ih (r + 1) (by omega)
    cases hx : FV n v (x + 1) (c / 6 ^ r) with
    | none =>
      have := FS_pre (t := tN v) (p := pN v) (mo := moN v n) (wa := waN v n) (k := k) (c := c) r (x + 1) hr hx
      unfold FV at hf
      rw [this] at hf
      cases hf
    | some s' =>
      obtain ⟨s0, g1, g2⟩ := FS_i (show FS (tN v) (pN v) (moN v n) (waN v n) (x + 1) (c / 6 ^ r) = some s' from hx)
      rw [divP] at g1
      have e0 : s0 = s := Option.some.inj (g1.symm.trans h1)
      subst e0
      obtain ⟨a1, a2, a3⟩ := adv_i g2
      have hall := FS_all (pN_v hn hv).2 (moN5 hv) _ _ _ (show FS (tN v) (pN v) (moN v n) (waN v n) x (c / 6 ^ (r + 1)) = some s0 from h1)
      have hi6 : c / 6 ^ r % 6 < 6 := Nat.mod_lt _ (by decide)
      have hSi : S.testBit (c / 6 ^ r % 6) = true := by rw [← hor]; exact orDd r x hr
      have h64 : s0.1 < 64 := by rw [hall.1]; exact orD64 _ _
      refine ⟨s', rfl, ?_, ?_⟩
      · rw [a3]
        exact sb3 S hS s0.1 h64 h2 _ hi6 hSi
      · have hbit := sb1 S hS s0.1 h64 h2 _ hi6
        rw [hSi, a1] at hbit
        have hlt : S - s0.1 < 64 := by omega
        have hw := wk_s (S - s0.1) hlt _ hi6 hbit s0.2.1 hall.2.2.1
        rw [a3]
        show wkN S (pN v) ≤ (s0.2.2.2 + dif s0.2.1 (c / 6 ^ r % 6)) + wkN (S - (s0.1 ||| 2 ^ (c / 6 ^ r % 6))) (c / 6 ^ r % 6)
        rw [sb2 s0.1 h64 _ hi6 a1, ← Nat.sub_sub]
        omega
theorem best_lb (hn : n ≤ 6) (hv : VW n v) {S : Nat} {b : Nat × Nat} (h : bestN n v S = some b) : wkN S (pN v) ≤ b.1 := by
  obtain ⟨s, h1, h2, h3, -⟩ := best_walk hn hv h
  have hall := FS_all (pN_v hn hv).2 (moN5 hv) _ _ _ (show FS (tN v) (pN v) (moN v n) (waN v n) (pcN S) b.2 = some s from h1)
  obtain ⟨s', g1, -, g3⟩ := walk_lb hn hv (show orD (pcN S) b.2 = S by rw [← hall.1]; exact h2) h1 (pcN S) 0 rfl
  rw [Nat.pow_zero, Nat.div_one] at g1
  have e : s' = s := Option.some.inj (g1.symm.trans h1)
  subst e
  rw [h2, Nat.sub_self, wk_0 _ hall.2.2.1] at g3
  omega
theorem best_0 : bestN n v 0 = some (0, 0) := by
  have e : pcN 0 = 0 := by decide
  unfold bestN
  rw [e]
  rfl
/-- sets all of whose houses can be in time -/
def Feas (n : Nat) (v : Nat → Int32) (S : Nat) : Prop := GSet n v S ∧ (bestN n v S).isSome = true
theorem feas_0 : Feas n v 0 := ⟨⟨by decide, fun i _ h => by rw [Nat.zero_testBit] at h; exact absurd h (by decide)⟩, by rw [best_0]; rfl⟩
theorem many_ok (hn : n ≤ 6) : Feas n v (fo (manyG n v) 1 (2 ^ n - 1) 0) ∧ ∀ a, a < 2 ^ n → Feas n v a → pcN a ≤ pcN (fo (manyG n v) 1 (2 ^ n - 1) 0) := by
  have hp : 0 < 2 ^ n := Nat.two_pow_pos n
  have e0 : pcN 0 = 0 := by decide
  have := fo_ind (g := manyG n v) (I := fun j b => Feas n v b ∧ ∀ a, a < j → a < 2 ^ n → Feas n v a → pcN a ≤ pcN b) (2 ^ n - 1) 1 0 (fun i b h1 h2 h => by
    have hi : i < 2 ^ n := by omega
    have hg : (gB n v i && (bestN n v i).isSome) = true ↔ Feas n v i := by
      rw [Bool.and_eq_true, gB_G hn hi]
      exact Iff.rfl
    unfold manyG
    by_cases e : (gB n v i && (bestN n v i).isSome) = true ∧ pcN b < pcN i
    · rw [if_pos e]
      refine ⟨hg.mp e.1, fun a ha ha2 hF => ?_⟩
      by_cases ea : a = i
      · subst ea; exact Nat.le_refl _
      · have := h.2 a (by omega) ha2 hF
        omega
    · rw [if_neg e]
      refine ⟨h.1, fun a ha ha2 hF => ?_⟩
      by_cases ea : a = i
      · subst ea
        by_cases e2 : pcN b < pcN a
        · exact absurd ⟨hg.mpr hF, e2⟩ e
        · omega
      · exact h.2 a (by omega) ha2 hF) ⟨feas_0, fun a ha _ _ => by
        rw [show a = 0 by omega]
        exact Nat.le_refl _⟩
  exact ⟨this.1, fun a ha hF => this.2 a (by omega) ha hF⟩
theorem feas_enc (hn : n ≤ 6) (hv : VW n v) {S : Nat} (h : Feas n v S) : ∃ b, bestN n v S = some b ∧ b.1 ≤ 30 ∧ encB (tapsN (moN v n) S) (bestN n v S) = nI (b.1 + tapsN (moN v n) S) := by
  cases hb : bestN n v S with
  | none =>
    have := h.2
    rw [hb] at this
    exact absurd this (by decide)
  | some b =>
    obtain ⟨s, -, -, -, h4⟩ := best_walk hn hv hb
    exact ⟨b, rfl, h4, rfl⟩
end MX
theorem andN : ∀ a < 64, ∀ b < 64, nI a &&& nI b = nI (a &&& b) := by decide +kernel
theorem orN : ∀ a < 64, ∀ b < 64, nI a ||| nI b = nI (a ||| b) := by decide +kernel
theorem notN : ∀ a < 64, ∀ b < 64, (nI a &&& (nI b ^^^ (-1 : Int32)) = 0) = (a &&& b = a) := by
  have h : ∀ a < 64, ∀ b < 64, decide (nI a &&& (nI b ^^^ (-1 : Int32)) = 0) = decide (a &&& b = a) := by decide +kernel
  intro a ha b hb
  have := h a ha b hb
  exact propext ⟨fun z => of_decide_eq_true (this.symm.trans (decide_eq_true z)), fun z => of_decide_eq_true (this.trans (decide_eq_true z))⟩
