/-- a set of places as a number -/
def bsN (P : Nat → Bool) : Nat → Nat
  | 0 => 0
  | n + 1 => bsN P n + (if P n then 2 ^ n else 0)
theorem bsN_lt (P : Nat → Bool) (n : Nat) : bsN P n < 2 ^ n := by
  induction n with
  | zero => exact Nat.one_pos
  | succ n ih =>
    show bsN P n + (if P n then 2 ^ n else 0) < 2 ^ (n + 1)
    rw [Nat.pow_succ]
    split <;> omega
theorem orb : ∀ i < 6, ∀ s < 64, s < 2 ^ i → nI s ||| ((1 : Int32) <<< (nI i &&& 31)) = nI (s + 2 ^ i) := by decide +kernel
theorem addb : ∀ k < 6, ∀ s < 64, s < 2 ^ k → ∀ i < 6, (s + 2 ^ k).testBit i = if i = k then true else s.testBit i := by decide +kernel
theorem ltb : ∀ k < 6, ∀ s < 64, s < 2 ^ k → s.testBit k = false := by decide +kernel
theorem p64 {n : Nat} (h : n ≤ 6) : 2 ^ n ≤ 64 := Nat.pow_le_pow_right (by decide) h
theorem bsN_64 (P : Nat → Bool) {n : Nat} (h : n ≤ 6) : bsN P n < 64 := Nat.lt_of_lt_of_le (bsN_lt P n) (p64 h)
theorem bsN_bit (P : Nat → Bool) : ∀ n, n ≤ 6 → ∀ i, i < n → (bsN P n).testBit i = P i := by
  intro n
  induction n with
  | zero => intro _ i hi; omega
  | succ n ih =>
    intro hn i hi
    show (bsN P n + (if P n then 2 ^ n else 0)).testBit i = P i
    have hl := bsN_lt P n
    have h64 := bsN_64 P (show n ≤ 6 by omega)
    cases hp : P n
    · simp only [Bool.false_eq_true, if_false, Nat.add_zero]
      by_cases e : i = n
      · subst e; rw [ltb i (by omega) _ h64 hl, hp]
      · exact ih (by omega) i (by omega)
    · simp only [if_true]
      rw [addb n (by omega) _ h64 hl i (by omega)]
      by_cases e : i = n
      · subst e; rw [if_pos rfl, hp]
      · rw [if_neg e]; exact ih (by omega) i (by omega)
theorem fo_bs (P : Nat → Bool) : ∀ n, n ≤ 6 → fo (fun i (x : Int32) => if P i then x ||| ((1 : Int32) <<< (nI i &&& 31)) else x) 0 n 0 = nI (bsN P n) := by
  intro n
  induction n with
  | zero => intro _; rfl
  | succ n ih =>
    intro hn
    rw [fo_snoc, ih (by omega), Nat.zero_add]
    show (if P n then _ else _) = nI (bsN P n + (if P n then 2 ^ n else 0))
    cases P n
    · rfl
    · simp only [if_true]
      exact orb n (by omega) _ (bsN_64 P (by omega)) (bsN_lt P n)
def bitsV (a : Int32) : Int32 := fo (fun i x => x + ((a >>> (nI i &&& 31)) &&& (1 : Int32))) 0 6 0
theorem bitC : ∀ s < 64, f_J6_bitCount_0f7a4 (nI s) = some (bitsV (nI s)) := by decide +kernel
theorem bitN : ∀ s < 64, ∃ x, x ≤ 6 ∧ bitsV (nI s) = nI x := by
  have h : ∀ s < 64, bitsV (nI s) = nI 0 ∨ bitsV (nI s) = nI 1 ∨ bitsV (nI s) = nI 2 ∨ bitsV (nI s) = nI 3 ∨ bitsV (nI s) = nI 4 ∨ bitsV (nI s) = nI 5 ∨ bitsV (nI s) = nI 6 := by decide +kernel
  intro s hs
  rcases h s hs with e | e | e | e | e | e | e
  · exact ⟨0, by omega, e⟩
  · exact ⟨1, by omega, e⟩
  · exact ⟨2, by omega, e⟩
  · exact ⟨3, by omega, e⟩
  · exact ⟨4, by omega, e⟩
  · exact ⟨5, by omega, e⟩
  · exact ⟨6, by omega, e⟩
theorem othb : ∀ s < 64, ∀ i < 6, (if s.testBit i then bitsV (nI s) - 1 else bitsV (nI s) - 0) = bitsV (nI s &&& (((1 : Int32) <<< (nI i &&& 31)) ^^^ (-1 : Int32))) := by decide +kernel
theorem awSet_n {n : Nat} {v : Nat → Int32} (hn : n ≤ 6) : awakeSetV v n = nI (bsN (awV v) n) := fo_bs (awV v) n hn
/-! deeds -/
theorem stp_walk {n i : Nat} {v : Nat → Int32} (hi : i < 6) : stp n (100 * i) v = walkV i v := by
  unfold stp
  rw [if_pos (by omega), show 100 * i / 100 % 10 = i by omega]
theorem stp_tap {n p : Nat} {v : Nat → Int32} (hp : p < 6) (e : v 2 = nI p) : stp n 1000 v = tapV p v := by
  unfold stp
  rw [if_neg (by decide), if_pos (by decide), e, nI_clamp (by omega)]
theorem stp_slate {n i d : Nat} {v : Nat → Int32} (hi : i < 6) (hd : d < 100) : stp n (2000 + 100 * i + d) v = slateV i d v := by
  unfold stp
  rw [if_neg (by omega), if_neg (by omega), if_pos (by omega), show (2000 + 100 * i + d) / 100 % 10 = i by omega, show (2000 + 100 * i + d) % 100 = d by omega]
theorem stp_frost {n f : Nat} {v : Nat → Int32} (hf : f < 2) : stp n (3000 + f) v = va_up v 3 (nI f) := by
  unfold stp
  rw [if_neg (by omega), if_neg (by omega), if_neg (by omega), if_pos (by omega), show (3000 + f) % 100 = f by omega]
theorem stp_night {n : Nat} {v : Nat → Int32} : stp n 4000 v = nightV n v := by
  unfold stp
  rw [if_neg (by decide), if_neg (by decide), if_neg (by decide), if_neg (by decide)]
theorem code3 (a b c : Nat) : nI a * (1000 : Int32) + nI b * (100 : Int32) + nI c = nI (a * 1000 + b * 100 + c) := by
  rw [show (1000 : Int32) = nI 1000 from rfl, show (100 : Int32) = nI 100 from rfl, nImul, nImul, nI_add, nI_add]
theorem okC_gR {σ σ' : Sg} (h : okC σ) (f : ∀ k, gR σ' k = gR σ k) : okC σ' := by
  unfold okC at h ⊢
  rw [f, f, f]
  exact h
/-- a deed (or undone ones) on both sides -/
theorem Rel_town {σ σ' τ τ' : Sg} {n : Nat} {w : Nat → Int32} {cs : List Nat} (h1 : okC σ) (h2 : gR σ 1 ≠ gR σ 0) (h3 : RRow σ τ) (h4 : RTxt σ τ) (h5 : RFnd σ τ) (t1 : STW n w) (t2 : COK n cs) (hc : CT n w cs (gR σ 0) σ') (hm : MT n w cs τ') (t5 : RKept n w σ τ) (f : FrD (gR σ 0) σ σ') (g : (∀ k, k ≠ 22 → gS τ' k = gS τ k) ∧ (∀ a, a ≠ 9 → a ≠ 10 → gA τ' a = gA τ a) ∧ ∀ k, gL τ' k = gL τ k) : Rel σ' τ' := by
  have hs := h1.1
  unfold isS at hs
  have ej : ∀ j, stI (gR σ 0) j = 7 * gR σ 0 - 2 + j := fun _ => rfl
  have q3 := ej 3
  have q4 := ej 4
  have q5 := ej 5
  have q6 := ej 6
  obtain ⟨f1, f2, f3, f4⟩ := f
  obtain ⟨g1, g2, g3⟩ := g
  refine ⟨okC_gR h1 f4, by rw [f4, f4]; exact h2, ?_, ?_, ?_, n, w, cs, t1, t2, by rw [f4]; exact hc, hm, ?_⟩
  · exact h3.cg (fun k hk => f1 _ (by omega) (by omega) (by omega) (by omega) (by omega)) (fun k hk => f2 _ (by omega) (by omega) (by omega) (by omega)) ⟨g2 _ (by decide) (by decide), g2 _ (by decide) (by decide)⟩
  · exact h4.cg (fun k hk => f1 _ (by omega) (by omega) (by omega) (by omega) (by omega)) (fun k hk => f2 _ (by omega) (by omega) (by omega) (by omega)) ⟨g2 _ (by decide) (by decide), g2 _ (by decide) (by decide)⟩
  · obtain ⟨a1, a2, a3, a4, a5, a6⟩ := h5
    refine ⟨?_, ?_, ?_, ?_, ?_, fun i hi => ?_⟩
    · rw [f1 _ (by omega) (by omega) (by omega) (by omega) (by omega), g1 _ (by omega)]; exact a1
    · rw [f1 _ (by omega) (by omega) (by omega) (by omega) (by omega), g1 _ (by omega)]; exact a2
    · rw [f3, g3]; exact a3
    · rw [f3, g3]; exact a4
    · rw [f1 _ (by omega) (by omega) (by omega) (by omega) (by omega)]; exact a5
    · rw [f2 _ (by omega) (by omega) (by omega) (by omega), g2 _ (by decide) (by decide)]; exact a6 i hi
  · exact t5.cg (fun k hk => f1 _ (by omega) (by omega) (by omega) (by omega) (by omega)) (fun k hk => f2 _ (by omega) (by omega) (by omega) (by omega)) ⟨g2 _ (by decide) (by decide), g2 _ (by decide) (by decide), g2 _ (by decide) (by decide)⟩
theorem frM {τ : Sg} {f g : Nat → Int32} {x : Int32} : (∀ k, k ≠ 22 → gS (pA (pS (pA τ 10 f) 22 x) 9 g) k = gS τ k) ∧ (∀ a, a ≠ 9 → a ≠ 10 → gA (pA (pS (pA τ 10 f) 22 x) 9 g) a = gA τ a) ∧ ∀ k, gL (pA (pS (pA τ 10 f) 22 x) 9 g) k = gL τ k :=
  ⟨fun k hk => by rw [gS_pA, gS_ne _ _ hk, gS_pA], fun a h9 h10 => by rw [gA_ne _ _ h9, gA_pS, gA_ne _ _ h10], fun _ => rfl⟩
theorem X5_isFull_v {σ : Sg} {cs : List Nat} {k : Nat} (h : HD cs (gR σ 0) σ) (hl : cs.length ≤ 40) (hk : k < 100) : f_X5_isFull (nI k) σ = some (decide (¬ cs.length + k ≤ 40)) := by
  unfold f_X5_isFull
  rw [h.1, nI_add, show (40 : Int32) = nI 40 from rfl]
  simp (disch := omega) only [nIle]
  by_cases e : cs.length + k ≤ 40 <;> simp [e]
theorem eq40 {m : Nat} (h : m ≤ 40) : (nI m = (40 : Int32)) = (m = 40) := nIeq (b := 40) (by omega) (by decide)
theorem eq0 {m : Nat} (h : m < 2 ^ 31) : (nI m = (0 : Int32)) = (m = 0) := nIeq (b := 0) h (by decide)
