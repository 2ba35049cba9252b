theorem lNt {n : Nat} (h : n < 2 ^ 62) : (lN n).toInt = (n : Int) := lg_ofNat_toInt (by omega)
theorem lNeq0 {b : Nat} (h : b < 2 ^ 62) : (lN b = 0) = (b = 0) := by
  apply propext
  rw [← Int64.toInt_inj, lNt h]
  have e : (0 : Int64).toInt = 0 := by decide
  omega
theorem lNle0 {b : Nat} (h : b < 2 ^ 62) : (lN b ≤ 0) = (b = 0) := by
  apply propext
  rw [Int64.le_iff_toInt_le, lNt h]
  have e : (0 : Int64).toInt = 0 := by decide
  omega
theorem bmodL {d : Nat} (h : d < 2 ^ 62) : ((d : Int)).bmod (2 ^ 64) = (d : Int) := by
  rw [Int.bmod_def]
  omega
theorem lNdiv {a b : Nat} (ha : a < 2 ^ 62) (hb : b < 2 ^ 62) : lN a / lN b = lN (a / b) := by
  apply Int64.toInt_inj.mp
  have h : a / b ≤ a := Nat.div_le_self a b
  rw [Int64.toInt_div, lNt ha, lNt hb, lNt (by omega)]
  rw [Int.tdiv_eq_ediv_of_nonneg (by omega), ← Int.natCast_ediv]
  exact bmodL (by omega)
theorem lNrem {a b : Nat} (ha : a < 2 ^ 62) (hb : b < 2 ^ 62) : lN a - lN a / lN b * lN b = lN (a % b) := by
  rw [lNdiv ha hb, lN_mul, lN_sub (Nat.div_mul_le_self a b)]
  congr 1
  have := Nat.div_add_mod a b
  rw [Nat.mul_comm] at this
  omega
theorem gcd_st {a b : Nat} (hb : 0 < b) : Nat.gcd a b = Nat.gcd b (a % b) := by
  rw [Nat.gcd_comm a b, Nat.gcd_rec b a, Nat.gcd_comm (a % b) b]
theorem div_C {K : Int64 → Option Int64} : ∀ (k a b j N : Nat), a < 2 ^ 62 → b < 2 ^ 62 → (b = 0 ∨ (b ≤ a ∧ a * b < 2 ^ k)) → j + k ≤ 100 → k < N → l_X5_divisor_3 K N (lN a) (lN b) (nI j) = K (lN (Nat.gcd a b)) := by
  intro k
  induction k with
  | zero =>
    intro a b j N ha hb h hj hN
    obtain ⟨N, rfl⟩ : ∃ k, N = k + 1 := ⟨N - 1, by omega⟩
    have hb0 : b = 0 := by
      rcases h with h | ⟨h1, h2⟩
      · exact h
      · rcases Nat.eq_zero_or_pos b with e | e
        · exact e
        · have := Nat.mul_pos (Nat.lt_of_lt_of_le e h1) e
          omega
    subst hb0
    unfold l_X5_divisor_3
    rw [Nat.gcd_zero_right]
    by_cases e : (100 : Int32) ≤ nI j
    · rw [if_pos e]
    · rw [if_neg e, if_pos (show lg_cmp (lN 0) 0 = 0 from (lg_cmp_eq _ _).mpr rfl)]
  | succ k ih =>
    intro a b j N ha hb h hj hN
    obtain ⟨N, rfl⟩ : ∃ k, N = k + 1 := ⟨N - 1, by omega⟩
    unfold l_X5_divisor_3
    have e : ¬ (100 : Int32) ≤ nI j := nI_ge (b := 100) (by omega) (by decide)
    rw [if_neg e]
    by_cases e0 : b = 0
    · subst e0
      rw [if_pos (show lg_cmp (lN 0) 0 = 0 from (lg_cmp_eq _ _).mpr rfl), Nat.gcd_zero_right]
    · have hne : ¬ lN b = 0 := by rw [lNeq0 hb]; exact e0
      rw [if_neg (fun z => hne ((lg_cmp_eq _ _).mp z)), decide_eq_true hne, ckT, nmE, nmE, lNrem ha hb, nI_1, gcd_st (by omega)]
      obtain ⟨h1, h2⟩ := h.resolve_left e0
      have hlt := Nat.mod_lt a (show b > 0 by omega)
      refine ih b (a % b) (j + 1) N hb (by omega) (Or.inr ⟨by omega, ?_⟩) (by omega) (by omega)
      have h3 : 2 * (a % b) ≤ a := by
        have h4 := Nat.div_add_mod a b
        have h5 : 1 ≤ a / b := (Nat.one_le_div_iff (by omega)).mpr h1
        have h6 : b ≤ b * (a / b) := Nat.le_mul_of_pos_right b h5
        omega
      have h7 : 2 * (b * (a % b)) ≤ a * b := by
        have := Nat.mul_le_mul_left b h3
        rw [Nat.mul_comm b a] at this
        rw [← Nat.mul_assoc, Nat.mul_comm 2 b, Nat.mul_assoc]
        exact this
      have h8 : 2 ^ (k + 1) = 2 * 2 ^ k := by rw [Nat.pow_succ, Nat.mul_comm]
      omega
theorem divisor_v {a b : Nat} (ha : a < 2 ^ 48) (hb : 0 < b) (hb2 : b < 2 ^ 32) : f_X5_divisor (lN a) (lN b) = some (lN (Nat.gcd a b)) := by
  unfold f_X5_divisor
  have e0 : (0 : Int32) = nI 0 := rfl
  rw [e0]
  by_cases h : b ≤ a
  · refine div_C (K := fun v => some v) 90 a b 0 FU (by omega) (by omega) (Or.inr ⟨h, ?_⟩) (by omega) (lt_FU (by omega))
    have h2 := Nat.mul_lt_mul'' ha hb2
    have e : (2 : Nat) ^ 48 * 2 ^ 32 ≤ 2 ^ 90 := by decide
    omega
  · obtain ⟨N, hN⟩ : ∃ N, FU = N + 1 := ⟨FU - 1, by decide⟩
    rw [hN]
    unfold l_X5_divisor_3
    have hne : ¬ lN b = 0 := by rw [lNeq0 (by omega)]; omega
    rw [if_neg (by decide), if_neg (fun z => hne ((lg_cmp_eq _ _).mp z)), decide_eq_true hne, ckT, nmE, nmE, lNrem (by omega) (by omega), gcd_st hb, Nat.mod_eq_of_lt (by omega)]
    have hN2 : 90 < N := by
      have : FU = 1000000000000 := rfl
      omega
    refine div_C (K := fun v => some v) 90 b a 1 N (by omega) (by omega) ?_ (by omega) hN2
    refine Or.inr ⟨by omega, ?_⟩
    have h2 := Nat.mul_lt_mul'' hb2 ha
    have e : (2 : Nat) ^ 32 * 2 ^ 48 ≤ 2 ^ 90 := by decide
    omega
theorem gcd_pos2 {a b : Nat} (hb : 0 < b) : 0 < Nat.gcd a b ∧ Nat.gcd a b ≤ b := ⟨Nat.gcd_pos_of_pos_right a hb, Nat.gcd_le_right a hb⟩
/-- the class's ratio -/
theorem tellRatio_v {σ : Sg} {a b : Nat} (ha : a < 2 ^ 48) (hb : 0 < b) (hb2 : b < 2 ^ 32) : f_X5_tellRatio (lN a) (lN b) σ = some (pL (pL σ 10 (lN a / lN (Nat.gcd a b))) 11 (lN b / lN (Nat.gcd a b))) := by
  obtain ⟨g1, g2⟩ := gcd_pos2 (a := a) hb
  have hne : ¬ lN (Nat.gcd a b) = 0 := by rw [lNeq0 (by omega)]; omega
  have hle : ¬ lg_cmp (lN (Nat.gcd a b)) 0 ≤ 0 := fun z => by
    have := (lg_cmp_le _ _).mp z
    rw [lNle0 (by omega)] at this
    omega
  unfold f_X5_tellRatio
  rw [divisor_v ha hb hb2, bndS, nmE, if_neg hle, decide_eq_true hne, ckT]
  dsimp only
  rw [nmE, if_neg hle, ckT, nmE]
theorem shl1 : ∀ n < 7, (1 : Int32) <<< (nI n &&& 31) = nI (2 ^ n) := by decide
/-- how many, and the least of them -/
def cn (Pq : Nat → Bool) : Nat → Nat → Nat
  | _, 0 => 0
  | j, m + 1 => (if Pq j then 1 else 0) + cn Pq (j + 1) m
def sm (Pq : Nat → Bool) : Nat → Nat → Int32
  | _, 0 => -9
  | j, m + 1 => if Pq j then nI j else sm Pq (j + 1) m
theorem cn_le (Pq : Nat → Bool) : ∀ m j, cn Pq j m ≤ m := by
  intro m
  induction m with
  | zero => intro j; exact Nat.le_refl _
  | succ m ih =>
    intro j
    have := ih (j + 1)
    show (if Pq j then 1 else 0) + cn Pq (j + 1) m ≤ m + 1
    split <;> omega
theorem cn_snoc (Pq : Nat → Bool) : ∀ m j, cn Pq j (m + 1) = cn Pq j m + (if Pq (j + m) then 1 else 0) := by
  intro m
  induction m with
  | zero => intro j; show (if Pq j then 1 else 0) + 0 = 0 + _; rw [Nat.add_zero, Nat.add_zero, Nat.zero_add]
  | succ m ih =>
    intro j
    show (if Pq j then 1 else 0) + cn Pq (j + 1) (m + 1) = (if Pq j then 1 else 0) + cn Pq (j + 1) m + _
    rw [ih, show j + 1 + m = j + (m + 1) by omega, Nat.add_assoc]
theorem sm_snoc (Pq : Nat → Bool) : ∀ m j, sm Pq j (m + 1) = if cn Pq j m = 0 then (if Pq (j + m) then nI (j + m) else -9) else sm Pq j m := by
  intro m
  induction m with
  | zero => intro j; rfl
  | succ m ih =>
    intro j
    show (if Pq j then nI j else sm Pq (j + 1) (m + 1)) = if (if Pq j then 1 else 0) + cn Pq (j + 1) m = 0 then _ else (if Pq j then nI j else sm Pq (j + 1) m)
    cases Pq j
    · simp only [Bool.false_eq_true, if_false, Nat.zero_add]
      rw [ih, show j + 1 + m = j + (m + 1) by omega]
    · simp only [if_true]
      rw [if_neg (by omega)]
theorem setsC {σ : Sg} {n : Nat} {v : Nat → Int32} {a : Int32} {K : Int32 → Int32 → Option (Int32 × Sg)} (hc : HC n v (gR σ 0) σ) : l_X5_sets_33 a σ K FU (-9) 0 0 = K (sm (fun s => decide (feesV v (nI s) n = a)) 0 (2 ^ n)) (nI (cn (fun s => decide (feesV v (nI s) n = a)) 0 (2 ^ n))) := by
  have hn := hc.1
  have h64 := p64 hn
  have := (loopL (fun N j (b : Int32 × Int32) => l_X5_sets_33 a σ K N b.1 b.2 (nI j)) (fun b => K b.1 b.2) (fun j (b : Int32 × Int32) => if feesV v (nI j) n = a then (if b.2 = 0 then nI j else b.1, b.2 + 1) else b) (2 ^ n) (fun j b => b.1 = sm (fun s => decide (feesV v (nI s) n = a)) 0 j ∧ b.2 = nI (cn (fun s => decide (feesV v (nI s) n = a)) 0 j))
    (fun N b _ => by
      show l_X5_sets_33 a σ K (N + 1) b.1 b.2 (nI (2 ^ n)) = _
      unfold l_X5_sets_33
      rw [hc.2.2.1, shl1 n (by omega), if_pos (nI_le (Nat.le_refl _) (by omega))])
    (fun N j b hj hI => by
      refine ⟨?_, ?_⟩
      · show l_X5_sets_33 a σ K (N + 1) b.1 b.2 (nI j) = _
        conv => lhs; unfold l_X5_sets_33
        rw [hc.2.2.1, shl1 n (by omega), if_neg (nI_ge hj (by omega)), X4_fees_v hc]
        simp only [ckT, bfT, bfF, bndS, bnd2S, nmE, nI_1]
        by_cases e : feesV v (nI j) n = a
        · rw [if_pos e, if_pos e]
          by_cases e2 : b.2 = 0
          · rw [if_pos e2, if_pos e2]
          · rw [if_neg e2, if_neg e2]
        · rw [if_neg e, if_neg e]
      · obtain ⟨i1, i2⟩ := hI
        have hcl := cn_le (fun s => decide (feesV v (nI s) n = a)) j 0
        rw [sm_snoc, cn_snoc, Nat.zero_add]
        by_cases e : feesV v (nI j) n = a
        · rw [if_pos e, i1, i2]
          simp only [e, decide_true, if_true, eq0 (show cn (fun s => decide (feesV v (nI s) n = a)) 0 j < 2 ^ 31 by omega)]
          exact ⟨trivial, nI_1 _⟩
        · rw [if_neg e]
          simp only [e, decide_false, Bool.false_eq_true, if_false, Nat.add_zero]
          refine ⟨?_, i2⟩
          rw [i1]
          by_cases e2 : cn (fun s => decide (feesV v (nI s) n = a)) 0 j = 0
          · rw [if_pos e2]
            clear i1 i2 hcl
            have : ∀ m i, cn (fun s => decide (feesV v (nI s) n = a)) i m = 0 → sm (fun s => decide (feesV v (nI s) n = a)) i m = -9 := by
              intro m
              induction m with
              | zero => intro i _; rfl
              | succ m ih =>
                intro i hh
                have hh : (if decide (feesV v (nI i) n = a) = true then 1 else 0) + cn (fun s => decide (feesV v (nI s) n = a)) (i + 1) m = 0 := hh
                show (if decide (feesV v (nI i) n = a) = true then nI i else sm (fun s => decide (feesV v (nI s) n = a)) (i + 1) m) = -9
                by_cases ei : decide (feesV v (nI i) n = a) = true
                · rw [if_pos ei] at hh; omega
                · rw [if_neg ei]
                  exact ih (i + 1) (by omega)
            exact this j 0 e2
          · rw [if_neg e2])
    (2 ^ n) 0 FU (-9, 0) (by omega) (lt_FU (by omega)) ⟨rfl, rfl⟩)
  refine this.1.trans ?_
  rw [this.2.1, this.2.2]
theorem sub1 : ∀ n < 7, (1 : Int32) <<< (nI n &&& 31) - 1 = nI (2 ^ n - 1) := by decide
theorem sureC {σ : Sg} {n : Nat} {v : Nat → Int32} {a x : Int32} {K : Int32 → Int32 → Int32 → Option (Int32 × Sg)} (hc : HC n v (gR σ 0) σ) : l_X5_sure_48 a (nI (2 ^ n - 1)) σ K FU x 0 0 0 = (fun (b : Int32 × Int32 × Int32) => K b.1 b.2.1 b.2.2) (fo (fun j (b : Int32 × Int32 × Int32) => if feesV v (nI j) n = a then (b.1 &&& nI j, b.2.1 ||| nI j, b.2.2 + 1) else b) 0 (2 ^ n) (x, 0, 0)) := by
  have hn := hc.1
  have h64 := p64 hn
  have hp : 1 ≤ 2 ^ n := Nat.one_le_two_pow
  exact loopP (fun N j (b : Int32 × Int32 × Int32) => l_X5_sure_48 a (nI (2 ^ n - 1)) σ K N b.1 b.2.1 b.2.2 (nI j)) (fun b => K b.1 b.2.1 b.2.2) _ (2 ^ n)
    (fun N b => by
      show l_X5_sure_48 a (nI (2 ^ n - 1)) σ K (N + 1) b.1 b.2.1 b.2.2 (nI (2 ^ n)) = _
      unfold l_X5_sure_48
      rw [if_pos (nI_lt (by omega) (by omega))])
    (fun N j b hj => by
      show l_X5_sure_48 a (nI (2 ^ n - 1)) σ K (N + 1) b.1 b.2.1 b.2.2 (nI j) = _
      conv => lhs; unfold l_X5_sure_48
      rw [if_neg (nI_nlt (by omega) (by omega)), X4_fees_v hc]
      simp only [ckT, bfT, bfF, bndS, bnd2S, nmE, nI_1]
      split <;> rfl) (2 ^ n) 0 FU (x, 0, 0) (by omega) (lt_FU (by omega))
