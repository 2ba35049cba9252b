/-! a way along numbers -/
def tv (a : Nat → Nat) : Nat → Nat
  | 0 => 0
  | j + 1 => tv a j + dif (a (j + 1)) (a j)
theorem tv_d (a : Nat → Nat) (i : Nat) : ∀ d, tv a i + dif (a i) (a (i + d)) ≤ tv a (i + d) := by
  intro d
  induction d with
  | zero => rw [Nat.add_zero]; unfold dif; omega
  | succ d ih =>
    show tv a i + dif (a i) (a (i + (d + 1))) ≤ tv a (i + d) + dif (a (i + d + 1)) (a (i + d))
    rw [show i + (d + 1) = i + d + 1 by omega]
    unfold dif at *
    omega
theorem tv_ge (a : Nat → Nat) {i j : Nat} (h : i ≤ j) : tv a i + dif (a i) (a j) ≤ tv a j := by
  have := tv_d a i (j - i)
  rwa [show i + (j - i) = j by omega] at this
theorem tv_mono (a : Nat → Nat) : ∀ j, (∀ x, x < j → a x ≤ a (x + 1)) → tv a j + a 0 = a j := by
  intro j
  induction j with
  | zero => intro _; show 0 + a 0 = a 0; omega
  | succ j ih =>
    intro h
    have h1 := ih (fun x hx => h x (by omega))
    have h2 := h j (by omega)
    show tv a j + dif (a (j + 1)) (a j) + a 0 = a (j + 1)
    unfold dif
    omega
theorem tv_congr {a b : Nat → Nat} : ∀ j, (∀ x, x ≤ j → a x = b x) → tv a j = tv b j := by
  intro j
  induction j with
  | zero => intro _; rfl
  | succ j ih =>
    intro h
    show tv a j + dif (a (j + 1)) (a j) = tv b j + dif (b (j + 1)) (b j)
    rw [ih (fun x hx => h x (by omega)), h (j + 1) (by omega), h j (by omega)]
theorem tv_sub {a : Nat → Nat} : ∀ j, (∀ x, x ≤ j → a x ≤ 100) → tv (fun x => 100 - a x) j = tv a j := by
  intro j
  induction j with
  | zero => intro _; rfl
  | succ j ih =>
    intro h
    show tv (fun x => 100 - a x) j + dif (100 - a (j + 1)) (100 - a j) = tv a j + dif (a (j + 1)) (a j)
    rw [ih (fun x hx => h x (by omega))]
    have h1 := h (j + 1) (by omega)
    have h2 := h j (by omega)
    unfold dif
    omega
/-! the next of those not given yet, the first among equals -/
def NX (key : Nat → Nat) (n g j : Nat) : Prop := j < n ∧ g.testBit j = false ∧ ∀ i, i < n → g.testBit i = false → key j ≤ key i ∧ (i < j → key j < key i)
def GR (key : Nat → Nat) (n : Nat) : Nat → Nat → Prop
  | 0, _ => True
  | i + 1, q => GR key n i (q / 6) ∧ NX key n (orD i (q / 6)) (q % 6)
theorem div_add6 (c a b : Nat) : c / 6 ^ (a + b) = c / 6 ^ a / 6 ^ b := by rw [Nat.div_div_eq_div_mul, Nat.pow_add]
theorem GR_x {key : Nat → Nat} {n : Nat} : ∀ r x q, GR key n (x + 1 + r) q → NX key n (orD x (q / 6 ^ (r + 1))) (q / 6 ^ r % 6) := by
  intro r
  induction r with
  | zero =>
    intro x q h
    rw [Nat.pow_zero, Nat.div_one, show 0 + 1 = 1 from rfl, Nat.pow_one]
    exact h.2
  | succ r ih =>
    intro x q h
    have := ih x (q / 6) (by rw [show x + 1 + (r + 1) = x + 1 + r + 1 by omega] at h; exact h.1)
    rw [divQ, divQ] at this
    exact this
theorem lt2n : ∀ n < 7, ∀ a < 64, a < 2 ^ n → ∀ d < n, a ||| 2 ^ d < 2 ^ n := by decide +kernel
theorem all2n : ∀ n < 7, ∀ a < 64, a < 2 ^ n → pcN a = n → a = 2 ^ n - 1 := by decide +kernel
theorem bit2n : ∀ n < 7, ∀ i < 6, (2 ^ n - 1).testBit i = decide (i < n) := by decide +kernel
theorem pc2n : ∀ n < 7, pcN (2 ^ n - 1) = n := by decide +kernel
theorem ex2n : ∀ n < 7, ∀ a < 64, a < 2 ^ n → pcN a < n → al (fun i => a.testBit i) 0 n = false := by decide +kernel
theorem al_ex {P : Nat → Bool} : ∀ m j, al P j m = false → ∃ i, i < j + m ∧ P i = false := by
  intro m
  induction m with
  | zero => intro j h; cases h
  | succ m ih =>
    intro j h
    rw [al_succ] at h
    cases e : P j with
    | false => exact ⟨j, by omega, e⟩
    | true =>
      rw [e, Bool.true_and] at h
      obtain ⟨i, h1, h2⟩ := ih (j + 1) h
      exact ⟨i, by omega, h2⟩
theorem GR_pc {key : Nat → Nat} {n : Nat} (hn : n ≤ 6) : ∀ k q, GR key n k q → pcN (orD k q) = k ∧ orD k q < 2 ^ n := by
  intro k
  induction k with
  | zero => intro q _; exact ⟨(by show pcN 0 = 0; decide), Nat.two_pow_pos n⟩
  | succ k ih =>
    intro q h
    obtain ⟨h1, h2⟩ := ih _ h.1
    obtain ⟨g1, g2, -⟩ := h.2
    refine ⟨?_, ?_⟩
    · show pcN (orD k (q / 6) ||| 2 ^ (q % 6)) = k + 1
      rw [orPc _ (orD64 _ _) _ (Nat.mod_lt _ (by decide)), g2, if_neg (by decide), h1]
    · exact lt2n n (by omega) _ (orD64 _ _) h2 _ g1
theorem GR_ok {key : Nat → Nat} {n q : Nat} (hn : n ≤ 6) (h : GR key n n q) : orD n q = 2 ^ n - 1 := all2n n (by omega) _ (orD64 _ _) (GR_pc hn n q h).2 (GR_pc hn n q h).1
theorem dgt_r {k c x r : Nat} (h : x + 1 + r = k) : dgt k c x = c / 6 ^ r % 6 := by
  unfold dgt
  rw [show k - 1 - x = r by omega]
/-! a row of all houses -/
theorem ok_lt {n c : Nat} (hn : n ≤ 6) (h : orD n c = 2 ^ n - 1) {x : Nat} (hx : x < n) : dgt n c x < n := by
  have h1 := orDd (k := n) (c := c) (n - 1 - x) x (by omega)
  rw [h, bit2n n (by omega) _ (Nat.mod_lt _ (by decide))] at h1
  exact of_decide_eq_true h1
theorem ok_ex {n c : Nat} (hn : n ≤ 6) (h : orD n c = 2 ^ n - 1) {i : Nat} (hi : i < n) : ∃ x, x < n ∧ dgt n c x = i := orD_ex n c i (by omega) (by rw [h, bit2n n (by omega) i (by omega)]; exact decide_eq_true hi)
theorem ok_new {n c : Nat} (hn : n ≤ 6) (h : orD n c = 2 ^ n - 1) {x r : Nat} (hx : x + 1 + r = n) : (orD x (c / 6 ^ (r + 1))).testBit (c / 6 ^ r % 6) = false := by
  have h1 := pcDx (k := n) (c := c) (by rw [h]; exact pc2n n (by omega)) r (x + 1) hx
  have h2 := (pcD1 h1).2
  rwa [divP] at h2
/-- what came before stays given -/
theorem bef {n c x y i : Nat} (hxy : x ≤ y) (hy : y ≤ n) (hi : i < 6) (h : (orD y (c / 6 ^ (n - y))).testBit i = false) : (orD x (c / 6 ^ (n - x))).testBit i = false := by
  cases e : (orD x (c / 6 ^ (n - x))).testBit i with
  | false => rfl
  | true =>
    have := orDx (k := y) (c := c / 6 ^ (n - y)) hi (y - x) x (by omega) (by rw [← div_add6, show n - y + (y - x) = n - x by omega]; exact e)
    rw [h] at this
    cases this
/-- a house given before is one of the places before -/
theorem bef_in {n c x i y : Nat} (hi : i < 6) (hx : x ≤ n) (h : (orD x (c / 6 ^ (n - x))).testBit i = false) (hy : y < x) : ¬ dgt n c y = i := fun e => by
  have h1 := orDd (k := x) (c := c / 6 ^ (n - x)) (x - 1 - y) y (by omega)
  rw [← div_add6, show n - x + (x - 1 - y) = n - 1 - y by omega] at h1
  unfold dgt at e
  rw [e, h] at h1
  cases h1
theorem GR_mono {key : Nat → Nat} {n q : Nat} (h : GR key n n q) {x y : Nat} (hxy : x ≤ y) (hy : y < n) : key (dgt n q x) ≤ key (dgt n q y) := by
  have h1 := GR_x (n - 1 - x) x q (by rw [show x + 1 + (n - 1 - x) = n by omega]; exact h)
  have h2 := GR_x (n - 1 - y) y q (by rw [show y + 1 + (n - 1 - y) = n by omega]; exact h)
  obtain ⟨-, -, h3⟩ := h1
  obtain ⟨g1, g2, -⟩ := h2
  refine (h3 _ g1 ?_).1
  rw [show n - 1 - x + 1 = n - x by omega]
  rw [show n - 1 - y + 1 = n - y by omega] at g2
  exact bef hxy (by omega) (Nat.mod_lt _ (by decide)) g2
theorem differ : ∀ k c q, c < q → q < 6 ^ k → ∃ x r, x + 1 + r = k ∧ c / 6 ^ (r + 1) = q / 6 ^ (r + 1) ∧ c / 6 ^ r % 6 < q / 6 ^ r % 6 := by
  intro k
  induction k with
  | zero => intro c q h1 h2; rw [Nat.pow_zero] at h2; omega
  | succ k ih =>
    intro c q h1 h2
    by_cases e : c / 6 = q / 6
    · exact ⟨k, 0, by omega, by rw [show 0 + 1 = 1 from rfl, Nat.pow_one]; exact e, by rw [Nat.pow_zero, Nat.div_one, Nat.div_one]; omega⟩
    · obtain ⟨x, r, g1, g2, g3⟩ := ih (c / 6) (q / 6) (by omega) (by rw [Nat.pow_succ] at h2; omega)
      rw [divQ, divQ] at g2 g3
      exact ⟨x, r + 1, by omega, g2, g3⟩
/-- the greedy row walks from the least to the greatest -/
theorem gr_cost {key : Nat → Nat} {n q L : Nat} (hn : n ≤ 6) (h0 : 0 < n) (h : GR key n n q) (hL : L < n) (hmax : ∀ i, i < n → key i ≤ key L) : tv (fun x => key (dgt n q x)) (n - 1) + key (dgt n q 0) = key L := by
  have h1 := tv_mono (fun x => key (dgt n q x)) (n - 1) (fun x hx => GR_mono h (by omega) (by omega))
  obtain ⟨y, hy, e⟩ := ok_ex hn (GR_ok hn h) hL
  have h2 := GR_mono h (show y ≤ n - 1 by omega) (by omega)
  have h3 := hmax _ (ok_lt hn (GR_ok hn h) (show n - 1 < n by omega))
  rw [e] at h2
  omega
theorem gr_min {key : Nat → Nat} {n q : Nat} (h0 : 0 < n) (h : GR key n n q) {i : Nat} (hi : i < n) : key (dgt n q 0) ≤ key i ∧ (i < dgt n q 0 → key (dgt n q 0) < key i) := by
  have h1 := GR_x (n - 1) 0 q (by rw [show 0 + 1 + (n - 1) = n by omega]; exact h)
  rw [dgt_r (show 0 + 1 + (n - 1) = n by omega)]
  exact h1.2.2 i hi (Nat.zero_testBit i)
/-- no row of all houses walks less -/
theorem all_cost {key : Nat → Nat} {n q c L : Nat} (hn : n ≤ 6) (h0 : 0 < n) (h : GR key n n q) (hL : L < n) (hmax : ∀ i, i < n → key i ≤ key L) (hc : orD n c = 2 ^ n - 1) : key L ≤ tv (fun x => key (dgt n c x)) (n - 1) + key (dgt n q 0) := by
  obtain ⟨y, hy, ey⟩ := ok_ex hn hc hL
  obtain ⟨z, hz, ez⟩ := ok_ex hn hc (ok_lt hn (GR_ok hn h) h0)
  have h1 := (gr_min h0 h hL).1
  rcases Nat.le_total y z with e | e
  · have a := tv_ge (fun x => key (dgt n c x)) e
    have b := tv_ge (fun x => key (dgt n c x)) (show z ≤ n - 1 by omega)
    rw [ey, ez] at a
    unfold dif at a b
    omega
  · have a := tv_ge (fun x => key (dgt n c x)) e
    have b := tv_ge (fun x => key (dgt n c x)) (show y ≤ n - 1 by omega)
    rw [ey, ez] at a
    unfold dif at a b
    omega
/-- each earlier one walks more -/
theorem low_cost {key : Nat → Nat} {n q c L : Nat} (hn : n ≤ 6) (h0 : 0 < n) (hq : q < 6 ^ n) (h : GR key n n q) (hL : L < n) (hmax : ∀ i, i < n → key i ≤ key L) (hfst : ∀ i, i < n → i < dgt n q 0 → key i < key L) (hc : orD n c = 2 ^ n - 1) (hlt : c < q) : key L < tv (fun x => key (dgt n c x)) (n - 1) + key (dgt n q 0) := by
  obtain ⟨x, r, g1, g2, g3⟩ := differ n c q hlt hq
  rw [← dgt_r g1, ← dgt_r g1] at g3
  have hN := GR_x r x q (by rw [g1]; exact h)
  rw [← dgt_r g1] at hN
  obtain ⟨j1, j2, j3⟩ := hN
  have hnew := ok_new hn hc g1
  rw [← dgt_r g1, g2] at hnew
  have hi := ok_lt hn hc (show x < n by omega)
  have hk := (j3 _ hi hnew).2 g3
  -- the house passed over, and the greatest
  obtain ⟨z, hz, ez⟩ := ok_ex hn hc j1
  obtain ⟨y, hy, ey⟩ := ok_ex hn hc hL
  have hiL := hmax _ hi
  have pre : ∀ u, u < x → dgt n c u = dgt n q u := fun u hu => by
    unfold dgt
    rw [show n - 1 - u = (r + 1) + (x - 1 - u) by omega, div_add6, div_add6 q, g2]
  have hzx : x < z := by
    have hr : n - x = r + 1 := by omega
    have h1 : ¬ z < x := fun hzx => bef_in (n := n) (c := c) (x := x) (y := z) (by omega) (by omega) (by rw [hr, g2]; exact j2) hzx ez
    have h2 : ¬ z = x := fun e => by subst e; omega
    omega
  have tl : ∀ u, u ≤ n - 1 → tv (fun x => key (dgt n c x)) u ≤ tv (fun x => key (dgt n c x)) (n - 1) := fun u hu => by
    have := tv_ge (fun x => key (dgt n c x)) hu
    omega
  have m1 := (gr_min h0 h hL).1
  have m2 := (gr_min h0 h j1).1
  by_cases x0 : x = 0
  · subst x0
    have hki := hfst _ hi g3
    have hy0 : ¬ y = 0 := fun e => by rw [e] at ey; rw [ey] at hki; omega
    rcases Nat.lt_or_ge y z with e | e
    · have a := tv_ge (fun x => key (dgt n c x)) (show 0 ≤ y by omega)
      have b := tv_ge (fun x => key (dgt n c x)) (show y ≤ z by omega)
      have d := tl z (by omega)
      rw [ey] at a b
      rw [ez] at b
      unfold dif at a b
      omega
    · have a := tv_ge (fun x => key (dgt n c x)) (show 0 ≤ z by omega)
      have b := tv_ge (fun x => key (dgt n c x)) e
      have d := tl y (by omega)
      rw [ez] at a b
      rw [ey] at b
      unfold dif at a b
      omega
  · have hf : dgt n c 0 = dgt n q 0 := pre 0 (by omega)
    have hyx : ¬ y < x := fun hyx => by
      have e1 := pre y hyx
      rw [ey] at e1
      have e2 := GR_mono h (show y ≤ x by omega) (by omega)
      rw [← e1] at e2
      omega
    have a0 := tv_ge (fun x => key (dgt n c x)) (show 0 ≤ x by omega)
    rw [hf] at a0
    rcases Nat.lt_trichotomy y z with e | e | e
    · rcases Nat.eq_or_lt_of_le (show x ≤ y by omega) with ex | ex
      · subst ex
        have b := tv_ge (fun x => key (dgt n c x)) (show x ≤ z by omega)
        have d := tl z (by omega)
        rw [ez] at b
        rw [ey] at a0 b hk
        unfold dif at a0 b
        omega
      · have a := tv_ge (fun x => key (dgt n c x)) (show 0 ≤ y by omega)
        have b := tv_ge (fun x => key (dgt n c x)) (show y ≤ z by omega)
        have d := tl z (by omega)
        rw [hf] at a
        rw [ey] at a b
        rw [ez] at b
        unfold dif at a b
        omega
    · subst e
      rw [ey] at ez
      rw [ez] at hiL
      omega
    · have b := tv_ge (fun x => key (dgt n c x)) (show x ≤ z by omega)
      have b2 := tv_ge (fun x => key (dgt n c x)) (show z ≤ y by omega)
      have d := tl y (by omega)
      rw [ez] at b b2
      rw [ey] at b2
      unfold dif at a0 b b2
      omega
