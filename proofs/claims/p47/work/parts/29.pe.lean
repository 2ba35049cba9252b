/-- the deed that a lot tells -/
def lotC (n L f : Nat) : Nat := if L / 8 % 8 ≤ 1 then 100 * (L % n) else if L / 8 % 8 ≤ 5 then 1000 else if L / 8 % 8 = 6 then 2000 + 100 * (L % n) + L / 64 % 100 else 3000 + (1 - f)
theorem lot_ok {n L f : Nat} (hn : n ≤ 6) (h0 : 0 < n) (hf : f < 2) : cok n (lotC n L f) := by
  have hm := Nat.mod_lt L h0
  have hd := Nat.mod_lt (L / 64) (show 100 > 0 by decide)
  unfold lotC
  generalize L % n = d at hm
  generalize L / 64 % 100 = e at hd
  repeat' split
  · exact ⟨h0, by omega, by omega, by omega⟩
  · exact ⟨h0, by omega, by omega, by omega⟩
  · exact ⟨h0, by omega, by omega, by omega⟩
  · exact ⟨h0, by omega, by omega, by omega⟩
theorem lot_C {n L f s : Nat} {w : Nat → Int32} {cs : List Nat} {σ : Sg} (h : CT n w cs s σ) (t1 : STW n w) (t2 : COK n cs) (hl : cs.length < 40) (h0 : 0 < n) (hL : L < 2 ^ 31) (hf : f < 2) (ef : run n (iniV w) cs 3 = nI f) : ∃ σ', f_X4_doesByLot s (nI L) σ = some σ' ∧ CT n w (cs ++ [lotC n L f]) s σ' ∧ FrD s σ σ' := by
  have hn := h.1.1
  have hok := lot_ok (L := L) hn h0 hf
  unfold f_X4_doesByLot
  rw [h.1.2.2.1]
  have e1 : nI L / (8 : Int32) = nI (L / 8) := nIdiv (b := 8) hL (by decide)
  have hL8 : L / 8 < 2 ^ 31 := by omega
  have e2 : nI (L / 8) - nI (L / 8) / (8 : Int32) * (8 : Int32) = nI (L / 8 % 8) := nIrem (b := 8) hL8 (by decide)
  have e3 : nI L / (64 : Int32) = nI (L / 64) := nIdiv (b := 64) hL (by decide)
  have e4 : nI (L / 64) - nI (L / 64) / (100 : Int32) * (100 : Int32) = nI (L / 64 % 100) := nIrem (b := 100) (by omega) (by decide)
  have e5 : nI L - nI L / nI n * nI n = nI (L % n) := nIrem hL (by omega)
  have q0 : ¬ nI n ≤ 0 := by rw [show (0 : Int32) = nI 0 from rfl]; exact nI_ge h0 (by omega)
  have q1 : ¬ nI n = 0 := by rw [eq0 (by omega)]; omega
  have g1 : ((1 : Int32) < nI (L / 8 % 8)) = (1 < L / 8 % 8) := nIlt (a := 1) (by decide) (by omega)
  have g5 : ((5 : Int32) < nI (L / 8 % 8)) = (5 < L / 8 % 8) := nIlt (a := 5) (by decide) (by omega)
  have g6 : (nI (L / 8 % 8) = (6 : Int32)) = (L / 8 % 8 = 6) := nIeq (b := 6) (by omega) (by decide)
  rw [e1, e2, e3, e4, e5, nmE, if_neg q0, decide_eq_true q1, ckT]
  simp only [nmE, g1, g5, g6, h.1.2.2.2.1.2.2.1, ef]
  unfold lotC at hok ⊢
  by_cases c1 : L / 8 % 8 ≤ 1
  · rw [if_pos c1] at hok ⊢
    obtain ⟨σ', p1, p2, p3⟩ := X4_does_v h t1 t2 hl hok (i1 := 0) (i2 := nI (L % n)) (i3 := 0) (by have := code3 0 (L % n) 0; rw [show 0 * 1000 + L % n * 100 + 0 = 100 * (L % n) by omega] at this; exact this)
    rw [if_neg (by omega), p1, bndS]
    exact ⟨_, rfl, p2, p3⟩
  · rw [if_neg c1] at hok ⊢
    rw [if_pos (by omega)]
    by_cases c2 : L / 8 % 8 ≤ 5
    · rw [if_pos c2] at hok ⊢
      obtain ⟨σ', p1, p2, p3⟩ := X4_does_v h t1 t2 hl hok (i1 := nI 1) (i2 := 0) (i3 := 0) (code3 1 0 0)
      rw [if_neg (by omega), show (1 : Int32) = nI 1 from rfl, p1, bndS]
      exact ⟨_, rfl, p2, p3⟩
    · rw [if_neg c2] at hok ⊢
      rw [if_pos (by omega)]
      by_cases c3 : L / 8 % 8 = 6
      · rw [if_pos c3] at hok ⊢
        obtain ⟨σ', p1, p2, p3⟩ := X4_does_v h t1 t2 hl hok (i1 := 2) (i2 := nI (L % n)) (i3 := nI (L / 64 % 100)) (by have := code3 2 (L % n) (L / 64 % 100); rw [show 2 * 1000 + L % n * 100 + L / 64 % 100 = 2000 + 100 * (L % n) + L / 64 % 100 by omega] at this; exact this)
        rw [if_pos c3, p1, bndS]
        exact ⟨_, rfl, p2, p3⟩
      · rw [if_neg c3] at hok ⊢
        obtain ⟨σ', p1, p2, p3⟩ := X4_does_v h t1 t2 hl hok (i1 := 3) (i2 := 0) (i3 := 1 - nI f) (by
          have := code3 3 0 (1 - f)
          rw [show 3 * 1000 + 0 * 100 + (1 - f) = 3000 + (1 - f) by omega, ← nIsub (show f ≤ 1 by omega)] at this
          exact this)
        rw [if_neg c3, p1, bndS]
        exact ⟨_, rfl, p2, p3⟩
/-- what a deed leaves of the reference -/
def FrN (τ τ' : Sg) : Prop := (∀ k, k ≠ 22 → gS τ' k = gS τ k) ∧ (∀ a, a ≠ 9 → a ≠ 10 → gA τ' a = gA τ a) ∧ ∀ k, gL τ' k = gL τ k
theorem FrN.rf (τ : Sg) : FrN τ τ := ⟨fun _ _ => rfl, fun _ _ _ => rfl, fun _ => rfl⟩
theorem FrN.tr {a b c : Sg} (h : FrN a b) (g : FrN b c) : FrN a c := ⟨fun k h1 => (g.1 k h1).trans (h.1 k h1), fun k h1 h2 => (g.2.1 k h1 h2).trans (h.2.1 k h1 h2), fun k => (g.2.2 k).trans (h.2.2 k)⟩
theorem lcg {X : Nat} (hX : X < 2 ^ 31) : lN X * (48271 : Int64) - lN X * (48271 : Int64) / (2147483647 : Int64) * (2147483647 : Int64) = lN (X * 48271 % 2147483647) := by
  rw [show (48271 : Int64) = lN 48271 from rfl, show (2147483647 : Int64) = lN 2147483647 from rfl, lN_mul, lNrem (by omega) (by decide)]
