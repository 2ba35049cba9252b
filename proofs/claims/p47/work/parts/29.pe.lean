/-- the deed that a lot tells -/
def lotC (n L f : Nat) : Nat := if L / 8 % 8 ≤ 1 then 100 * (L % n) else if L / 8 % 8 ≤ 5 then 1000 else if L / 8 % 8 = 6 then 2000 + 100 * (L % n) + L / 64 % 100 else 3000 + (1 - f)
theorem lot_ok {n L f : Nat} (hn : n ≤ 6) (h0 : 0 < n) (hf : f < 2) : cok n (lotC n L f) := by
  have hm := Nat.mod_lt L h0
  have hd := Nat.mod_lt (L / 64) (show 100 > 0 by decide)
  unfold lotC
  generalize L % n = d at hm
  generalize L / 64 % 100 = e at hd
  repeat' split
  · exact ⟨h0, by omega, by omega, by omega⟩
  · exact ⟨h0, by omega, by omega, by omega⟩
  · exact ⟨h0, by omega, by omega, by omega⟩
  · exact ⟨h0, by omega, by omega, by omega⟩
/-- what a deed leaves of the reference -/
def FrN (τ τ' : Sg) : Prop := (∀ k, k ≠ 22 → gS τ' k = gS τ k) ∧ (∀ a, a ≠ 9 → a ≠ 10 → gA τ' a = gA τ a) ∧ ∀ k, gL τ' k = gL τ k
theorem FrN.rf (τ : Sg) : FrN τ τ := ⟨fun _ _ => rfl, fun _ _ _ => rfl, fun _ => rfl⟩
theorem FrN.tr {a b c : Sg} (h : FrN a b) (g : FrN b c) : FrN a c := ⟨fun k h1 => (g.1 k h1).trans (h.1 k h1), fun k h1 h2 => (g.2.1 k h1 h2).trans (h.2.1 k h1 h2), fun k => (g.2.2 k).trans (h.2.2 k)⟩
theorem lcg {X : Nat} (hX : X < 2 ^ 31) : lN X * (48271 : Int64) - lN X * (48271 : Int64) / (2147483647 : Int64) * (2147483647 : Int64) = lN (X * 48271 % 2147483647) := by
  rw [show (48271 : Int64) = lN 48271 from rfl, show (2147483647 : Int64) = lN 2147483647 from rfl, lN_mul, lNrem (by omega) (by decide)]
