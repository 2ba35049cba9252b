/-! what a deed makes of a town, as the law asks it -/
section LUU
variable {n : Nat} {w v : Nat → Int32} {c : Nat}
theorem awV_eq {v v' : Nat → Int32} {i : Nat} (e : v' (17 + i) = v (17 + i)) : awV v' i = awV v i := by unfold awV; rw [e]
theorem stepOK_same {v' : Nat → Int32} {s i : Nat} (hd : w (23 + i) = 3 → awV v i = false) (e : v' (17 + i) = v (17 + i)) : StepOK n w v v' s i :=
  ⟨fun h1 h2 => by rw [awV_eq e, h2] at h1; exact absurd h1 (by decide), fun h => by rw [awV_eq e]; exact hd h, fun _ _ => e⟩
theorem due3 {v : Nat → Int32} {i : Nat} (h : v (23 + i) = 3) : dueV v i = -9 := by unfold dueV tapsV; rw [h, if_pos rfl]
/-- the deeds one by one -/
def isW (n c s : Nat) (v v' : Nat → Int32) : Prop :=
  (s < 3 ∧ ∃ d, d < n ∧ v' = walkV d v) ∨ (¬ s < 3 ∧ s < 9 ∧ ∃ p, p < n ∧ v 2 = nI p ∧ v' = tapV p v) ∨ (¬ s < 9 ∧ s < 11 ∧ ∃ d x, d < n ∧ v' = slateV d x v) ∨ (¬ s < 11 ∧ s < 13 ∧ ∃ x, v' = va_up v 3 x) ∨ (¬ s < 13 ∧ v' = nightV n v)
theorem deed_is {z : Int32} (hv : VW n v) (h0 : 0 < n) (hn : n ≤ 6) (hd : deedV n v z = some c) : cok n c ∧ isW n c (dSort z) v (stp n c v) := by
  have hi : dHouse n z < n := Nat.mod_lt _ h0
  unfold deedV at hd
  by_cases s3 : dSort z < 3
  · rw [if_pos s3] at hd
    split at hd
    · cases hd
    · cases hd
      exact ⟨⟨by omega, by omega, by omega, by omega⟩, Or.inl ⟨s3, _, hi, stp_walk (by omega)⟩⟩
  rw [if_neg s3] at hd
  by_cases s9 : dSort z < 9
  · rw [if_pos s9] at hd
    cases hd
    obtain ⟨p, hp, ep⟩ := hv.2.2.1
    exact ⟨⟨by omega, by omega, by omega, by omega⟩, Or.inr (Or.inl ⟨s3, s9, p, by omega, ep, stp_tap (by omega) ep⟩)⟩
  rw [if_neg s9] at hd
  by_cases s11 : dSort z < 11
  · rw [if_pos s11] at hd
    split at hd
    · cases hd
    · split at hd
      · cases hd
      · cases hd
        exact ⟨⟨by omega, by omega, by omega, by omega⟩, Or.inr (Or.inr (Or.inl ⟨s9, s11, _, _, hi, stp_slate (by omega) (by omega)⟩))⟩
  rw [if_neg s11] at hd
  by_cases s13 : dSort z < 13
  · rw [if_pos s13] at hd
    split at hd
    · cases hd
    · split at hd
      · cases hd
      · cases hd
        exact ⟨⟨by omega, by omega, by omega, by omega⟩, Or.inr (Or.inr (Or.inr (Or.inl ⟨s11, s13, _, stp_frost (by omega)⟩)))⟩
  rw [if_neg s13] at hd
  cases hd
  exact ⟨⟨by omega, by omega, by omega, by omega⟩, Or.inr (Or.inr (Or.inr (Or.inr ⟨s13, stp_night⟩)))⟩
theorem tap_same {p i : Nat} (hi : ¬ i = p) (hp : p < 6) (hi6 : i < 6) : tapV p v (17 + i) = v (17 + i) := by
  unfold tapV
  split
  · rw [va_up_ne _ _ (by omega), va_up_ne _ _ (by omega)]
  · rw [va_up_ne _ _ (by omega), va_up_ne _ _ (by omega), va_up_ne _ _ (by omega), va_up_ne _ _ (by omega)]
theorem step_ok {s : Nat} {v' : Nat → Int32} (hn : n ≤ 6) (hw : ∀ k, 23 ≤ k → v k = w k) (hdead : ∀ i, i < n → w (23 + i) = 3 → awV v i = false) (h : isW n c s v v') {i : Nat} (hi : i < n) : StepOK n w v v' s i := by
  rcases h with ⟨h1, d, hd, e⟩ | ⟨h1, h2, p, hp, ep, e⟩ | ⟨h1, h2, d, x, hd, e⟩ | ⟨h1, h2, x, e⟩ | ⟨h1, e⟩ <;> subst e
  · refine stepOK_same (hdead i hi) ?_
    unfold walkV
    rw [va_up_ne _ _ (by omega), va_up_ne _ _ (by omega)]
  · by_cases hip : i = p
    · subst hip
      by_cases hwk : awV v i = true ∨ dueV v i = -9 ∨ v (11 + i) + 1 < dueV v i
      · refine stepOK_same (hdead i hi) ?_
        unfold tapV
        rw [if_pos hwk, va_up_ne _ _ (by omega), va_up_ne _ _ (by omega)]
      · have e17 : tapV i v (17 + i) = v (5 + i) := by
          unfold tapV
          rw [if_neg hwk, va_up_ne _ _ (by omega), va_up_self]
        refine ⟨fun _ _ => ⟨h1, by omega, e17, ep⟩, fun h => ?_, fun h _ => absurd (Or.inl h) hwk⟩
        exact absurd (Or.inr (Or.inl (due3 (by rw [hw _ (by omega)]; exact h)))) hwk
    · exact stepOK_same (hdead i hi) (tap_same hip (by omega) (by omega))
  · refine stepOK_same (hdead i hi) ?_
    unfold slateV
    rw [va_up_ne _ _ (by omega), va_up_ne _ _ (by omega)]
  · refine stepOK_same (hdead i hi) ?_
    rw [va_up_ne _ _ (by omega)]
  · have e : awV (nightV n v) i = false := by
      unfold awV nightV
      rw [slpV_y hn hi]
      decide
    exact ⟨fun h => by rw [e] at h; exact absurd h (by decide), fun _ => e, fun _ h => by rw [e] at h; exact absurd h (by decide)⟩
/-- the purse -/
theorem pay0 {v v' : Nat → Int32} : ∀ m j x, (∀ i, j ≤ i → i < j + m → awV v' i = true → awV v i = false → False) → fo (payS v v') j m x = x := by
  intro m
  induction m with
  | zero => intro j x _; rfl
  | succ m ih =>
    intro j x h
    show fo (payS v v') (j + 1) m (payS v v' j x) = x
    have e : payS v v' j x = x := by
      unfold payS
      rw [if_neg (fun z => h j (Nat.le_refl _) (by omega) z.1 z.2), Int32.add_zero]
    rw [e]
    exact ih (j + 1) x (fun i h1 h2 => h i (by omega) (by omega))
theorem pay1 {v v' : Nat → Int32} {p : Nat} (h1 : awV v' p = true) (h0 : awV v p = false) : ∀ m j x, j ≤ p → p < j + m → (∀ i, j ≤ i → i < j + m → i ≠ p → awV v' i = true → awV v i = false → False) → fo (payS v v') j m x = x + feeV (v' (23 + p)) := by
  intro m
  induction m with
  | zero => intro j x a b; omega
  | succ m ih =>
    intro j x a b h
    show fo (payS v v') (j + 1) m (payS v v' j x) = _
    by_cases e : j = p
    · subst e
      have e2 : payS v v' j x = x + feeV (v' (23 + j)) := by unfold payS; rw [if_pos ⟨h1, h0⟩]
      rw [e2]
      exact pay0 m (j + 1) _ (fun i a1 a2 => h i (by omega) (by omega) (by omega))
    · have e2 : payS v v' j x = x := by
        unfold payS
        rw [if_neg (fun z => h j (Nat.le_refl _) (by omega) e z.1 z.2), Int32.add_zero]
      rw [e2]
      exact ih (j + 1) x (by omega) (by omega) (fun i a1 a2 => h i (by omega) (by omega))
theorem pay_same {v v' : Nat → Int32} (e : ∀ i, i < n → v' (17 + i) = v (17 + i)) : fo (payS v v') 0 n 0 = 0 :=
  pay0 n 0 0 (fun i _ h2 a b => by rw [awV_eq (e i (by omega)), b] at a; exact absurd a (by decide))
theorem purse_ok {s : Nat} {v' : Nat → Int32} (hv : VW n v) (hn : n ≤ 6) {u : Nat} (hu : u ≤ 5000) (eu : v 4 = nI u) (h : isW n c s v v') : v' 4 = v 4 + fo (payS v v') 0 n 0 ∧ ∃ u', u' ≤ u + 5 ∧ v' 4 = nI u' := by
  rcases h with ⟨h1, d, hd, e⟩ | ⟨h1, h2, p, hp, ep, e⟩ | ⟨h1, h2, d, x, hd, e⟩ | ⟨h1, h2, x, e⟩ | ⟨h1, e⟩ <;> subst e
  · have e4 : walkV d v 4 = v 4 := by unfold walkV; rw [va_up_ne _ _ (by omega), va_up_ne _ _ (by omega)]
    rw [pay_same (fun i hi => by unfold walkV; rw [va_up_ne _ _ (by omega), va_up_ne _ _ (by omega)]), e4, Int32.add_zero]
    exact ⟨rfl, u, by omega, eu⟩
  · by_cases hwk : awV v p = true ∨ dueV v p = -9 ∨ v (11 + p) + 1 < dueV v p
    · have e4 : tapV p v 4 = v 4 := by unfold tapV; rw [if_pos hwk, va_up_ne _ _ (by omega), va_up_ne _ _ (by omega)]
      rw [pay_same (fun i hi => by unfold tapV; rw [if_pos hwk, va_up_ne _ _ (by omega), va_up_ne _ _ (by omega)]), e4, Int32.add_zero]
      exact ⟨rfl, u, by omega, eu⟩
    · obtain ⟨k, hk, ek⟩ := (hv.2.2.2.2.2.2 p hp).1
      obtain ⟨d, hd, ed⟩ := (hv.2.2.2.2.2.2 p hp).2.2.1
      obtain ⟨fe, hfe, efe⟩ := fee_rg (k := k)
      have e17 : tapV p v (17 + p) = v (5 + p) := by unfold tapV; rw [if_neg hwk, va_up_ne _ _ (by omega), va_up_self]
      have e23 : tapV p v (23 + p) = v (23 + p) := by unfold tapV; rw [if_neg hwk, va_up_ne _ _ (by omega), va_up_ne _ _ (by omega), va_up_ne _ _ (by omega), va_up_ne _ _ (by omega)]
      have e4 : tapV p v 4 = mmin 9999 (v 4 + feeV (v (23 + p))) := by unfold tapV; rw [if_neg hwk, va_up_self]
      have a1 : awV (tapV p v) p = true := by unfold awV; rw [e17, ed]; exact decide_eq_true (nI9 (by omega))
      have a0 : awV v p = false := by
        cases ha : awV v p
        · rfl
        · exact absurd (Or.inl ha) hwk
      rw [pay1 a1 a0 n 0 0 (Nat.zero_le _) (by omega) (fun i _ h2 hne a b => by rw [awV_eq (tap_same hne (by omega) (by omega)), b] at a; exact absurd a (by decide)), e23, e4, ek, efe, eu, Int32.zero_add, mmin9 u (by omega) fe hfe, if_neg (by rw [nI_add]; exact nI_ge (b := 9999) (by omega) (by decide))]
      exact ⟨rfl, u + fe, by omega, nI_add u fe⟩
  · have e4 : slateV d x v 4 = v 4 := by unfold slateV; rw [va_up_ne _ _ (by omega), va_up_ne _ _ (by omega)]
    rw [pay_same (fun i hi => by unfold slateV; rw [va_up_ne _ _ (by omega), va_up_ne _ _ (by omega)]), e4, Int32.add_zero]
    exact ⟨rfl, u, by omega, eu⟩
  · have e4 : va_up v 3 x 4 = v 4 := va_up_ne _ _ (by decide)
    rw [pay_same (fun i hi => va_up_ne _ _ (by omega)), e4, Int32.add_zero]
    exact ⟨rfl, u, by omega, eu⟩
  · have e4 : nightV n v 4 = v 4 := by unfold nightV; rw [slpV_o (by decide) (by decide) (by omega) (by omega), va_up_ne _ _ (by decide)]
    have e : ∀ i, i < n → awV (nightV n v) i = false := fun i hi => by
      unfold awV nightV
      rw [slpV_y hn hi]
      decide
    rw [pay0 n 0 0 (fun i _ h2 a _ => by rw [e i (by omega)] at a; exact absurd a (by decide)), e4, Int32.add_zero]
    exact ⟨rfl, u, by omega, eu⟩
/-- the minutes -/
theorem sub_self9 (x : Int32) : x - x = 0 := Int32.sub_self x
theorem minutes_ok {s : Nat} {v' : Nat → Int32} (hv : VW n v) (hn : n ≤ 6) (h : isW n c s v v') : (s < 3 → ∃ d p, d < n ∧ p < 6 ∧ v' 2 = nI d ∧ v 2 = nI p ∧ v' 0 - v 0 = nI (dif d p)) ∧ (¬ s < 3 → s < 9 → v' 0 - v 0 = 1) ∧ (¬ s < 9 → s < 13 → v' 0 - v 0 = 0) := by
  obtain ⟨m, hm, em⟩ := hv.2.2.2.2.1
  rcases h with ⟨h1, d, hd, e⟩ | ⟨h1, h2, p, hp, ep, e⟩ | ⟨h1, h2, d, x, hd, e⟩ | ⟨h1, h2, x, e⟩ | ⟨h1, e⟩ <;> subst e
  · obtain ⟨p, hp, ep⟩ := hv.2.2.1
    have hp6 : p < 6 := by omega
    refine ⟨fun _ => ⟨d, p, hd, hp6, by unfold walkV; rw [va_up_self], ep, ?_⟩, fun h => absurd h1 h, fun h => absurd h1 (by omega)⟩
    unfold walkV
    rw [va_up_ne _ _ (by decide), va_up_self, ep, difV d (by omega) p hp6, em, nI_add, nIsub (by omega), show m + dif d p - m = dif d p by omega]
  · have e0 : tapV p v 0 = v 0 + 1 := by
      unfold tapV
      split
      · rw [va_up_ne _ _ (by omega), va_up_self]
      · rw [va_up_ne _ _ (by omega), va_up_ne _ _ (by omega), va_up_ne _ _ (by omega), va_up_self]
    refine ⟨fun h => absurd h h1, fun _ _ => ?_, fun h => absurd h2 h⟩
    rw [e0, em, nI_1, nIsub (by omega), show m + 1 - m = 1 by omega]
    rfl
  · refine ⟨fun h => absurd h (by omega), fun _ h => absurd h (by omega), fun _ _ => ?_⟩
    unfold slateV
    rw [va_up_ne _ _ (by omega), va_up_ne _ _ (by omega)]
    exact sub_self9 _
  · refine ⟨fun h => absurd h (by omega), fun _ h => absurd h (by omega), fun _ _ => ?_⟩
    rw [va_up_ne _ _ (by decide)]
    exact sub_self9 _
  · exact ⟨fun h => absurd h (by omega), fun _ h => absurd h (by omega), fun _ h => absurd h h1⟩
end LUU
