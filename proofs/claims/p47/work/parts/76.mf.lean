/-! chances, pairs -/
def uN (m p x : Nat) : Nat := oddN m p x / Nat.gcd (oddN m p x) (12 ^ m)
def dN (m p x : Nat) : Nat := 12 ^ m / Nat.gcd (oddN m p x) (12 ^ m)
def pU (m p x : Nat) : Nat := if m = 0 then 0 else uN (m - 1) p x
def pD (m p x : Nat) : Nat := if m = 0 then 1 else dN (m - 1) p x
def muN (m p x : Nat) : Nat := midN m p x / Nat.gcd (midN m p x) (12 ^ m)
def mdN (m p x : Nat) : Nat := 12 ^ m / Nat.gcd (midN m p x) (12 ^ m)
theorem oddF : ∀ x < 6, ∀ p < 13, ∀ m < 9, 1 ≤ dN m p x ∧ dN m p x ≤ 2 ^ 30 ∧ pD m p x ≤ 2 ^ 30 ∧ uN m p x ≤ dN m p x ∧ pU m p x ≤ pD m p x ∧ pU m p x * dN m p x ≤ uN m p x * pD m p x ∧ mdN m p x ≤ 2 ^ 30 ∧ muN m p x ≤ 5 * mdN m p x := by decide +kernel
theorem lclt {a b : Nat} (ha : a < 2 ^ 62) (hb : b < 2 ^ 62) : (lg_cmp (lN a) (lN b) < 0) = (a < b) := by
  rw [propext (lg_cmp_lt _ _), Int64.lt_iff_toInt_lt, lNt ha, lNt hb]
  exact propext ⟨fun h => by omega, fun h => by omega⟩
theorem lcgt {a b : Nat} (ha : a < 2 ^ 62) (hb : b < 2 ^ 62) : (0 < lg_cmp (lN a) (lN b)) = (b < a) := by
  rw [propext (lg_cmp_gt _ _), Int64.lt_iff_toInt_lt, lNt ha, lNt hb]
  exact propext ⟨fun h => by omega, fun h => by omega⟩
theorem lcge {a b : Nat} (ha : a < 2 ^ 62) (hb : b < 2 ^ 62) : (0 ≤ lg_cmp (lN a) (lN b)) = (b ≤ a) := by
  rw [propext (lg_cmp_ge _ _), Int64.le_iff_toInt_le, lNt ha, lNt hb]
  exact propext ⟨fun h => by omega, fun h => by omega⟩
section MFF
variable {n : Nat} {w : Nat → Int32} {cs : List Nat} {kc : Option (List Nat)} {RS : Nat → Int32} {RA : Nat → Nat → Int32} {A : Int32} {T X Y : Nat → Int32}
theorem upI {U V : Int64} {σ : Sg} (h : IW n w cs kc RS RA A U V T X Y σ) : f_X5_upper σ = some U := by unfold f_X5_upper; rw [h.up]
theorem loI {U V : Int64} {σ : Sg} (h : IW n w cs kc RS RA A U V T X Y σ) : f_X5_lower σ = some V := by unfold f_X5_lower; rw [h.lo]
set_option maxHeartbeats 4000000 in
theorem odds_l {L : Nat} {xs : Nat → Int32} {a5 : Int32} {K : Sg → Option Bool} {i p x : Nat} (hi : i < n) (hp : p < 13) (hx : x < 6) (e : moreV (run n (iniV w) cs) i = nI x)
    (hK : ∀ U V σ, IW n w cs kc RS RA A U V T X Y σ → K σ = some true) : ∀ r m N U V σ, m + r = 9 → r < N → IW n w cs kc RS RA A U V T X Y σ → l_L_law_1546 L xs a5 (nI i) (nI p) K N (lN (pU m p x)) (lN (pD m p x)) (nI m) σ = some true := by
  intro r
  induction r with
  | zero =>
    intro m N U V σ hm hN h
    obtain ⟨N, rfl⟩ : ∃ k, N = k + 1 := ⟨N - 1, by omega⟩
    unfold l_L_law_1546
    rw [if_pos (show (9 : Int32) ≤ nI m from nI_le (a := 9) (by omega) (by omega))]
    exact hK U V σ h
  | succ r ih =>
    intro m N U V σ hm hN h
    obtain ⟨N, rfl⟩ : ∃ k, N = k + 1 := ⟨N - 1, by omega⟩
    obtain ⟨o1, o2, o3, o4, o5, o6, o7, o8⟩ := oddF x hx p hp m (by omega)
    obtain ⟨σ1, p1, h1⟩ := k_odds h hi (show m < 9 by omega) hp hx e
    obtain ⟨σ2, p2, h2⟩ := k_mid h1 hi (show m < 9 by omega) hp hx e
    have h1 : IW n w cs kc RS RA A (lN (uN m p x)) (lN (dN m p x)) T X Y σ1 := h1
    have h2 : IW n w cs kc RS RA A (lN (muN m p x)) (lN (mdN m p x)) T X Y σ2 := h2
    have next : l_L_law_1546 L xs a5 (nI i) (nI p) K N (lN (uN m p x)) (lN (dN m p x)) (nI (m + 1)) σ2 = some true := ih (m + 1) N _ _ σ2 (by omega) (by omega) h2
    have b1 : uN m p x * pD m p x ≤ 2 ^ 30 * 2 ^ 30 := Nat.mul_le_mul (by omega) o3
    have b2 : pU m p x * dN m p x ≤ 2 ^ 30 * 2 ^ 30 := Nat.mul_le_mul (by omega) o2
    have c1 : ¬ lg_cmp (lN (uN m p x)) (0 : Int64) < 0 := by rw [show (0 : Int64) = lN 0 from rfl, lclt (by omega) (by omega)]; omega
    have c2 : ¬ lg_cmp (lN (dN m p x)) (1 : Int64) < 0 := by rw [show (1 : Int64) = lN 1 from rfl, lclt (by omega) (by omega)]; omega
    have c3 : ¬ 0 < lg_cmp (lN (uN m p x)) (lN (dN m p x)) := by rw [lcgt (by omega) (by omega)]; omega
    have c4 : 0 ≤ lg_cmp (lN (uN m p x) * lN (pD m p x)) (lN (pU m p x) * lN (dN m p x)) := by rw [lN_mul, lN_mul, lcge (by omega) (by omega)]; exact o6
    have c5 : ¬ lg_cmp (lN (muN m p x)) (0 : Int64) < 0 := by rw [show (0 : Int64) = lN 0 from rfl, lclt (by omega) (by omega)]; omega
    have c6 : ¬ 0 < lg_cmp (lN (muN m p x)) ((5 : Int64) * lN (mdN m p x)) := by rw [show (5 : Int64) = lN 5 from rfl, lN_mul, lcgt (by omega) (by omega)]; omega
    conv => lhs; unfold l_L_law_1546
    rw [if_neg (show ¬ (9 : Int32) ≤ nI m from nI_ge (b := 9) (by omega) (by decide)), p1, bnd2S, if_pos rfl, upI h1, bndS, if_neg c1, loI h1, bndS, if_neg c2, bndS, bndS, if_neg c3, bndS, bndS, if_pos c4, bndS, bndS, p2, bnd2S]
    simp only [nmE, if_true, upI h2, loI h2, bndS, c5, c6, if_false, nI_1, next]
set_option maxHeartbeats 4000000 in
theorem odds9_l {L : Nat} {xs : Nat → Int32} {a5 : Int32} {K : Sg → Option Bool} {i p : Nat} (hi : i < n) (hp : p < 13) (e : moreV (run n (iniV w) cs) i = -9)
    (hK : ∀ U V σ, IW n w cs kc RS RA A U V T X Y σ → K σ = some true) : ∀ r m N U V σ, m + r = 9 → r < N → IW n w cs kc RS RA A U V T X Y σ → l_L_law_1546 L xs a5 (nI i) (nI p) K N (lN 0) (lN 1) (nI m) σ = some true := by
  intro r
  induction r with
  | zero =>
    intro m N U V σ hm hN h
    obtain ⟨N, rfl⟩ : ∃ k, N = k + 1 := ⟨N - 1, by omega⟩
    unfold l_L_law_1546
    rw [if_pos (show (9 : Int32) ≤ nI m from nI_le (a := 9) (by omega) (by omega))]
    exact hK U V σ h
  | succ r ih =>
    intro m N U V σ hm hN h
    obtain ⟨N, rfl⟩ : ∃ k, N = k + 1 := ⟨N - 1, by omega⟩
    obtain ⟨σ1, p1, h1⟩ := k_odds9 h hi (show m < 9 by omega) hp e
    obtain ⟨σ2, p2, h2⟩ := k_mid9 h1 hi (show m < 9 by omega) hp e
    have next : l_L_law_1546 L xs a5 (nI i) (nI p) K N (lN 0) (lN 1) (nI (m + 1)) σ2 = some true := ih (m + 1) N _ _ σ2 (by omega) (by omega) h2
    have c1 : ¬ lg_cmp (lN 0) (0 : Int64) < 0 := by decide
    have c2 : ¬ lg_cmp (lN 1) (1 : Int64) < 0 := by decide
    have c3 : ¬ 0 < lg_cmp (lN 0) (lN 1) := by decide
    have c4 : 0 ≤ lg_cmp (lN 0 * lN 1) (lN 0 * lN 1) := by decide
    have c7 : lg_cmp (lN 0) (0 : Int64) = 0 := by decide
    conv => lhs; unfold l_L_law_1546
    rw [if_neg (show ¬ (9 : Int32) ≤ nI m from nI_ge (b := 9) (by omega) (by decide)), p1, bnd2S, if_pos rfl, upI h1, bndS, if_neg c1, loI h1, bndS, if_neg c2, bndS, bndS, if_neg c3, bndS, bndS, if_pos c4, bndS, bndS, p2, bnd2S]
    simp only [nmE, show ((-3 : Int32) = 1) = False from eq_false (by decide), if_true, if_false, c7, nI_1, next]
end MFF
