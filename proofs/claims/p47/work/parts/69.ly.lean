section LYY
variable {n : Nat} {w : Nat → Int32} {cs : List Nat} {kc : Option (List Nat)} {A : Int32} {U V : Int64} {T X Y : Nat → Int32}
theorem one_bit : ∀ j < 6, ∀ i < 6, (2 ^ j).testBit i = decide (i = j) := by decide
theorem gset1 {v : Nat → Int32} (hn : n ≤ 6) {j : Nat} (hj : j < n) (h : wakB v j = true) : GSet n v (2 ^ j) := by
  refine ⟨Nat.lt_of_lt_of_le (Nat.pow_lt_pow_right (by decide) hj) (p64 hn), fun i hi hb => ?_⟩
  rw [one_bit j (by omega) i hi] at hb
  have e := of_decide_eq_true hb
  subst e
  exact ⟨hj, of_decide_eq_true h⟩
theorem can1 {v : Nat → Int32} (hn : n ≤ 6) {j : Nat} (hj : j < n) : canV v (nI (2 ^ j)) n = wakB v j := by
  cases h : wakB v j
  · cases hc : canV v (nI (2 ^ j)) n
    · rfl
    · have hG := GSet_can hn (Nat.pow_lt_pow_right (by decide) hj) hc
      have := (hG.2 j (by omega) (by rw [one_bit j (by omega) j (by omega)]; exact decide_eq_true rfl)).2
      unfold wakB at h
      exact absurd this (of_decide_eq_false h)
  · exact can_of hn (gset1 hn hj h)
set_option maxHeartbeats 4000000 in
theorem alone_l {L : Nat} {xs : Nat → Int32} {a5 : Int32} {K : Int32 → Bool → Sg → Option Bool} (h0 : 0 < n) (hT : TR n w T)
    (hK : ∀ x8 RS RA σ, IW n w cs kc RS RA A U V T X Y σ → (x8 = true → ∃ i, i < n ∧ Feas n (run n (iniV w) cs) (2 ^ i)) → K (nI (bsN (wakB (run n (iniV w) cs)) n)) x8 σ = some true) :
    ∀ m j N x8 RS RA σ, j + m = n → m < N → IW n w cs kc RS RA A U V T X Y σ → (x8 = true → ∃ i, i < n ∧ Feas n (run n (iniV w) cs) (2 ^ i)) → l_L_law_744 L xs a5 K N (nI (bsN (wakB (run n (iniV w) cs)) j)) x8 (nI j) σ = some true := by
  intro m
  induction m with
  | zero =>
    intro j N x8 RS RA σ hj hN h h8
    obtain ⟨N, rfl⟩ : ∃ k, N = k + 1 := ⟨N - 1, by omega⟩
    have hn := h.n6
    unfold l_L_law_744
    rw [show inB (1 : Int32) (cLen 41) = true by decide, ckT, cl1, h.t, hT.2.1, show j = n by omega, if_pos (nI_le (Nat.le_refl _) (by omega))]
    exact hK x8 RS RA σ h h8
  | succ m ih =>
    intro j N x8 RS RA σ hj hN h h8
    obtain ⟨N, rfl⟩ : ∃ k, N = k + 1 := ⟨N - 1, by omega⟩
    have hn := h.n6
    have hv := h.vw
    have hjn : j < n := by omega
    have r1 : gA σ 41 1 = nI n := by rw [h.t]; exact hT.2.1
    have hlt : 2 ^ j < 2 ^ n := Nat.pow_lt_pow_right (by decide) hjn
    have hc := can1 (v := run n (iniV w) cs) hn hjn
    have hso := k_soonest h hlt
    have h64 : bsN (wakB (run n (iniV w) cs)) j < 64 := bsN_64 _ (by omega)
    have hor := orb j (by omega) _ h64 (bsN_lt _ _)
    have enext : bsN (wakB (run n (iniV w) cs)) (j + 1) = bsN (wakB (run n (iniV w) cs)) j + (if wakB (run n (iniV w) cs) j then 2 ^ j else 0) := rfl
    conv => lhs; unfold l_L_law_744
    rw [show inB (1 : Int32) (cLen 41) = true by decide, ckT, cl1, r1, if_neg (nI_ge hjn (by omega)), show (2 : Int32) = nI 2 from rfl]
    cases hw : wakB (run n (iniV w) cs) j
    · rw [hw] at hc enext
      have enext : bsN (wakB (run n (iniV w) cs)) (j + 1) = bsN (wakB (run n (iniV w) cs)) j := by rw [enext]; rfl
      have hin := k_intime0 h hlt (r := 2) (by decide) hc
      rw [hc, if_neg (by decide)] at hso
      rw [shl1 j (by omega), hso, hin]
      simp only [bndS, bnd2S, nmE, show ((-4 : Int32) ≤ 0) = True from eq_true (by decide), if_true, nI_1]
      have := ih (j + 1) N x8 RS RA σ (by omega) (by omega) h h8
      rw [enext] at this
      exact this
    · rw [hw] at hc enext
      have hG := gset1 hn hjn hw
      have hpos := taps_pos hv hG (Nat.two_pow_pos j)
      obtain ⟨s1, s2, s3⟩ := soon_n hn hv hG
      rw [hc, if_pos rfl, s1] at hso
      have c46 : (nI (tapsN (moN (run n (iniV w) cs) n) (2 ^ j) + wkN (2 ^ j) (pN (run n (iniV w) cs))) ≤ (0 : Int32)) = False := le_F (b := 0) (by omega) (by omega)
      obtain ⟨σ', q1, q2⟩ := k_intime h hlt (r := 2) (by decide) hc
      rw [hor]
      have enext : bsN (wakB (run n (iniV w) cs)) (j + 1) = bsN (wakB (run n (iniV w) cs)) j + 2 ^ j := by rw [enext]; rfl
      rw [shl1 j (by omega), hso, q1]
      simp only [bndS, bnd2S, nmE, c46, if_false, nI_1]
      rcases q2 with ⟨qn, qh⟩ | ⟨b, f, qs, qh, -⟩
      · rw [qn, show encB (tapsN (moN (run n (iniV w) cs) n) (2 ^ j)) none = -9 from rfl, if_pos (by decide)]
        have := ih (j + 1) N x8 RS RA σ' (by omega) (by omega) qh h8
        rw [enext] at this
        exact this
      · have hF : Feas n (run n (iniV w) cs) (2 ^ j) := ⟨hG, by rw [qs]; rfl⟩
        obtain ⟨b', e1, e2, e3⟩ := feas_enc hn hv hF
        have z0 : ¬ nI (b'.1 + tapsN (moN (run n (iniV w) cs) n) (2 ^ j)) ≤ (0 : Int32) := nI_ge (a := 0) (by omega) (by omega)
        rw [e3, if_neg z0]
        have := ih (j + 1) N true _ _ σ' (by omega) (by omega) qh (fun _ => ⟨j, hjn, hF⟩)
        rw [enext] at this
        exact this
end LYY
