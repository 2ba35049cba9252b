section MBB
variable {n : Nat} {w : Nat → Int32} {cs : List Nat} {U V : Int64} {T X Y : Nat → Int32}
theorem sub_bits : ∀ S < 64, ∀ B < 64, al (fun i => !(S.testBit i) || B.testBit i) 0 6 = true → S &&& B = S := by decide +kernel
theorem g_sub {v : Nat → Int32} (hn : n ≤ 6) {S : Nat} (hG : GSet n v S) : S &&& bsN (wakB v) n = S := by
  refine sub_bits S hG.1 _ (bsN_64 _ hn) (al_mk 6 0 (fun i _ hi => ?_))
  cases hb : S.testBit i
  · rfl
  · obtain ⟨h1, h2⟩ := hG.2 i (by omega) hb
    rw [bsN_bit _ n hn i h1]
    exact decide_eq_true h2
theorem aw_sub {v v0 : Nat → Int32} (hn : n ≤ 6) {S : Nat} (hG : GSet n v0 S) (h : ∀ i, i < n → S.testBit i = true → awV v i = true) : S &&& bsN (awV v) n = S := by
  refine sub_bits S hG.1 _ (bsN_64 _ hn) (al_mk 6 0 (fun i _ hi => ?_))
  cases hb : S.testBit i
  · rfl
  · obtain ⟨h1, -⟩ := hG.2 i (by omega) hb
    rw [bsN_bit _ n hn i h1, h i h1 hb]
    rfl
theorem pc1 : ∀ i < 6, pcN (2 ^ i) = 1 := by decide
theorem pc32 : ∀ S < 32, pcN S ≤ 5 := by decide +kernel
/-- kept: back to the town, the greatest number, and on -/
theorem rest_ok {L : Nat} {xs : Nat → Int32} {z8 : Bool} {r54 : Int32} {S : Nat} (h0 : 0 < n) (hS : S < 64) (h8 : z8 = true → ∃ i, i < n ∧ Feas n (run n (iniV w) cs) (2 ^ i)) (h54 : r54 < 0 ∨ (S < 2 ^ n ∧ Feas n (run n (iniV w) cs) S))
    (hK : ∀ RS RA A σ, IW n w cs (some cs) RS RA A U V T X Y σ → l_L_law_1165 L xs (nI cs.length) σ (fun (v15_1202 : Int32) => (s_L_law_1202 L xs (nI cs.length) v15_1202 σ)) FU (0 : Int32) (0 : Int32) = some true)
    {cs' : List Nat} {RS : Nat → Int32} {RA : Nat → Nat → Int32} {A : Int32} {σ : Sg} (h : IW n w cs' (some cs) RS RA A U V T X Y σ) :
    (bnd2 (f_X5_on (1 : Int32) σ) (fun r56 σ56 => (if r56 = nI cs.length then
    (bnd2 (f_X5_many σ56) (fun r57 σ57 => (bnd (f_X5_asked σ57) (fun r58 => (if r57 < (b2i z8) then
    (some false)
    else
    (bnd (f_L_bits r58) (fun r59 => (if r57 = r59 then
    (if (r58 &&& (nI (bsN (wakB (run n (iniV w) cs)) n) ^^^ (-1 : Int32))) = 0 then
    (bnd2 (f_X5_intime r58 (2 : Int32) σ57) (fun r60 σ60 => (if r60 < 0 then
    (some false)
    else
    (bnd (f_L_bits (nI S)) (fun r61 => (nm (l_L_law_1165 L xs (nI cs.length) σ60
    (fun (v15_1202 : Int32) => (s_L_law_1202 L xs (nI cs.length) v15_1202 σ60)) FU (0 : Int32) (0 : Int32))
    (fun k1159 => (if r61 ≤ r57 then
    k1159
    else
    (if r54 < 0 then
    k1159
    else
    (some false))))))))))
    else
    (some false))
    else
    (some false)))))))))
    else
    (some false)))) = some true := by
  obtain ⟨σ56, o1, o2⟩ := k_on h
  have hn := o2.n6
  have hv := o2.vw
  obtain ⟨m1, m2⟩ := many_ok (v := run n (iniV w) cs) hn
  obtain ⟨σ57, p1, p2⟩ := k_many o2 h0
  have hMlt := manyG_lt n (run n (iniV w) cs)
  generalize fo (manyG n (run n (iniV w) cs)) 1 (2 ^ n - 1) 0 = M at m1 m2 p1 p2 hMlt
  have h64 := p64 hn
  have hM6 := pcN6 M (by omega)
  have ha : f_X5_asked σ57 = some (nI M) := by unfold f_X5_asked; rw [p2.ask]
  have h8' : ¬ nI (pcN M) < b2i z8 := by
    cases hz : z8
    · exact nI_pos (by omega)
    · obtain ⟨i, hi, hF⟩ := h8 hz
      have := m2 (2 ^ i) (Nat.pow_lt_pow_right (by decide) hi) hF
      rw [pc1 i (by omega)] at this
      exact (show ¬ nI (pcN M) < nI 1 from nI_nlt (by omega) (by omega))
  obtain ⟨b, e1, e2, e3⟩ := feas_enc hn hv m1
  have hT := tapsN30 (moN5 hv (n := n)) M
  obtain ⟨σ60, i1, i2⟩ := k_intime p2 hMlt (r := 2) (by decide) (can_of hn m1.1)
  rw [e3] at i1
  have i1 : f_X5_intime (nI M) (2 : Int32) σ57 = some (nI (b.1 + tapsN (moN (run n (iniV w) cs) n) M), σ60) := i1
  have fin : ∃ RS RA, IW n w cs (some cs) RS RA (nI M) U V T X Y σ60 := by
    rcases i2 with ⟨-, i3⟩ | ⟨b', f, -, i3, -⟩
    · exact ⟨_, _, i3⟩
    · exact ⟨_, _, i3⟩
  obtain ⟨RS', RA', hf⟩ := fin
  have hk := hK RS' RA' (nI M) σ60 hf
  have hand : nI M &&& (nI (bsN (wakB (run n (iniV w) cs)) n) ^^^ (-1 : Int32)) = 0 := by
    rw [notN M (by omega) _ (bsN_64 _ hn)]
    exact g_sub hn m1.1
  rw [o1, bnd2S, if_pos rfl, p1, bnd2S, ha, bndS, if_neg h8', bitsN_v (by omega), bndS, if_pos rfl, if_pos hand, i1, bnd2S, if_neg (nI_pos (by omega)), bitsN_v hS, bndS, nmE, hk]
  rcases h54 with z | ⟨z1, z2⟩
  · rw [if_pos z]
    split <;> rfl
  · rw [if_pos (nI_le (m2 S z1 z2) (by omega))]
end MBB
