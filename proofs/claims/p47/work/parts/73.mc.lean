section MCC
variable {n : Nat} {w : Nat → Int32} {cs : List Nat} {U V : Int64} {T X Y : Nat → Int32}
set_option maxHeartbeats 8000000 in
theorem seg802 {L : Nat} {xs : Nat → Int32} (hL : L ≤ 260) {z8 : Bool} (h0 : 0 < n) (hn5 : n ≤ 5) (hT : TR n w T) (h8 : z8 = true → ∃ i, i < n ∧ Feas n (run n (iniV w) cs) (2 ^ i))
    (hK : ∀ RS RA A σ, IW n w cs (some cs) RS RA A U V T X Y σ → l_L_law_1165 L xs (nI cs.length) σ (fun (v15_1202 : Int32) => (s_L_law_1202 L xs (nI cs.length) v15_1202 σ)) FU (0 : Int32) (0 : Int32) = some true)
    {RS : Nat → Int32} {RA : Nat → Nat → Int32} {A : Int32} {σ : Sg} (h : IW n w cs (some cs) RS RA A U V T X Y σ) :
    s_L_law_802 L xs (nI cs.length) (nI (bsN (wakB (run n (iniV w) cs)) n)) z8 σ = some true := by
  have hn := h.n6
  have hv := h.vw
  have h64 := p64 hn
  have hlen := h.cok.1
  have hw : ∀ k, 23 ≤ k → run n (iniV w) cs k = w k := fun k hk => run_stat h.stw hk h.cok.1 h.cok.2
  have r1 : gA σ 41 1 = nI n := by rw [h.t]; exact hT.2.1
  have ez : f_L_cell L xs (22 : Int32) σ = some (cellV L xs 22) := cell_v hL (k := 22) (by decide) σ
  generalize cellV L xs 22 = z at ez
  have hp : 0 < 2 ^ n := Nat.two_pow_pos n
  have hx := Nat.mod_lt (lowK z) hp
  have el : f_L_low z ((1 : Int32) <<< (nI n &&& 31)) = some (nI (lowK z % 2 ^ n)) := by rw [shl1 n (by omega)]; exact low_v z hp (by omega)
  have hG := g_of_and (v := run n (iniV w) cs) (x := lowK z % 2 ^ n) hn rfl
  have hand := andN _ (bsN_64 (wakB (run n (iniV w) cs)) hn) (lowK z % 2 ^ n) (by omega)
  generalize bsN (wakB (run n (iniV w) cs)) n &&& lowK z % 2 ^ n = S at hG hand
  have hS := hG.lt hn
  have hS6 : pcN S ≤ 5 := pc32 S (Nat.lt_of_lt_of_le hS (Nat.pow_le_pow_right (by decide) hn5))
  have hcan := can_of hn hG
  obtain ⟨s1, s2, s3⟩ := soon_n hn hv hG
  have hso := k_soonest h hS
  rw [hcan, if_pos rfl, s1] at hso
  obtain ⟨σ54, q1, q2⟩ := k_intime h hS (r := 2) (by decide) hcan
  have q1 : f_X5_intime (nI S) (2 : Int32) σ = _ := q1
  have hS0 : (nI S = (0 : Int32)) = (S = 0) := eq0 (by omega)
  have hq0 : (nI (tapsN (moN (run n (iniV w) cs) n) S + wkN S (pN (run n (iniV w) cs))) = (0 : Int32)) = (S = 0) := by
    rw [eq0 (by omega)]
    refine propext ⟨fun z => ?_, fun z => ?_⟩
    · by_cases e : S = 0
      · exact e
      · have := taps_pos hv hG (by omega)
        omega
    · subst z
      rw [taps_0, wk_0 _ (pN_v hn hv).2]
  unfold s_L_law_802
  rw [ez, bndS, show inB (1 : Int32) (cLen 41) = true by decide, ckT, cl1, r1, el, bndS, nmE, hand, hso, bndS, q1, bnd2S, if_neg (nI_pos (by omega))]
  have h853 : ∀ F : Option Bool, ∀ G : Option Bool, (nm (fun (t0_853 : Bool) => (nm (fun (t0_863 : Bool) => (if (b2i t0_853) = (b2i t0_863) then F else G))
    (fun k863 => (if nI (tapsN (moN (run n (iniV w) cs) n) S + wkN S (pN (run n (iniV w) cs))) = 0 then
    (k863 true)
    else
    (k863 false)))))
    (fun k853 => (if nI S = 0 then
    (k853 true)
    else
    (k853 false)))) = F := fun F G => by
    simp only [nmE, hS0, hq0]
    by_cases e : S = 0
    · rw [if_pos e, if_pos e]
      exact if_pos trivial
    · rw [if_neg e, if_neg e]
      exact if_pos trivial
  rw [h853]
  -- what comes behind the round
  have rest := fun (h54 : encB (tapsN (moN (run n (iniV w) cs) n) S) (bestN n (run n (iniV w) cs) S) < 0 ∨ (S < 2 ^ n ∧ Feas n (run n (iniV w) cs) S)) {cs' : List Nat} {RS : Nat → Int32} {RA : Nat → Nat → Int32} {A : Int32} {σ : Sg} (h : IW n w cs' (some cs) RS RA A U V T X Y σ) => rest_ok (L := L) (xs := xs) (z8 := z8) h0 (show S < 64 by omega) h8 h54 hK h
  rcases q2 with ⟨qn, qh⟩ | ⟨b, f, qs, qh, qf⟩
  · rw [qn] at rest ⊢
    have e9 : encB (tapsN (moN (run n (iniV w) cs) n) S) none = -9 := rfl
    rw [e9] at rest ⊢
    have hr := rest (Or.inl (by decide)) qh
    simp only [nmE, show ((-9 : Int32) < 0) = True from eq_true (by decide), if_true, show ((0 : Int32) ≤ -9) = False from eq_false (by decide), if_false, k_count1 qh, bndS]
    simp only [nmE, show ((-9 : Int32) < 0) = True from eq_true (by decide), if_true] at hr
    exact hr
  · have hF : Feas n (run n (iniV w) cs) S := ⟨hG, by rw [qs]; rfl⟩
    have hb30 : b.1 ≤ 30 := by
      obtain ⟨_, -, -, -, hb⟩ := best_walk hn hv qs
      exact hb
    have hlb := best_lb hn hv qs
    have eE : encB (tapsN (moN (run n (iniV w) cs) n) S) (bestN n (run n (iniV w) cs) S) = nI (b.1 + tapsN (moN (run n (iniV w) cs) n) S) := by rw [qs]; rfl
    rw [eE] at rest ⊢
    have p1 : (nI (b.1 + tapsN (moN (run n (iniV w) cs) n) S) < 0) = False := eq_false (nI_pos (by omega))
    have p2 : ((0 : Int32) ≤ nI (b.1 + tapsN (moN (run n (iniV w) cs) n) S)) = True := eq_true (nI_pos' (by omega))
    have p3 : (nI (b.1 + tapsN (moN (run n (iniV w) cs) n) S) < nI (tapsN (moN (run n (iniV w) cs) n) S + wkN S (pN (run n (iniV w) cs)))) = False := lt_F (by omega) (by omega)
    have hr := fun {cs' : List Nat} {RS : Nat → Int32} {RA : Nat → Nat → Int32} {A : Int32} {σ : Sg} (h : IW n w cs' (some cs) RS RA A U V T X Y σ) => rest (Or.inr ⟨hS, hF⟩) h
    rw [nmE, if_neg (of_eq_false p1), if_neg (of_eq_false p3), nmE, if_pos (of_eq_true p2), k_count1 qh, bndS, nmE]
    simp only [p1, if_false] at hr
    simp only [p1, if_false]
    by_cases e9 : (9 : Int32) ≤ nI cs.length
    · rw [if_pos e9]
      exact hr qh
    · have h9 : cs.length < 9 := by
        by_cases e : cs.length < 9
        · exact e
        · exact absurd (nI_le (a := 9) (by omega) (by omega)) e9
      rw [if_neg e9, bitsN_v (by omega), bndS]
      obtain ⟨sf, f1, f2', f3, -⟩ := best_walk hn hv qs
      have hall := FS_all (pN_v hn hv).2 (moN5 hv) _ _ _ (show FS (tN (run n (iniV w) cs)) (pN (run n (iniV w) cs)) (moN (run n (iniV w) cs) n) (waN (run n (iniV w) cs) n) (pcN S) b.2 = some sf from f1)
      obtain ⟨tn1, tn2⟩ := tN_v hv
      obtain ⟨pn1, pn2⟩ := pN_v hn hv
      have hm : sf.2.2.1 = b.1 + tapsN (moN (run n (iniV w) cs) n) S := by rw [hall.2.2.2.2.2, f3, f2']
      have r2 : va_up RS 2 (nI (pcN S)) 2 = nI (pcN S) := va_up_self _ _ _
      refine round_l (n := n) (w := w) (kc := some cs) h0 hn5 hT hv hw (S := S) (c := b.2) (len0 := cs.length) hG hS6 f1 (by rw [← hall.1]; exact f2') r2 (fun x hx => by rw [va_up_self]; exact qf x hx) (by omega) ?_ (pcN S) 0 FU cs A σ54 (0, pN (run n (iniV w) cs), 0, 0) (by omega) (lt_FU (by omega)) rfl qh (by rw [Nat.add_zero]; exact tn1) pn1 (fun i _ hb => by rw [Nat.zero_testBit] at hb; exact absurd hb (by decide)) (fun i _ _ => rfl) (by omega)
      intro cs2 A2 σ2 k1 k2 k3
      have e1 : run n (iniV w) cs2 0 - run n (iniV w) cs 0 = nI (b.1 + tapsN (moN (run n (iniV w) cs) n) S) := by
        rw [k2, tn1, nIsub (by omega), hm]
        congr 1
        omega
      have e2 : nI S &&& (nI (bsN (awV (run n (iniV w) cs2)) n) ^^^ (-1 : Int32)) = 0 := by
        rw [notN S (by omega) _ (bsN_64 _ hn)]
        exact aw_sub hn hG k3
      rw [bfT, k_count1 k1, bndS, if_pos e1, k_count6 k1, bndS, if_pos e2]
      have hr' := hr k1
      rw [bitsN_v (show S < 64 by omega)] at hr'
      exact hr'
end MCC
