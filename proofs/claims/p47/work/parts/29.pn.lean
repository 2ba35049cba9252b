/-- what the rounds leave of the state -/
def FE (σ σ' : Sg) : Prop := (∀ k, k ≠ 37 → ¬ (16 * 33 ≤ k ∧ k < 16 * 38) → gS σ' k = gS σ k) ∧ (∀ a, ¬ (33 ≤ a ∧ a < 38) → gA σ' a = gA σ a) ∧ (∀ k, gL σ' k = gL σ k) ∧ ∀ k, gR σ' k = gR σ k
theorem FE.rf (σ : Sg) : FE σ σ := ⟨fun _ _ _ => rfl, fun _ _ => rfl, fun _ => rfl, fun _ => rfl⟩
theorem FE.tr {σ σ' σ'' : Sg} (h : FE σ σ') (g : FE σ' σ'') : FE σ σ'' := ⟨fun k a b => (g.1 k a b).trans (h.1 k a b), fun k a => (g.2.1 k a).trans (h.2.1 k a), fun k => (g.2.2.1 k).trans (h.2.2.1 k), fun k => (g.2.2.2 k).trans (h.2.2.2 k)⟩
theorem FE.s {σ : Sg} {k : Nat} {x : Int32} (h : k = 37 ∨ (16 * 33 ≤ k ∧ k < 16 * 38)) : FE σ (pS σ k x) := ⟨fun j a b => gS_ne _ _ (by omega), fun _ _ => rfl, fun _ => rfl, fun _ => rfl⟩
theorem FE.a {σ : Sg} {a : Nat} {f : Nat → Int32} (h : 33 ≤ a ∧ a < 38) : FE σ (pA σ a f) := ⟨fun _ _ _ => rfl, fun j b => gA_ne _ _ (by omega), fun _ => rfl, fun _ => rfl⟩
theorem FK.fe {σ σ' : Sg} (h : FK σ σ') : FE σ σ' := ⟨fun k a b => h.1 k a (by omega), fun a b => h.2.1 a (by omega) (by omega), h.2.2.1, h.2.2.2⟩
theorem HC.fe {n s : Nat} {v : Nat → Int32} {σ σ' : Sg} (h : HC n v s σ) (f : FE σ σ') : HC n v s σ' := by
  obtain ⟨a, b, c, ⟨d1, d2, d3, d4, d5, d6, d7⟩, e, i⟩ := h
  have hs := b
  unfold isS at hs
  have ej : ∀ j, stI s j = 7 * s - 2 + j := fun _ => rfl
  have kS : ∀ j, 7 ≤ j → j < 15 → gS σ' (16 * s + j) = gS σ (16 * s + j) := fun j h1 h2 => f.1 _ (by omega) (by omega)
  have kI : ∀ j, j < 7 → gS σ' (16 * stI s j + 1) = gS σ (16 * stI s j + 1) := fun j h1 => f.1 _ (by have := ej j; omega) (by have := ej j; omega)
  have kA : ∀ j, j < 7 → gA σ' (stI s j) = gA σ (stI s j) := fun j h1 => f.2.1 _ (by have := ej j; omega)
  refine ⟨a, b, (kS 7 (by omega) (by omega)).trans c, ⟨(kS 8 (by omega) (by omega)).trans d1, (kS 9 (by omega) (by omega)).trans d2, (kS 10 (by omega) (by omega)).trans d3, (kS 11 (by omega) (by omega)).trans d4, (kS 12 (by omega) (by omega)).trans d5, (kS 13 (by omega) (by omega)).trans d6, (kS 14 (by omega) (by omega)).trans d7⟩, fun j hj h0 => (kI j (by omega)).trans (e j hj h0), fun q hq => ?_⟩
  rw [kA 0 (by omega), kA 1 (by omega), kA 2 (by omega), kA 3 (by omega), kA 4 (by omega), kA 5 (by omega)]
  exact i q hq
theorem FE.fx {σ σ' τ τ' : Sg} (h : okC σ) (f : FE σ σ') (g1 : ∀ k, gS τ' k = gS τ k) (g2 : ∀ a, a ≠ 14 → a ≠ 15 → gA τ' a = gA τ a) : FrX σ σ' τ τ' :=
  ⟨fun k _ _ _ _ a b => f.1 k a b, fun a _ b => f.2.1 a b, f.2.2.2 0, f.2.2.2 1, okC_gR h f.2.2.2, fun k _ => g1 k, fun a _ _ a1 a2 => g2 a a1 a2⟩
theorem FE.fnd {σ σ' τ τ' : Sg} (h : RFnd σ τ) (f : FE σ σ') (g1 : ∀ k, gS τ' k = gS τ k) (g2 : ∀ a, a ≠ 14 → a ≠ 15 → gA τ' a = gA τ a) (g3 : ∀ k, gL τ' k = gL τ k) : RFnd σ' τ' := by
  obtain ⟨a1, a2, a3, a4, a5, a6⟩ := h
  refine ⟨?_, ?_, ?_, ?_, ?_, fun i hi => ?_⟩
  · rw [f.1 _ (by decide) (by decide), g1]; exact a1
  · rw [f.1 _ (by decide) (by decide), g1]; exact a2
  · rw [f.2.2.1, g3]; exact a3
  · rw [f.2.2.1, g3]; exact a4
  · rw [f.1 _ (by decide) (by decide)]; exact a5
  · rw [f.2.1 _ (by decide), g2 _ (by decide) (by decide)]; exact a6 i hi
theorem Rel_fe {σ σ' τ τ' : Sg} (h : Rel σ τ) (f : FE σ σ') (g1 : ∀ k, gS τ' k = gS τ k) (g2 : ∀ a, a ≠ 14 → a ≠ 15 → gA τ' a = gA τ a) (g3 : ∀ k, gL τ' k = gL τ k) : Rel σ' τ' := h.cg (f.fx h.1 g1 g2) (f.fnd h.2.2.2.2.1 g1 g2 g3)
def StI (n : Nat) (v : Nat → Int32) (σ : Sg) (j : Nat) (σ' : Sg) : Prop := FE σ σ' ∧ gS σ' (16 * 35 + 1) = nI n ∧ gS σ' (16 * 36 + 1) = nI n ∧ ∀ i, i < j → gA σ' 35 i = moreV v i ∧ gA σ' 36 i = v (29 + i) - v 0
theorem start_v {n s : Nat} {v : Nat → Int32} {σ : Sg} (hC : HC n v s σ) : ∃ σ', f_X3_start s σ = some σ' ∧ StI n v σ n σ' := by
  have hn := hC.1
  have hs := hC.2.1
  have hss := hs
  unfold isS at hss
  unfold f_X3_start
  rw [hC.2.2.1, X0_fill_i (k := n) (show n ≤ cLen 35 from hn), bndS]
  obtain ⟨σ1, e1⟩ : ∃ x, x = pA (pS σ (16 * 35 + 1) (nI n)) 35 (fun i => if i < n then 0 else gA σ 35 i) := ⟨_, rfl⟩
  rw [← e1]
  have f1 : FE σ σ1 := by rw [e1]; exact (FE.s (Or.inr (by decide))).tr (FE.a (by decide))
  have s1 : gS σ1 (16 * 35 + 1) = nI n := by rw [e1, gS_pA, gS_same]
  clear e1
  rw [(hC.fe f1).2.2.1, X0_fill_i (k := n) (show n ≤ cLen 36 from hn), bndS]
  obtain ⟨σ2, e2⟩ : ∃ x, x = pA (pS σ1 (16 * 36 + 1) (nI n)) 36 (fun i => if i < n then 0 else gA σ1 36 i) := ⟨_, rfl⟩
  rw [← e2]
  have f2 : FE σ σ2 := by rw [e2]; exact (f1.tr (FE.s (Or.inr (by decide)))).tr (FE.a (by decide))
  have s2 : gS σ2 (16 * 35 + 1) = nI n := by rw [e2, gS_pA, gS_ne _ _ (by decide)]; exact s1
  have s3 : gS σ2 (16 * 36 + 1) = nI n := by rw [e2, gS_pA, gS_same]
  clear e2
  have := loopL (fun N j σ => l_X3_start_26 s (fun (σv74 : Sg) => (some σv74)) N (nI j) σ) (fun σ => some σ) (fun i σ => pA (pA σ 35 (upd (gA σ 35) i (moreV v i))) 36 (upd (gA (pA σ 35 (upd (gA σ 35) i (moreV v i))) 36) i (v (29 + i) - v 0))) n (StI n v σ)
    (fun N σ' hI => by
      show l_X3_start_26 s _ (N + 1) (nI n) σ' = _
      unfold l_X3_start_26
      rw [(hC.fe hI.1).2.2.1, if_pos (nI_le (Nat.le_refl _) (by omega))])
    (fun N i σ' hi hI => by
      obtain ⟨q1, q2, q3, q4⟩ := hI
      have hC' := hC.fe q1
      have w1 : FE σ' (pA σ' 35 (upd (gA σ' 35) i (moreV v i))) := FE.a (by decide)
      have hC2 := hC'.fe w1
      refine ⟨?_, ?_⟩
      · show l_X3_start_26 s _ (N + 1) (nI i) σ' = _
        conv => lhs; unfold l_X3_start_26
        rw [hC'.2.2.1, if_neg (nI_ge hi (by omega)), X4_more_v hC' hi, bndS, X0_set_i q2 (show n ≤ cLen 35 from hn) hi, bndS, hC2.g1 hi, bndS, hC2.2.2.2.1.2.2.2.1, X0_set_i (by rw [gS_pA]; exact q3) (show n ≤ cLen 36 from hn) hi, bndS, nmE, nI_1]
      · refine ⟨(q1.tr w1).tr (FE.a (by decide)), q2, q3, fun x hx => ?_⟩
        rw [gA_ne _ _ (show (35 : Nat) ≠ 36 by decide), gA_same, gA_same, gA_ne _ _ (show (36 : Nat) ≠ 35 by decide)]
        unfold upd
        by_cases e : x = i
        · subst e; rw [if_pos rfl, if_pos rfl]; exact ⟨rfl, rfl⟩
        · rw [if_neg e, if_neg e]; exact q4 x (by omega))
    n 0 FU σ2 (by omega) (lt_FU (by omega)) ⟨f2, s2, s3, fun i hi => absurd hi (by omega)⟩
  exact ⟨_, this.1, this.2⟩
theorem taps_eq {n : Nat} {v : Nat → Int32} (hn : n ≤ 6) (hv : VW n v) {S : Nat} (hG : GSet n v S) : tapsLeftV v (nI S) n = nI (tapsN (moN v n) S) := by
  unfold tapsLeftV
  have h1 : fo (fun i x => x + (if hoV (nI S) i then mmax 0 (moreV v i) else 0)) 0 n 0 = fo (fun i x => x + nI (if S.testBit i then moN v n i else 0)) 0 n 0 := fo_congr _ _ _ (fun i a _ hi => by
    rw [hoB S hG.1 i (by omega)]
    cases e : S.testBit i with
    | false => rfl
    | true =>
      obtain ⟨hin, hpos⟩ := hG.2 i (by omega) e
      rw [if_pos rfl, if_pos rfl, (moN_v hv hin hpos).1, mx0 (by have := moN5 hv (n := n) i; omega)])
  have h2 := fo_ext (g := fun i (x : Int32) => x + nI (if S.testBit i then moN v n i else 0)) (6 - n) n 0 0 (fun i a g1 g2 => by
    cases e : S.testBit i with
    | false => rw [if_neg (by decide)]; exact Int32.add_zero a
    | true => have := (hG.2 i (by omega) e).1; omega)
  rw [show n + (6 - n) = 6 by omega] at h2
  rw [h1, ← h2]
  show nI 0 + nI (if S.testBit 0 then moN v n 0 else 0) + nI (if S.testBit 1 then moN v n 1 else 0) + nI (if S.testBit 2 then moN v n 2 else 0) + nI (if S.testBit 3 then moN v n 3 else 0) + nI (if S.testBit 4 then moN v n 4 else 0) + nI (if S.testBit 5 then moN v n 5 else 0) = _
  unfold tapsN
  simp only [nI_add, Nat.zero_add, Nat.add_assoc]
theorem fewest_v {n s : Nat} {v : Nat → Int32} {σ : Sg} (hC : HC n v s σ) (hv : VW n v) {S : Nat} (hG : GSet n v S) : ∃ x σ', f_X3_fewest s (nI S) σ = some (x, σ') ∧ FE σ σ' ∧ x = encB (tapsN (moN v n) S) (bestN n v S) ∧ ∀ b, bestN n v S = some b → gS σ' (16 * 37 + 1) = nI (pcN S) ∧ ∀ x, x < pcN S → gA σ' 37 x = nI (dgt (pcN S) b.2 x) := by
  have hn := hC.1
  have hk := pcN6 S hG.1
  obtain ⟨σ1, p1, f1, q1, q2, q3⟩ := start_v hC
  unfold f_X3_fewest
  rw [p1, bndS, X4_tapsLeft_v (hC.fe f1), taps_eq hn hv hG, bndS, nmE, bitC S hG.1, bitsN S hG.1, bndS, X0_fill_i (k := pcN S) (show pcN S ≤ cLen 34 from hk), bndS]
  clear p1
  obtain ⟨σ5, e5⟩ : ∃ x, x = pA (pS (pS σ1 37 (1000 : Int32)) (16 * 34 + 1) (nI (pcN S))) 34 (fun i => if i < pcN S then 0 else gA (pS σ1 37 (1000 : Int32)) 34 i) := ⟨_, rfl⟩
  rw [← e5]
  have f5 : FE σ σ5 := by rw [e5]; exact ((f1.tr (FE.s (Or.inl rfl))).tr (FE.s (Or.inr (by decide)))).tr (FE.a (by decide))
  have hSE : SE n v (pcN S) σ5 := by
    refine ⟨?_, ?_, ?_, fun i hi => ?_⟩
    · rw [e5, gS_pA, gS_ne _ _ (by decide), gS_ne _ _ (by decide)]; exact q1
    · rw [e5, gS_pA, gS_ne _ _ (by decide), gS_ne _ _ (by decide)]; exact q2
    · rw [e5, gS_pA, gS_same]
    · rw [e5, gA_ne _ _ (by decide), gA_ne _ _ (by decide)]; exact q3 i hi
  have hSB : SB (pcN S) none σ5 := ⟨fun _ => by rw [e5, gS_pA, gS_ne _ _ (by decide), gS_same]; rfl, (fun b hb => by cases hb)⟩
  clear e5
  have hC5 := hC.fe f5
  have hsk := seek_v hn hv hG rfl (pcN S) 0 9 0 (0, pN v, 0, 0) σ5 none (by omega) (by omega) rfl (Nat.zero_and S) hSE (fun x hx => absurd hx (by omega)) hSB
  dsimp only at hsk
  rw [Nat.sub_zero] at hsk
  obtain ⟨σ6, r1, r2, r3, r4⟩ := hsk
  have hb : blk n v (pcN S) S (pcN S) 0 none = bestN n v S := by
    unfold blk bestN
    rw [Nat.zero_mul]
  rw [hb] at r4
  rw [hC5.2.2.2.1.2.2.2.2.2.1, (pN_v hn hv).1, show (0 : Int32) = nI 0 from rfl, r1, bndS]
  refine ⟨_, σ6, ?_, f5.tr r2.fe, rfl, fun b hbb => ⟨(r4.2 b hbb).2.2.1, (r4.2 b hbb).2.2.2⟩⟩
  cases hst : bestN n v S with
  | none =>
    rw [r4.1 hst, if_pos (show nI 1000 = (1000 : Int32) from rfl)]
    rfl
  | some b =>
    obtain ⟨b1, b2, -⟩ := r4.2 b hst
    rw [b2, if_neg (by rw [show (1000 : Int32) = nI 1000 from rfl, nIeq (by omega) (by omega)]; omega), nI_add]
    rfl
