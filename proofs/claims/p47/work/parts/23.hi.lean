/-- a town as its text has it -/
def iniV (w : Nat → Int32) : Nat → Int32 := fun k => if 23 ≤ k then w k else if k = 3 then w 36 else if 5 ≤ k ∧ k < 11 then w (37 + (k - 5)) else if 17 ≤ k then -9 else 0
def run (n : Nat) (v : Nat → Int32) (cs : List Nat) : Nat → Int32 := cs.foldl (fun v c => stp n c v) v
theorem run_snoc (n : Nat) (v : Nat → Int32) (cs : List Nat) (c : Nat) : run n v (cs ++ [c]) = stp n c (run n v cs) := by unfold run; rw [List.foldl_append]; rfl
/-- what a text can say -/
def STW (n : Nat) (w : Nat → Int32) : Prop := n ≤ 6 ∧ (w 36 = 0 ∨ w 36 = 1) ∧ (∃ q, q < 100 ∧ w 35 = nI q) ∧ ∀ i, i < n → (∃ k, k < 6 ∧ w (23 + i) = nI k) ∧ (∃ x, x < 100 ∧ w (29 + i) = nI x) ∧ ∃ d, d < 100 ∧ w (37 + i) = nI d
def COK (n : Nat) (cs : List Nat) : Prop := cs.length ≤ 40 ∧ ∀ c, c ∈ cs → cok n c
theorem ini_rg {n : Nat} {w : Nat → Int32} (h : STW n w) : VWb 0 n (iniV w) := by
  obtain ⟨hn, h1, ⟨q, hq, eq⟩, h2⟩ := h
  refine ⟨h1, ⟨0, by omega, rfl⟩, ⟨0, Or.inr rfl, rfl⟩, ⟨q, hq, eq⟩, ⟨0, by omega, rfl⟩, ⟨0, by omega, rfl⟩, fun i hi => ?_⟩
  obtain ⟨⟨k, hk, ek⟩, ⟨x, hx, ex⟩, ⟨d, hd, ed⟩⟩ := h2 i hi
  unfold iniV
  refine ⟨⟨k, hk, ?_⟩, ⟨x, hx, ?_⟩, ⟨d, hd, ?_⟩, ⟨0, by omega, ?_⟩, Or.inl ?_⟩
  · rw [if_pos (by omega)]; exact ek
  · rw [if_pos (by omega)]; exact ex
  · rw [if_neg (by omega), if_neg (by omega), if_pos (by omega), show 37 + (5 + i - 5) = 37 + i by omega]; exact ed
  · rw [if_neg (by omega), if_neg (by omega), if_neg (by omega), if_neg (by omega)]; rfl
  · rw [if_neg (by omega), if_neg (by omega), if_neg (by omega), if_pos (by omega)]
theorem revInd {P : List Nat → Prop} (h0 : P []) (h1 : ∀ cs c, P cs → P (cs ++ [c])) (cs : List Nat) : P cs := by
  rw [← List.reverse_reverse cs]
  induction cs.reverse with
  | nil => exact h0
  | cons c l ih => rw [List.reverse_cons]; exact h1 _ _ ih
theorem run_rg {n : Nat} {w : Nat → Int32} (h : STW n w) {cs : List Nat} : cs.length ≤ 40 → (∀ c, c ∈ cs → cok n c) → VWb cs.length n (run n (iniV w) cs) := by
  refine revInd (P := fun cs => cs.length ≤ 40 → (∀ c, c ∈ cs → cok n c) → VWb cs.length n (run n (iniV w) cs)) ?_ ?_ cs
  · intro _ _; exact ini_rg h
  · intro cs c ih h1 h2
    rw [run_snoc, List.length_append]
    rw [List.length_append] at h1
    simp only [List.length_singleton] at h1 ⊢
    exact VWb_stp (ih (by omega) (fun c hc => h2 c (List.mem_append_left _ hc))) (h2 c (List.mem_append_right _ (List.mem_singleton.mpr rfl))) (by omega) h.1
theorem run_VW {n : Nat} {w : Nat → Int32} (h : STW n w) {cs : List Nat} (hc : COK n cs) : VW n (run n (iniV w) cs) := (run_rg h hc.1 hc.2).mono hc.1
theorem stp_stat {n c k : Nat} {v : Nat → Int32} {b : Nat} (hv : VWb b n v) (hc : cok n c) (hn : n ≤ 6) (hk : 23 ≤ k) : stp n c v k = v k := by
  obtain ⟨c0, c1, c2, c3⟩ := hc
  obtain ⟨p, hp, ep⟩ := hv.2.2.1
  unfold stp
  repeat' split
  · unfold walkV; rw [va_up_ne _ _ (by omega), va_up_ne _ _ (by omega)]
  · rw [ep, nI_clamp (by omega)]
    unfold tapV
    split
    · rw [va_up_ne _ _ (by omega), va_up_ne _ _ (by omega)]
    · rw [va_up_ne _ _ (by omega), va_up_ne _ _ (by omega), va_up_ne _ _ (by omega), va_up_ne _ _ (by omega)]
  · unfold slateV; rw [va_up_ne _ _ (by omega), va_up_ne _ _ (by omega)]
  · rw [va_up_ne _ _ (by omega)]
  · unfold nightV; rw [slpV_o (by omega) (by omega) (by omega) (by omega), va_up_ne _ _ (by omega)]
theorem run_stat {n k : Nat} {w : Nat → Int32} (h : STW n w) (hk : 23 ≤ k) {cs : List Nat} : cs.length ≤ 40 → (∀ c, c ∈ cs → cok n c) → run n (iniV w) cs k = w k := by
  refine revInd (P := fun cs => cs.length ≤ 40 → (∀ c, c ∈ cs → cok n c) → run n (iniV w) cs k = w k) ?_ ?_ cs
  · intro _ _; exact if_pos hk
  · intro cs c ih h1 h2
    rw [List.length_append] at h1
    simp only [List.length_singleton] at h1
    have h3 : ∀ c, c ∈ cs → cok n c := fun c hc => h2 c (List.mem_append_left _ hc)
    rw [run_snoc, stp_stat (run_rg h (by omega) h3) (h2 c (List.mem_append_right _ (List.mem_singleton.mpr rfl))) h.1 hk]
    exact ih (by omega) h3
theorem COK.take {n k : Nat} {cs : List Nat} (h : COK n cs) : COK n (cs.take k) := ⟨Nat.le_trans (by rw [List.length_take]; omega) h.1, fun c hc => h.2 c (List.mem_of_mem_take hc)⟩
theorem COK.snoc {n c : Nat} {cs : List Nat} (h : COK n cs) (hl : cs.length < 40) (hc : cok n c) : COK n (cs ++ [c]) := ⟨by rw [List.length_append]; simp only [List.length_singleton]; omega, fun d hd => by
  rcases List.mem_append.mp hd with e | e
  · exact h.2 d e
  · rw [List.mem_singleton.mp e]; exact hc⟩
/-! the class's side -/
def HD (cs : List Nat) (s : Nat) (σ : Sg) : Prop := gS σ (16 * stI s 6 + 1) = nI cs.length ∧ ∀ k, k < cs.length → gA σ (stI s 6) k = nI (cs.getD k 0)
def FD (n s : Nat) (σ : Sg) : Prop := gS σ (16 * stI s 2 + 1) = nI n ∨ (n = 0 ∧ gS σ (16 * stI s 2 + 1) = -1)
def CT (n : Nat) (w : Nat → Int32) (cs : List Nat) (s : Nat) (σ : Sg) : Prop := HC n (run n (iniV w) cs) s σ ∧ HD cs s σ ∧ FD n s σ
def FrD (s : Nat) (σ σ' : Sg) : Prop := (∀ k, ¬ (16 * s + 10 ≤ k ∧ k ≤ 16 * s + 14) → k ≠ 16 * stI s 3 + 1 → k ≠ 16 * stI s 4 + 1 → k ≠ 16 * stI s 5 + 1 → k ≠ 16 * stI s 6 + 1 → gS σ' k = gS σ k) ∧ (∀ a, a ≠ stI s 3 → a ≠ stI s 4 → a ≠ stI s 5 → a ≠ stI s 6 → gA σ' a = gA σ a) ∧ (∀ k, gL σ' k = gL σ k) ∧ ∀ k, gR σ' k = gR σ k
theorem FrC.d {s : Nat} {σ σ' : Sg} (h : FrC s σ σ') : FrD s σ σ' := ⟨fun k a b c d _ => h.1 k a b c d, fun k a b c _ => h.2.1 k a b c, h.2.2.1, h.2.2.2⟩
theorem FrD.rf (s : Nat) (σ : Sg) : FrD s σ σ := (FrC.rf s σ).d
theorem FrD.tr {s : Nat} {a b c : Sg} (h : FrD s a b) (g : FrD s b c) : FrD s a c := ⟨fun k h1 h2 h3 h4 h5 => (g.1 k h1 h2 h3 h4 h5).trans (h.1 k h1 h2 h3 h4 h5), fun k h1 h2 h3 h4 => (g.2.1 k h1 h2 h3 h4).trans (h.2.1 k h1 h2 h3 h4), fun k => (g.2.2.1 k).trans (h.2.2.1 k), fun k => (g.2.2.2 k).trans (h.2.2.2 k)⟩
section HI
variable {n : Nat} {w v : Nat → Int32} {s : Nat} {σ : Sg} {cs : List Nat}
theorem HD.kept {σ' : Sg} (hs : isS s) (h : HD cs s σ) (f : FrC s σ σ') : HD cs s σ' := by
  unfold isS at hs
  have e0 : stI s 0 = 7 * s - 2 + 0 := rfl
  have e1 : stI s 1 = 7 * s - 2 + 1 := rfl
  have e2 : stI s 2 = 7 * s - 2 + 2 := rfl
  have e3 : stI s 3 = 7 * s - 2 + 3 := rfl
  have e4 : stI s 4 = 7 * s - 2 + 4 := rfl
  have e5 : stI s 5 = 7 * s - 2 + 5 := rfl
  have e6 : stI s 6 = 7 * s - 2 + 6 := rfl
  refine ⟨(f.1 _ (by omega) (by omega) (by omega) (by omega)).trans h.1, fun k hk => ?_⟩
  rw [f.2.1 _ (by omega) (by omega) (by omega)]
  exact h.2 k hk
theorem FD.kept {σ' : Sg} (hs : isS s) (h : FD n s σ) (f : FrC s σ σ') : FD n s σ' := by
  unfold isS at hs
  have e0 : stI s 0 = 7 * s - 2 + 0 := rfl
  have e1 : stI s 1 = 7 * s - 2 + 1 := rfl
  have e2 : stI s 2 = 7 * s - 2 + 2 := rfl
  have e3 : stI s 3 = 7 * s - 2 + 3 := rfl
  have e4 : stI s 4 = 7 * s - 2 + 4 := rfl
  have e5 : stI s 5 = 7 * s - 2 + 5 := rfl
  have e6 : stI s 6 = 7 * s - 2 + 6 := rfl
  unfold FD
  rw [f.1 _ (by omega) (by omega) (by omega) (by omega)]
  exact h
/-- HC with only the street's other arrays written -/
theorem HC.out {σ' : Sg} (h : HC n v s σ) (f1 : ∀ k, k ≠ 16 * stI s 6 + 1 → gS σ' k = gS σ k) (f2 : ∀ a, a ≠ stI s 6 → gA σ' a = gA σ a) : HC n v s σ' := by
  have hs := h.2.1
  unfold isS at hs
  have e0 : stI s 0 = 7 * s - 2 + 0 := rfl
  have e1 : stI s 1 = 7 * s - 2 + 1 := rfl
  have e2 : stI s 2 = 7 * s - 2 + 2 := rfl
  have e3 : stI s 3 = 7 * s - 2 + 3 := rfl
  have e4 : stI s 4 = 7 * s - 2 + 4 := rfl
  have e5 : stI s 5 = 7 * s - 2 + 5 := rfl
  have e6 : stI s 6 = 7 * s - 2 + 6 := rfl
  have ej : ∀ j, stI s j = 7 * s - 2 + j := fun _ => rfl
  obtain ⟨a, b, c, ⟨d1, d2, d3, d4, d5, d6, d7⟩, e, f⟩ := h
  refine ⟨a, b, (f1 _ (by omega)).trans c, ⟨(f1 _ (by omega)).trans d1, (f1 _ (by omega)).trans d2, (f1 _ (by omega)).trans d3, (f1 _ (by omega)).trans d4, (f1 _ (by omega)).trans d5, (f1 _ (by omega)).trans d6, (f1 _ (by omega)).trans d7⟩, fun j hj h0 => (f1 _ (by have := ej j; omega)).trans (e j hj h0), fun i hi => ?_⟩
  rw [f2 _ (by omega), f2 _ (by omega), f2 _ (by omega), f2 _ (by omega), f2 _ (by omega), f2 _ (by omega)]
  exact f i hi
theorem X4_does_v (h : CT n w cs s σ) (hw : STW n w) (hco : COK n cs) (hl : cs.length < 40) {c : Nat} (hc : cok n c) {i1 i2 i3 : Int32} (e : i1 * 1000 + i2 * 100 + i3 = nI c) : ∃ σ', f_X4_does s i1 i2 i3 σ = some σ' ∧ CT n w (cs ++ [c]) s σ' ∧ FrD s σ σ' := by
  obtain ⟨h1, h2, h3⟩ := h
  have hs := h1.2.1
  have hs2 := hs
  unfold isS at hs2
  have e0 : stI s 0 = 7 * s - 2 + 0 := rfl
  have e1 : stI s 1 = 7 * s - 2 + 1 := rfl
  have e2 : stI s 2 = 7 * s - 2 + 2 := rfl
  have e3 : stI s 3 = 7 * s - 2 + 3 := rfl
  have e4 : stI s 4 = 7 * s - 2 + 4 := rfl
  have e5 : stI s 5 = 7 * s - 2 + 5 := rfl
  have e6 : stI s 6 = 7 * s - 2 + 6 := rfl
  unfold f_X4_does
  rw [e, nmE, X0_add_i h2.1 (by rw [cLen_st6 hs]; exact hl), bndS]
  have k1 : ∀ f, HC n (run n (iniV w) cs) s (pA (pS σ (16 * stI s 6 + 1) (nI (cs.length + 1))) (stI s 6) f) := fun f => h1.out (fun k hk => gS_ne _ _ hk) (fun a ha => gA_ne _ _ ha)
  have k2 : HD (cs ++ [c]) s (pA (pS σ (16 * stI s 6 + 1) (nI (cs.length + 1))) (stI s 6) (upd (gA σ (stI s 6)) cs.length (nI c))) := by
    refine ⟨?_, fun k hk => ?_⟩
    · rw [gS_pA, gS_same, List.length_append]; rfl
    · rw [gA_same]
      unfold upd
      rw [List.length_append] at hk
      simp only [List.length_singleton] at hk
      by_cases z : k = cs.length
      · subst z; rw [if_pos rfl]; simp
      · rw [if_neg z, h2.2 k (by omega)]
        simp only [List.getD_eq_getElem?_getD, List.getElem?_append_left (show k < cs.length by omega)]
  have k3 : FD n s (pA (pS σ (16 * stI s 6 + 1) (nI (cs.length + 1))) (stI s 6) (upd (gA σ (stI s 6)) cs.length (nI c))) := by
    unfold FD
    rw [gS_pA, gS_ne _ _ (by omega)]
    exact h3
  have k4 : FrD s σ (pA (pS σ (16 * stI s 6 + 1) (nI (cs.length + 1))) (stI s 6) (upd (gA σ (stI s 6)) cs.length (nI c))) := ⟨fun k _ _ _ _ h5 => gS_ne _ _ h5, fun a _ _ _ h4 => gA_ne _ _ h4, fun _ => rfl, fun _ => rfl⟩
  obtain ⟨σ2, p1, p2, p3⟩ := X4_perform_v (k1 (upd (gA σ (stI s 6)) cs.length (nI c))) (run_rg hw hco.1 hco.2) hc
  rw [p1, bndS]
  refine ⟨_, rfl, ⟨?_, k2.kept hs p3, k3.kept hs p3⟩, k4.tr p3.d⟩
  rw [run_snoc]
  exact p2
theorem iniV_eq {v : Nat → Int32} (h : ∀ k, 23 ≤ k → v k = w k) : iniV v = iniV w := by
  funext k
  unfold iniV
  repeat' split
  · exact h _ (by omega)
  · exact h _ (by omega)
  · exact h _ (by omega)
  · rfl
  · rfl
/-- the class does all deeds again, from the text on -/
theorem X4_replay_v (h : HC n v s σ) (hvw : ∀ k, 23 ≤ k → v k = w k) (hw : STW n w) (hd : HD cs s σ) (hf : FD n s σ) (hco : COK n cs) : ∃ σ', f_X4_replay s σ = some σ' ∧ CT n w cs s σ' ∧ FrC s σ σ' := by
  have hs := h.2.1
  have hn := h.1
  have hs2 := hs
  unfold isS at hs2
  have e0 : stI s 0 = 7 * s - 2 + 0 := rfl
  have e1 : stI s 1 = 7 * s - 2 + 1 := rfl
  have e2 : stI s 2 = 7 * s - 2 + 2 := rfl
  have e3 : stI s 3 = 7 * s - 2 + 3 := rfl
  have e4 : stI s 4 = 7 * s - 2 + 4 := rfl
  have e5 : stI s 5 = 7 * s - 2 + 5 := rfl
  have e6 : stI s 6 = 7 * s - 2 + 6 := rfl
  unfold f_X4_replay
  have A1 : ∃ σ1, f_X0_takeFrom (stI s 3) (stI s 2) σ = some σ1 ∧ FrC s σ σ1 ∧ HC n (fun k => if 5 ≤ k ∧ k < 5 + n then v (37 + (k - 5)) else v k) s σ1 := by
    rcases hf with hf | ⟨h0, hf⟩
    · rw [X0_takeFrom_i hf (by rw [cLen_st hs (by decide)]; exact hn) (by rw [cLen_st hs (by decide)]; exact hn) (by omega)]
      refine ⟨_, rfl, (FrC.s (Or.inr (Or.inl rfl))).tr (FrC.a (Or.inl rfl)), h.f3 (fun i hi => ?_) (fun k hk => ?_)⟩
      · rw [if_pos hi, if_pos (by omega), (h.2.2.2.2.2 i hi).2.2.1, show 37 + (5 + i - 5) = 37 + i by omega]
      · rw [if_neg hk]
    · rw [X0_takeFrom_n hf (by omega)]
      subst h0
      refine ⟨_, rfl, FrC.s (Or.inr (Or.inl rfl)), ?_⟩
      have := h.f3 (w := gA (pS σ (16 * stI s 3 + 1) (nI 0)) (stI s 3)) (v' := fun k => if 5 ≤ k ∧ k < 5 + 0 then v (37 + (k - 5)) else v k) (fun i hi => absurd hi (by omega)) (fun k hk => by rw [if_neg hk])
      rw [pA_self] at this
      exact this
  obtain ⟨σ1, a1, g1, h1⟩ := A1
  rw [a1, bndS]
  simp only [nmE]
  have h2 := ((h1.p10 (gS σ1 (16 * s + 9))).p12 0).p14 0
  have g2 : FrC s σ1 (pS (pS (pS σ1 (16 * s + 10) (gS σ1 (16 * s + 9))) (16 * s + 12) 0) (16 * s + 14) 0) := ((FrC.s (Or.inl (by omega))).tr (FrC.s (Or.inl (by omega)))).tr (FrC.s (Or.inl (by omega)))
  rw [h1.2.2.2.1.2.1] at h2 g2 ⊢
  obtain ⟨σ2, a2, h3, g3⟩ := X4_sleep_v h2
  rw [a2, bndS]
  have g4 : FrC s σ σ2 := (g1.tr g2).tr g3
  have h4 : HC n (iniV w) s σ2 := by
    refine h3.congr (fun k hk => ?_) (fun k hk => ?_) (fun i hi => ?_)
    · unfold iniV
      by_cases k0 : k = 0
      · subst k0; rfl
      by_cases k2 : k = 2
      · subst k2; rfl
      rw [slpV_o k0 k2 (by omega) (by omega)]
      simp only [va_up]
      by_cases k3 : k = 3
      · subst k3
        simp
        rw [if_neg (by omega)]
        exact hvw 36 (by omega)
      · rcases (show k = 1 ∨ k = 4 by omega) with e | e <;> subst e <;> simp
    · rw [slpV_o (by omega) (by omega) (by omega) (by omega), va_up_ne _ _ (by omega), va_up_ne _ _ (by omega), va_up_ne _ _ (by omega), if_neg (by omega)]
      unfold iniV
      rw [if_pos hk]
      exact hvw k hk
    · refine ⟨?_, ?_, ?_⟩
      · rw [slpV_o (by omega) (by omega) (by omega) (by omega), va_up_ne _ _ (by omega), va_up_ne _ _ (by omega), va_up_ne _ _ (by omega), if_pos (by omega)]
        unfold iniV
        rw [if_neg (by omega), if_neg (by omega), if_pos (by omega)]
        exact hvw _ (by omega)
      · rw [slpV_t hi]
        unfold iniV
        rw [if_neg (by omega), if_neg (by omega), if_neg (by omega), if_neg (by omega)]
      · rw [slpV_y hn hi]
        unfold iniV
        rw [if_neg (by omega), if_neg (by omega), if_neg (by omega), if_pos (by omega)]
  have hlen := hco.1
  suffices H : ∀ (m j N : Nat) (σ3 : Sg), j + m = cs.length → m < N → HC n (run n (iniV w) (cs.take j)) s σ3 → FrC s σ σ3 → ∃ σ', l_X4_replay_35 s (fun σv => some σv) N (nI j) σ3 = some σ' ∧ HC n (run n (iniV w) cs) s σ' ∧ FrC s σ σ' by
    obtain ⟨σ', b1, b2, b3⟩ := H cs.length 0 FU σ2 (by omega) (lt_FU (by omega)) h4 g4
    exact ⟨σ', b1, ⟨b2, hd.kept hs b3, hf.kept hs b3⟩, b3⟩
  intro m
  induction m with
  | zero =>
    intro j N σ3 hj hN k1 k2
    obtain ⟨N, rfl⟩ : ∃ k, N = k + 1 := ⟨N - 1, by omega⟩
    unfold l_X4_replay_35
    rw [(hd.kept hs k2).1, if_pos (nI_le (by omega) (by omega))]
    refine ⟨_, rfl, ?_, k2⟩
    rw [List.take_of_length_le (by omega)] at k1
    exact k1
  | succ m ih =>
    intro j N σ3 hj hN k1 k2
    obtain ⟨N, rfl⟩ : ∃ k, N = k + 1 := ⟨N - 1, by omega⟩
    unfold l_X4_replay_35
    have hd3 := hd.kept hs k2
    rw [hd3.1, if_neg (nI_ge (by omega) (by omega)), X0_get_i hd3.1 (by rw [cLen_st6 hs]; exact hlen) (show j < cs.length by omega), bndS, hd3.2 j (by omega)]
    have hcj : cs.getD j 0 = cs[j]'(by omega) := by simp [show j < cs.length by omega]
    have hcm : cok n (cs.getD j 0) := by rw [hcj]; exact hco.2 _ (List.getElem_mem _)
    have hct := hco.take (k := j)
    obtain ⟨σ4, q1, q2, q3⟩ := X4_perform_v k1 (run_rg hw hct.1 hct.2) hcm
    rw [q1, bndS]
    simp only [nmE, nI_1]
    refine ih (j + 1) N σ4 (by omega) (by omega) ?_ (k2.tr q3)
    rw [← run_snoc] at q2
    rw [List.take_succ_eq_append_getElem (show j < cs.length by omega), ← hcj]
    exact q2
end HI
/-! the reference's side -/
/-- the places of 'now' that a town of n houses uses -/
def rl (n j : Nat) : Prop := j < 5 ∨ (5 ≤ j ∧ j < 5 + n) ∨ (11 ≤ j ∧ j < 11 + n) ∨ (17 ≤ j ∧ j < 17 + n)
def HSn (n : Nat) (w : Nat → Int32) (cs : List Nat) (τ : Sg) : Prop := gS τ 22 = nI cs.length ∧ ∀ k, k < cs.length → ∀ j, rl n j → gA τ 10 (23 * k + j) = run n (iniV w) (cs.take k) j
def MT (n : Nat) (w : Nat → Int32) (cs : List Nat) (τ : Sg) : Prop := HM n (run n (iniV w) cs) τ ∧ HSn n w cs τ
section HJ
variable {n : Nat} {w v : Nat → Int32} {τ : Sg} {cs : List Nat}
theorem HM.at (h : HM n v τ) {j : Nat} (hj : rl n j) : gA τ 9 j = v j := by
  rcases hj with e | ⟨e1, e2⟩ | ⟨e1, e2⟩ | ⟨e1, e2⟩
  · exact h.now e
  · have := h.d (show j - 5 < n by omega)
    rwa [show 5 + (j - 5) = j by omega] at this
  · have := h.t (show j - 11 < n by omega)
    rwa [show 11 + (j - 11) = j by omega] at this
  · have := h.y (show j - 17 < n by omega)
    rwa [show 17 + (j - 17) = j by omega] at this
/-- 'now' written anew -/
theorem HM.nw {v' : Nat → Int32} (h : HM n v τ) {τ' : Sg} (h17 : gS τ' 17 = gS τ 17) (h16 : gS τ' 16 = gS τ 16) (h7 : gA τ' 7 = gA τ 7) (h8 : gA τ' 8 = gA τ 8) (hst : ∀ k, 23 ≤ k → v' k = v k) (hn : ∀ j, rl n j → gA τ' 9 j = v' j) : HM n v' τ' := by
  obtain ⟨a, b, c, d, e⟩ := h
  refine ⟨a, h17.trans b, (h16.trans c).trans (hst _ (by omega)).symm, fun k hk => hn k (Or.inl hk), fun i hi => ?_⟩
  obtain ⟨f1, f2, -⟩ := e i hi
  refine ⟨?_, ?_, hn _ (Or.inr (Or.inl (by omega))), hn _ (Or.inr (Or.inr (Or.inl (by omega)))), hn _ (Or.inr (Or.inr (Or.inr (by omega))))⟩
  · rw [h7, f1, hst _ (by omega)]
  · rw [h8, f2, hst _ (by omega)]
theorem HM.up (h : HM n v τ) {k : Nat} (hk : k < 23) (x : Int32) : HM n (va_up v k x) (pA τ 9 (upd (gA τ 9) k x)) := by
  refine h.nw rfl rfl (gA_ne _ _ (by decide)) (gA_ne _ _ (by decide)) (fun j hj => va_up_ne _ _ (by omega)) (fun j hj => ?_)
  rw [gA_same]
  unfold upd va_up
  by_cases e : j = k
  · rw [if_pos e, if_pos e]
  · rw [if_neg e, if_neg e, h.at hj]
theorem HM.congr {v' : Nat → Int32} (h : HM n v τ) (hst : ∀ k, 23 ≤ k → v' k = v k) (hn : ∀ j, rl n j → v j = v' j) : HM n v' τ := h.nw rfl rfl rfl rfl hst (fun j hj => (h.at hj).trans (hn j hj))
/-- arrays brought over -/
theorem bringg {a b i j : Nat} (hab : a ≠ b) : ∀ (m k : Nat) (τ : Sg), fo (fun k (τ : Sg) => pA τ b (upd (gA τ b) (j + k) (gA τ a (i + k)))) k m τ = pA τ b (fun x => if j + k ≤ x ∧ x < j + k + m then gA τ a (i + (x - j)) else gA τ b x) := by
  intro m
  induction m with
  | zero =>
    intro k τ
    show τ = _
    rw [show (fun x => if j + k ≤ x ∧ x < j + k + 0 then gA τ a (i + (x - j)) else gA τ b x) = gA τ b from funext fun x => by rw [if_neg (by omega)], pA_self]
  | succ m ih =>
    intro k τ
    show fo _ (k + 1) m (pA τ b (upd (gA τ b) (j + k) (gA τ a (i + k)))) = _
    rw [ih, pA_pA, gA_same, gA_ne _ _ hab]
    congr 1
    funext x
    unfold upd
    by_cases h1 : x = j + k
    · subst h1
      rw [if_neg (by omega), if_pos rfl, if_pos (by omega), show j + k - j = k by omega]
    · rw [if_neg h1]
      by_cases h2 : j + (k + 1) ≤ x ∧ x < j + (k + 1) + m
      · rw [if_pos h2, if_pos (by omega)]
      · rw [if_neg h2, if_neg (by omega)]
theorem HM.out (h : HM n v τ) {τ' : Sg} (h17 : gS τ' 17 = gS τ 17) (h16 : gS τ' 16 = gS τ 16) (h7 : gA τ' 7 = gA τ 7) (h8 : gA τ' 8 = gA τ 8) (h9 : gA τ' 9 = gA τ 9) : HM n v τ' := h.nw h17 h16 h7 h8 (fun _ _ => rfl) (fun j hj => by rw [h9]; exact h.at hj)
/-- a deed noted, then done -/
theorem MT_snoc {c : Nat} {f g : Nat → Int32} (hl : cs.length < 40) (hf : ∀ k, k < cs.length + 1 → ∀ j, rl n j → f (23 * k + j) = run n (iniV w) (cs.take k) j) (hm : HM n (stp n c (run n (iniV w) cs)) (pA (pS (pA τ 10 f) 22 (nI (cs.length + 1))) 9 g)) : MT n w (cs ++ [c]) (pA (pS (pA τ 10 f) 22 (nI (cs.length + 1))) 9 g) := by
  refine ⟨?_, ?_, fun k hk j hj => ?_⟩
  · rw [run_snoc]; exact hm
  · rw [gS_pA, gS_same, List.length_append]; rfl
  · rw [List.length_append] at hk
    simp only [List.length_singleton] at hk
    rw [gA_ne _ _ (by decide), gA_pS, gA_same, hf k (by omega) j hj, List.take_append_of_le_length (by omega)]
end HJ
