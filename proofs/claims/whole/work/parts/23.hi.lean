/-- a town as its text has it -/
def iniV (w : Nat → Int32) : Nat → Int32 := fun k => if 23 ≤ k then w k else if k = 3 then w 36 else if 5 ≤ k ∧ k < 11 then w (37 + (k - 5)) else if 17 ≤ k then -9 else 0
def run (n : Nat) (v : Nat → Int32) (cs : List Nat) : Nat → Int32 := cs.foldl (fun v c => stp n c v) v
theorem run_snoc (n : Nat) (v : Nat → Int32) (cs : List Nat) (c : Nat) : run n v (cs ++ [c]) = stp n c (run n v cs) := by unfold run; rw [List.foldl_append]; rfl
/-- what a text can say -/
def STW (n : Nat) (w : Nat → Int32) : Prop := n ≤ 6 ∧ (w 36 = 0 ∨ w 36 = 1) ∧ (∃ q, q < 100 ∧ w 35 = nI q) ∧ ∀ i, i < n → (∃ k, k < 6 ∧ w (23 + i) = nI k) ∧ (∃ x, x < 100 ∧ w (29 + i) = nI x) ∧ ∃ d, d < 100 ∧ w (37 + i) = nI d
def COK (n : Nat) (cs : List Nat) : Prop := cs.length ≤ 40 ∧ ∀ c, c ∈ cs → cok n c
theorem ini_rg {n : Nat} {w : Nat → Int32} (h : STW n w) : VWb 0 n (iniV w) := by
  obtain ⟨hn, h1, ⟨q, hq, eq⟩, h2⟩ := h
  refine ⟨h1, ⟨0, by omega, rfl⟩, ⟨0, Or.inr rfl, rfl⟩, ⟨q, hq, eq⟩, ⟨0, by omega, rfl⟩, ⟨0, by omega, rfl⟩, fun i hi => ?_⟩
  obtain ⟨⟨k, hk, ek⟩, ⟨x, hx, ex⟩, ⟨d, hd, ed⟩⟩ := h2 i hi
  unfold iniV
  refine ⟨⟨k, hk, ?_⟩, ⟨x, hx, ?_⟩, ⟨d, hd, ?_⟩, ⟨0, by omega, ?_⟩, Or.inl ?_⟩
  · rw [if_pos (by omega)]; exact ek
  · rw [if_pos (by omega)]; exact ex
  · rw [if_neg (by omega), if_neg (by omega), if_pos (by omega), show 37 + (5 + i - 5) = 37 + i by omega]; exact ed
  · rw [if_neg (by omega), if_neg (by omega), if_neg (by omega), if_neg (by omega)]; rfl
  · rw [if_neg (by omega), if_neg (by omega), if_neg (by omega), if_pos (by omega)]
theorem revInd {P : List Nat → Prop} (h0 : P []) (h1 : ∀ cs c, P cs → P (cs ++ [c])) (cs : List Nat) : P cs := by
  rw [← List.reverse_reverse cs]
  induction cs.reverse with
  | nil => exact h0
  | cons c l ih => rw [List.reverse_cons]; exact h1 _ _ ih
theorem run_rg {n : Nat} {w : Nat → Int32} (h : STW n w) {cs : List Nat} : cs.length ≤ 40 → (∀ c, c ∈ cs → cok n c) → VWb cs.length n (run n (iniV w) cs) := by
  refine revInd (P := fun cs => cs.length ≤ 40 → (∀ c, c ∈ cs → cok n c) → VWb cs.length n (run n (iniV w) cs)) ?_ ?_ cs
  · intro _ _; exact ini_rg h
  · intro cs c ih h1 h2
    rw [run_snoc, List.length_append]
    rw [List.length_append] at h1
    simp only [List.length_singleton] at h1 ⊢
    exact VWb_stp (ih (by omega) (fun c hc => h2 c (List.mem_append_left _ hc))) (h2 c (List.mem_append_right _ (List.mem_singleton.mpr rfl))) (by omega) h.1
theorem run_VW {n : Nat} {w : Nat → Int32} (h : STW n w) {cs : List Nat} (hc : COK n cs) : VW n (run n (iniV w) cs) := (run_rg h hc.1 hc.2).mono hc.1
theorem stp_stat {n c k : Nat} {v : Nat → Int32} {b : Nat} (hv : VWb b n v) (hc : cok n c) (hn : n ≤ 6) (hk : 23 ≤ k) : stp n c v k = v k := by
  obtain ⟨c0, c1, c2, c3⟩ := hc
  obtain ⟨p, hp, ep⟩ := hv.2.2.1
  unfold stp
  repeat' split
  · unfold walkV; rw [va_up_ne _ _ (by omega), va_up_ne _ _ (by omega)]
  · rw [ep, nI_clamp (by omega)]
    unfold tapV
    split
    · rw [va_up_ne _ _ (by omega), va_up_ne _ _ (by omega)]
    · rw [va_up_ne _ _ (by omega), va_up_ne _ _ (by omega), va_up_ne _ _ (by omega), va_up_ne _ _ (by omega)]
  · unfold slateV; rw [va_up_ne _ _ (by omega), va_up_ne _ _ (by omega)]
  · rw [va_up_ne _ _ (by omega)]
  · unfold nightV; rw [slpV_o (by omega) (by omega) (by omega) (by omega), va_up_ne _ _ (by omega)]
theorem run_stat {n k : Nat} {w : Nat → Int32} (h : STW n w) (hk : 23 ≤ k) {cs : List Nat} : cs.length ≤ 40 → (∀ c, c ∈ cs → cok n c) → run n (iniV w) cs k = w k := by
  refine revInd (P := fun cs => cs.length ≤ 40 → (∀ c, c ∈ cs → cok n c) → run n (iniV w) cs k = w k) ?_ ?_ cs
  · intro _ _; exact if_pos hk
  · intro cs c ih h1 h2
    rw [List.length_append] at h1
    simp only [List.length_singleton] at h1
    have h3 : ∀ c, c ∈ cs → cok n c := fun c hc => h2 c (List.mem_append_left _ hc)
    rw [run_snoc, stp_stat (run_rg h (by omega) h3) (h2 c (List.mem_append_right _ (List.mem_singleton.mpr rfl))) h.1 hk]
    exact ih (by omega) h3
theorem COK.take {n k : Nat} {cs : List Nat} (h : COK n cs) : COK n (cs.take k) := ⟨Nat.le_trans (by rw [List.length_take]; omega) h.1, fun c hc => h.2 c (List.mem_of_mem_take hc)⟩
theorem COK.snoc {n c : Nat} {cs : List Nat} (h : COK n cs) (hl : cs.length < 40) (hc : cok n c) : COK n (cs ++ [c]) := ⟨by rw [List.length_append]; simp only [List.length_singleton]; omega, fun d hd => by
  rcases List.mem_append.mp hd with e | e
  · exact h.2 d e
  · rw [List.mem_singleton.mp e]; exact hc⟩
/-! the class's side -/
def HD (cs : List Nat) (s : Nat) (σ : Sg) : Prop := gS σ (16 * stI s 6 + 1) = nI cs.length ∧ ∀ k, k < cs.length → gA σ (stI s 6) k = nI (cs.getD k 0)
def FD (n s : Nat) (σ : Sg) : Prop := gS σ (16 * stI s 2 + 1) = nI n ∨ (n = 0 ∧ gS σ (16 * stI s 2 + 1) = -1)
def CT (n : Nat) (w : Nat → Int32) (cs : List Nat) (s : Nat) (σ : Sg) : Prop := HC n (run n (iniV w) cs) s σ ∧ HD cs s σ ∧ FD n s σ
def FrD (s : Nat) (σ σ' : Sg) : Prop := (∀ k, ¬ (16 * s + 10 ≤ k ∧ k ≤ 16 * s + 14) → k ≠ 16 * stI s 3 + 1 → k ≠ 16 * stI s 4 + 1 → k ≠ 16 * stI s 5 + 1 → k ≠ 16 * stI s 6 + 1 → gS σ' k = gS σ k) ∧ (∀ a, a ≠ stI s 3 → a ≠ stI s 4 → a ≠ stI s 5 → a ≠ stI s 6 → gA σ' a = gA σ a) ∧ (∀ k, gL σ' k = gL σ k) ∧ ∀ k, gR σ' k = gR σ k
theorem FrC.d {s : Nat} {σ σ' : Sg} (h : FrC s σ σ') : FrD s σ σ' := ⟨fun k a b c d _ => h.1 k a b c d, fun k a b c _ => h.2.1 k a b c, h.2.2.1, h.2.2.2⟩
theorem FrD.rf (s : Nat) (σ : Sg) : FrD s σ σ := (FrC.rf s σ).d
theorem FrD.tr {s : Nat} {a b c : Sg} (h : FrD s a b) (g : FrD s b c) : FrD s a c := ⟨fun k h1 h2 h3 h4 h5 => (g.1 k h1 h2 h3 h4 h5).trans (h.1 k h1 h2 h3 h4 h5), fun k h1 h2 h3 h4 => (g.2.1 k h1 h2 h3 h4).trans (h.2.1 k h1 h2 h3 h4), fun k => (g.2.2.1 k).trans (h.2.2.1 k), fun k => (g.2.2.2 k).trans (h.2.2.2 k)⟩
section HI
variable {n : Nat} {w v : Nat → Int32} {s : Nat} {σ : Sg} {cs : List Nat}
theorem HD.kept {σ' : Sg} (hs : isS s) (h : HD cs s σ) (f : FrC s σ σ') : HD cs s σ' := by
  unfold isS at hs
  have e0 : stI s 0 = 7 * s - 2 + 0 := rfl
  have e1 : stI s 1 = 7 * s - 2 + 1 := rfl
  have e2 : stI s 2 = 7 * s - 2 + 2 := rfl
  have e3 : stI s 3 = 7 * s - 2 + 3 := rfl
  have e4 : stI s 4 = 7 * s - 2 + 4 := rfl
  have e5 : stI s 5 = 7 * s - 2 + 5 := rfl
  have e6 : stI s 6 = 7 * s - 2 + 6 := rfl
  refine ⟨(f.1 _ (by omega) (by omega) (by omega) (by omega)).trans h.1, fun k hk => ?_⟩
  rw [f.2.1 _ (by omega) (by omega) (by omega)]
  exact h.2 k hk
theorem FD.kept {σ' : Sg} (hs : isS s) (h : FD n s σ) (f : FrC s σ σ') : FD n s σ' := by
  unfold isS at hs
  have e0 : stI s 0 = 7 * s - 2 + 0 := rfl
  have e1 : stI s 1 = 7 * s - 2 + 1 := rfl
  have e2 : stI s 2 = 7 * s - 2 + 2 := rfl
  have e3 : stI s 3 = 7 * s - 2 + 3 := rfl
  have e4 : stI s 4 = 7 * s - 2 + 4 := rfl
  have e5 : stI s 5 = 7 * s - 2 + 5 := rfl
  have e6 : stI s 6 = 7 * s - 2 + 6 := rfl
  unfold FD
  rw [f.1 _ (by omega) (by omega) (by omega) (by omega)]
  exact h
/-- HC with only the street's other arrays written -/
theorem HC.out {σ' : Sg} (h : HC n v s σ) (f1 : ∀ k, k ≠ 16 * stI s 6 + 1 → gS σ' k = gS σ k) (f2 : ∀ a, a ≠ stI s 6 → gA σ' a = gA σ a) : HC n v s σ' := by
  have hs := h.2.1
  unfold isS at hs
  have e0 : stI s 0 = 7 * s - 2 + 0 := rfl
  have e1 : stI s 1 = 7 * s - 2 + 1 := rfl
  have e2 : stI s 2 = 7 * s - 2 + 2 := rfl
  have e3 : stI s 3 = 7 * s - 2 + 3 := rfl
  have e4 : stI s 4 = 7 * s - 2 + 4 := rfl
  have e5 : stI s 5 = 7 * s - 2 + 5 := rfl
  have e6 : stI s 6 = 7 * s - 2 + 6 := rfl
  have ej : ∀ j, stI s j = 7 * s - 2 + j := fun _ => rfl
  obtain ⟨a, b, c, ⟨d1, d2, d3, d4, d5, d6, d7⟩, e, f⟩ := h
  refine ⟨a, b, (f1 _ (by omega)).trans c, ⟨(f1 _ (by omega)).trans d1, (f1 _ (by omega)).trans d2, (f1 _ (by omega)).trans d3, (f1 _ (by omega)).trans d4, (f1 _ (by omega)).trans d5, (f1 _ (by omega)).trans d6, (f1 _ (by omega)).trans d7⟩, fun j hj h0 => (f1 _ (by have := ej j; omega)).trans (e j hj h0), fun i hi => ?_⟩
  rw [f2 _ (by omega), f2 _ (by omega), f2 _ (by omega), f2 _ (by omega), f2 _ (by omega), f2 _ (by omega)]
  exact f i hi
theorem X4_does_v (h : CT n w cs s σ) (hw : STW n w) (hco : COK n cs) (hl : cs.length < 40) {c : Nat} (hc : cok n c) {i1 i2 i3 : Int32} (e : i1 * 1000 + i2 * 100 + i3 = nI c) : ∃ σ', f_X4_does s i1 i2 i3 σ = some σ' ∧ CT n w (cs ++ [c]) s σ' ∧ FrD s σ σ' := by
  obtain ⟨h1, h2, h3⟩ := h
  have hs := h1.2.1
  have hs2 := hs
  unfold isS at hs2
  have e0 : stI s 0 = 7 * s - 2 + 0 := rfl
  have e1 : stI s 1 = 7 * s - 2 + 1 := rfl
  have e2 : stI s 2 = 7 * s - 2 + 2 := rfl
  have e3 : stI s 3 = 7 * s - 2 + 3 := rfl
  have e4 : stI s 4 = 7 * s - 2 + 4 := rfl
  have e5 : stI s 5 = 7 * s - 2 + 5 := rfl
  have e6 : stI s 6 = 7 * s - 2 + 6 := rfl
  unfold f_X4_does
  rw [e, nmE, X0_add_i h2.1 (by rw [cLen_st6 hs]; exact hl), bndS]
  have k1 : ∀ f, HC n (run n (iniV w) cs) s (pA (pS σ (16 * stI s 6 + 1) (nI (cs.length + 1))) (stI s 6) f) := fun f => h1.out (fun k hk => gS_ne _ _ hk) (fun a ha => gA_ne _ _ ha)
  have k2 : HD (cs ++ [c]) s (pA (pS σ (16 * stI s 6 + 1) (nI (cs.length + 1))) (stI s 6) (upd (gA σ (stI s 6)) cs.length (nI c))) := by
    refine ⟨?_, fun k hk => ?_⟩
    · rw [gS_pA, gS_same, List.length_append]; rfl
    · rw [gA_same]
      unfold upd
      rw [List.length_append] at hk
      simp only [List.length_singleton] at hk
      by_cases z : k = cs.length
      · subst z; rw [if_pos rfl]; simp
      · rw [if_neg z, h2.2 k (by omega)]
        simp only [List.getD_eq_getElem?_getD, List.getElem?_append_left (show k < cs.length by omega)]
  have k3 : FD n s (pA (pS σ (16 * stI s 6 + 1) (nI (cs.length + 1))) (stI s 6) (upd (gA σ (stI s 6)) cs.length (nI c))) := by
    unfold FD
    rw [gS_pA, gS_ne _ _ (by omega)]
    exact h3
  have k4 : FrD s σ (pA (pS σ (16 * stI s 6 + 1) (nI (cs.length + 1))) (stI s 6) (upd (gA σ (stI s 6)) cs.length (nI c))) := ⟨fun k _ _ _ _ h5 => gS_ne _ _ h5, fun a _ _ _ h4 => gA_ne _ _ h4, fun _ => rfl, fun _ => rfl⟩
  obtain ⟨σ2, p1, p2, p3⟩ := X4_perform_v (k1 (upd (gA σ (stI s 6)) cs.length (nI c))) (run_rg hw hco.1 hco.2) hc
  rw [p1, bndS]
  refine ⟨_, rfl, ⟨?_, k2.kept hs p3, k3.kept hs p3⟩, k4.tr p3.d⟩
  rw [run_snoc]
  exact p2
theorem iniV_eq {v : Nat → Int32} (h : ∀ k, 23 ≤ k → v k = w k) : iniV v = iniV w := by
  funext k
  unfold iniV
  repeat' split
  · exact h _ (by omega)
  · exact h _ (by omega)
  · exact h _ (by omega)
  · rfl
  · rfl
/-- the class does all deeds again, from the text on -/
theorem X4_replay_v (h : HC n v s σ) (hvw : ∀ k, 23 ≤ k → v k = w k) (hw : STW n w) (hd : HD cs s σ) (hf : FD n s σ) (hco : COK n cs) : ∃ σ', f_X4_replay s σ = some σ' ∧ CT n w cs s σ' ∧ FrC s σ σ' := by
  have hs := h.2.1
  have hn := h.1
  have hs2 := hs
  unfold isS at hs2
  have e0 : stI s 0 = 7 * s - 2 + 0 := rfl
  have e1 : stI s 1 = 7 * s - 2 + 1 := rfl
  have e2 : stI s 2 = 7 * s - 2 + 2 := rfl
  have e3 : stI s 3 = 7 * s - 2 + 3 := rfl
  have e4 : stI s 4 = 7 * s - 2 + 4 := rfl
  have e5 : stI s 5 = 7 * s - 2 + 5 := rfl
  have e6 : stI s 6 = 7 * s - 2 + 6 := rfl
  unfold f_X4_replay
  have A1 : ∃ σ1, f_X0_takeFrom (stI s 3) (stI s 2) σ = some σ1 ∧ FrC s σ σ1 ∧ HC n (fun k => if 5 ≤ k ∧ k < 5 + n then v (37 + (k - 5)) else v k) s σ1 := by
    rcases hf with hf | ⟨h0, hf⟩
    · rw [X0_takeFrom_i hf (by rw [cLen_st hs (by decide)]; exact hn) (by rw [cLen_st hs (by decide)]; exact hn) (by omega)]
      refine ⟨_, rfl, (FrC.s (Or.inr (Or.inl rfl))).tr (FrC.a (Or.inl rfl)), h.f3 (fun i hi => ?_) (fun k hk => ?_)⟩
      · rw [if_pos hi, if_pos (by omega), (h.2.2.2.2.2 i hi).2.2.1, show 37 + (5 + i - 5) = 37 + i by omega]
      · rw [if_neg hk]
    · rw [X0_takeFrom_n hf (by omega)]
      subst h0
      refine ⟨_, rfl, FrC.s (Or.inr (Or.inl rfl)), ?_⟩
      have := h.f3 (w := gA (pS σ (16 * stI s 3 + 1) (nI 0)) (stI s 3)) (v' := fun k => if 5 ≤ k ∧ k < 5 + 0 then v (37 + (k - 5)) else v k) (fun i hi => absurd hi (by omega)) (fun k hk => by rw [if_neg hk])
      rw [pA_self] at this
      exact this
  obtain ⟨σ1, a1, g1, h1⟩ := A1
  rw [a1, bndS]
  simp only [nmE]
  have h2 := ((h1.p10 (gS σ1 (16 * s + 9))).p12 0).p14 0
  have g2 : FrC s σ1 (pS (pS (pS σ1 (16 * s + 10) (gS σ1 (16 * s + 9))) (16 * s + 12) 0) (16 * s + 14) 0) := ((FrC.s (Or.inl (by omega))).tr (FrC.s (Or.inl (by omega)))).tr (FrC.s (Or.inl (by omega)))
  rw [h1.2.2.2.1.2.1] at h2 g2 ⊢
  obtain ⟨σ2, a2, h3, g3⟩ := X4_sleep_v h2
  rw [a2, bndS]
  have g4 : FrC s σ σ2 := (g1.tr g2).tr g3
  have h4 : HC n (iniV w) s σ2 := by
    refine h3.congr (fun k hk => ?_) (fun k hk => ?_) (fun i hi => ?_)
    · unfold iniV
      by_cases k0 : k = 0
      · subst k0; rfl
      by_cases k2 : k = 2
      · subst k2; rfl
      rw [slpV_o k0 k2 (by omega) (by omega)]
      simp only [va_up]
      by_cases k3 : k = 3
      · subst k3
        simp
        rw [if_neg (by omega)]
        exact hvw 36 (by omega)
      · rcases (show k = 1 ∨ k = 4 by omega) with e | e <;> subst e <;> simp
    · rw [slpV_o (by omega) (by omega) (by omega) (by omega), va_up_ne _ _ (by omega), va_up_ne _ _ (by omega), va_up_ne _ _ (by omega), if_neg (by omega)]
      unfold iniV
      rw [if_pos hk]
      exact hvw k hk
    · refine ⟨?_, ?_, ?_⟩
      · rw [slpV_o (by omega) (by omega) (by omega) (by omega), va_up_ne _ _ (by omega), va_up_ne _ _ (by omega), va_up_ne _ _ (by omega), if_pos (by omega)]
        unfold iniV
        rw [if_neg (by omega), if_neg (by omega), if_pos (by omega)]
        exact hvw _ (by omega)
      · rw [slpV_t hi]
        unfold iniV
        rw [if_neg (by omega), if_neg (by omega), if_neg (by omega), if_neg (by omega)]
      · rw [slpV_y hn hi]
        unfold iniV
        rw [if_neg (by omega), if_neg (by omega), if_neg (by omega), if_pos (by omega)]
  have hlen := hco.1
  suffices H : ∀ (m j N : Nat) (σ3 : Sg), j + m = cs.length → m < N → HC n (run n (iniV w) (cs.take j)) s σ3 → FrC s σ σ3 → ∃ σ', l_X4_replay_35 s (fun σv => some σv) N (nI j) σ3 = some σ' ∧ HC n (run n (iniV w) cs) s σ' ∧ FrC s σ σ' by
    obtain ⟨σ', b1, b2, b3⟩ := H cs.length 0 FU σ2 (by omega) (lt_FU (by omega)) h4 g4
    exact ⟨σ', b1, ⟨b2, hd.kept hs b3, hf.kept hs b3⟩, b3⟩
  intro m
  induction m with
  | zero =>
    intro j N σ3 hj hN k1 k2
    obtain ⟨N, rfl⟩ : ∃ k, N = k + 1 := ⟨N - 1, by omega⟩
    unfold l_X4_replay_35
    rw [(hd.kept hs k2).1, if_pos (nI_le (by omega) (by omega))]
    refine ⟨_, rfl, ?_, k2⟩
    rw [List.take_of_length_le (by omega)] at k1
    exact k1
  | succ m ih =>
    intro j N σ3 hj hN k1 k2
    obtain ⟨N, rfl⟩ : ∃ k, N = k + 1 := ⟨N - 1, by omega⟩
    unfold l_X4_replay_35
    have hd3 := hd.kept hs k2
    rw [hd3.1, if_neg (nI_ge (by omega) (by omega)), X0_get_i hd3.1 (by rw [cLen_st6 hs]; exact hlen) (show j < cs.length by omega), bndS, hd3.2 j (by omega)]
    have hcj : cs.getD j 0 = cs[j]'(by omega) := by simp [show j < cs.length by omega]
    have hcm : cok n (cs.getD j 0) := by rw [hcj]; exact hco.2 _ (List.getElem_mem _)
    have hct := hco.take (k := j)
    obtain ⟨σ4, q1, q2, q3⟩ := X4_perform_v k1 (run_rg hw hct.1 hct.2) hcm
    rw [q1, bndS]
    simp only [nmE, nI_1]
    refine ih (j + 1) N σ4 (by omega) (by omega) ?_ (k2.tr q3)
    rw [← run_snoc] at q2
    rw [List.take_succ_eq_append_getElem (show j < cs.length by omega), ← hcj]
    exact q2
end HI
/-! the reference's side -/
/-- the places of 'now' that a town of n houses uses -/
def rl (n j : Nat) : Prop := j < 5 ∨ (5 ≤ j ∧ j < 5 + n) ∨ (11 ≤ j ∧ j < 11 + n) ∨ (17 ≤ j ∧ j < 17 + n)
def HSn (n : Nat) (w : Nat → Int32) (cs : List Nat) (τ : Sg) : Prop := gS τ 22 = nI cs.length ∧ ∀ k, k < cs.length → ∀ j, rl n j → gA τ 10 (23 * k + j) = run n (iniV w) (cs.take k) j
def MT (n : Nat) (w : Nat → Int32) (cs : List Nat) (τ : Sg) : Prop := HM n (run n (iniV w) cs) τ ∧ HSn n w cs τ
section HJ
variable {n : Nat} {w v : Nat → Int32} {τ : Sg} {cs : List Nat}
theorem HM.at (h : HM n v τ) {j : Nat} (hj : rl n j) : gA τ 9 j = v j := by
  rcases hj with e | ⟨e1, e2⟩ | ⟨e1, e2⟩ | ⟨e1, e2⟩
  · exact h.now e
  · have := h.d (show j - 5 < n by omega)
    rwa [show 5 + (j - 5) = j by omega] at this
  · have := h.t (show j - 11 < n by omega)
    rwa [show 11 + (j - 11) = j by omega] at this
  · have := h.y (show j - 17 < n by omega)
    rwa [show 17 + (j - 17) = j by omega] at this
/-- 'now' written anew -/
theorem HM.nw {v' : Nat → Int32} (h : HM n v τ) {τ' : Sg} (h17 : gS τ' 17 = gS τ 17) (h16 : gS τ' 16 = gS τ 16) (h7 : gA τ' 7 = gA τ 7) (h8 : gA τ' 8 = gA τ 8) (hst : ∀ k, 23 ≤ k → v' k = v k) (hn : ∀ j, rl n j → gA τ' 9 j = v' j) : HM n v' τ' := by
  obtain ⟨a, b, c, d, e⟩ := h
  refine ⟨a, h17.trans b, (h16.trans c).trans (hst _ (by omega)).symm, fun k hk => hn k (Or.inl hk), fun i hi => ?_⟩
  obtain ⟨f1, f2, -⟩ := e i hi
  refine ⟨?_, ?_, hn _ (Or.inr (Or.inl (by omega))), hn _ (Or.inr (Or.inr (Or.inl (by omega)))), hn _ (Or.inr (Or.inr (Or.inr (by omega))))⟩
  · rw [h7, f1, hst _ (by omega)]
  · rw [h8, f2, hst _ (by omega)]
theorem HM.up (h : HM n v τ) {k : Nat} (hk : k < 23) (x : Int32) : HM n (va_up v k x) (pA τ 9 (upd (gA τ 9) k x)) := by
  refine h.nw rfl rfl (gA_ne _ _ (by decide)) (gA_ne _ _ (by decide)) (fun j hj => va_up_ne _ _ (by omega)) (fun j hj => ?_)
  rw [gA_same]
  unfold upd va_up
  by_cases e : j = k
  · rw [if_pos e, if_pos e]
  · rw [if_neg e, if_neg e, h.at hj]
theorem HM.congr {v' : Nat → Int32} (h : HM n v τ) (hst : ∀ k, 23 ≤ k → v' k = v k) (hn : ∀ j, rl n j → v j = v' j) : HM n v' τ := h.nw rfl rfl rfl rfl hst (fun j hj => (h.at hj).trans (hn j hj))
theorem far6 : ∀ a < 6, ∀ b < 6, f_X6_far (nI a) (nI b) = some (mabs (nI a - nI b)) := by decide +kernel
theorem X6_goes_v {b : Nat} (h : HM n v τ) (hv : VWb b n v) {d : Nat} (hd : d < n) : ∃ f, f_X6_goes (nI d) τ = some (pA τ 9 f) ∧ HM n (walkV d v) (pA τ 9 f) := by
  have hn := h.1
  obtain ⟨p, hp, ep⟩ := hv.2.2.1
  unfold f_X6_goes
  simp (disch := omega) only [nIlt0, nIle, nIlt, nIeq, inB_nI, nI_clamp, nI_1, ckT, bfT, bfF, bndS, bnd2S, nmE, if_true, if_false, ad3, ml3, ad5, ml5, ad6, ml6, ad11, ml11, ad17, ml17, ad23, ml23, ad40, ml40, ad60, ml60, ad69, ml69, ad920, ml920, cl0, cl1, cl2, cl3, cl4, cl5, cl6, mL1, mL2, mL3, mL4, mL5, mL6, mL7, mL8, mL9, mL10, mL11, mL12, mL13, mL14, mL15, iB9_0, iB9_1, iB9_2, iB9_3, iB9_4, h.now]
  rw [ep, far6 d (by omega) p (by omega), bndS]
  refine ⟨_, by rw [pA_pA], ?_⟩
  have := (h.up (k := 0) (by decide) (v 0 + mabs (nI d - v 2))).up (k := 2) (by decide) (nI d)
  rw [pA_pA] at this
  unfold walkV
  rw [ep] at this ⊢
  exact this
theorem X6_taps_v (h : HM n v τ) (hv : VW n v) {p : Nat} (hp : p < n) (ep : v 2 = nI p) : ∃ f, f_X6_taps τ = some (pA τ 9 f) ∧ HM n (tapV p v) (pA τ 9 f) := by
  have hn := h.1
  unfold f_X6_taps tapV
  rw [show inB (2 : Int32) (mLen 9) = true from by decide, ckT, nmE, cl2, h.now (by decide), ep, X6_takesOf_v h hv hp, bndS, show inB (0 : Int32) (mLen 9) = true from by decide, ckT, ckT, nmE, cl0, h.now (k := 0) (by decide)]
  have h1 := h.up (k := 0) (by decide) (v 0 + 1)
  have q1 : ∃ f, pA τ 9 (upd (gA τ 9) 0 (v 0 + 1)) = pA τ 9 f := ⟨_, rfl⟩
  generalize pA τ 9 (upd (gA τ 9) 0 (v 0 + 1)) = τ1 at h1 q1 ⊢
  have i1 : inB ((11 : Int32) + nI p) (mLen 9) = true := by rw [ad11]; exact inB_nI (by rw [mL9]; omega) (by rw [mL9]; decide)
  have i2 : ((11 : Int32) + nI p).toNatClampNeg = 11 + p := by rw [ad11, nI_clamp (by omega)]
  have i3 : inB ((5 : Int32) + nI p) (mLen 9) = true := by rw [ad5]; exact inB_nI (by rw [mL9]; omega) (by rw [mL9]; decide)
  have i4 : ((5 : Int32) + nI p).toNatClampNeg = 5 + p := by rw [ad5, nI_clamp (by omega)]
  have i5 : inB ((17 : Int32) + nI p) (mLen 9) = true := by rw [ad17]; exact inB_nI (by rw [mL9]; omega) (by rw [mL9]; decide)
  have i6 : ((17 : Int32) + nI p).toNatClampNeg = 17 + p := by rw [ad17, nI_clamp (by omega)]
  have i7 : inB (4 : Int32) (mLen 9) = true := by decide
  have i8 : inB (nI p) (mLen 7) = true := inB_nI (by rw [mL7]; omega) (by rw [mL7]; decide)
  rw [i1, ckT, ckT, nmE, i2, h1.t hp]
  have h2 := h1.up (k := 11 + p) (by omega) (va_up v 0 (v 0 + 1) (11 + p) + 1)
  have q2 : ∃ f, pA τ1 9 (upd (gA τ1 9) (11 + p) (va_up v 0 (v 0 + 1) (11 + p) + 1)) = pA τ 9 f := by
    obtain ⟨f, rfl⟩ := q1
    exact ⟨_, pA_pA _ _ _ _⟩
  generalize pA τ1 9 (upd (gA τ1 9) (11 + p) (va_up v 0 (v 0 + 1) (11 + p) + 1)) = τ2 at h2 q2 ⊢
  rw [va_up_ne v _ (show 11 + p ≠ 0 by omega)] at h2
  rw [X6_isAwake_v h2 hp, bndS]
  have b1 : awV (va_up (va_up v 0 (v 0 + 1)) (11 + p) (v (11 + p) + 1)) p = awV v p := by unfold awV; rw [va_up_ne _ _ (by omega), va_up_ne _ _ (by omega)]
  rw [b1]
  cases hb : awV v p
  · rw [bfF]
    by_cases hd : dueV v p = -9
    · rw [if_pos hd, if_pos (Or.inr (Or.inl hd))]
      obtain ⟨f, rfl⟩ := q2
      exact ⟨f, rfl, h2⟩
    · rw [if_neg hd, ckT, h2.t hp, va_up_self]
      by_cases hl : v (11 + p) + 1 < dueV v p
      · rw [if_pos hl, if_pos (Or.inr (Or.inr hl))]
        obtain ⟨f, rfl⟩ := q2
        exact ⟨f, rfl, h2⟩
      · have hcn : ¬ (false = true ∨ dueV v p = -9 ∨ v (11 + p) + 1 < dueV v p) := fun z => z.elim (fun y => by cases y) (fun y => y.elim hd hl)
        rw [if_neg hl, if_neg hcn, i7, ckT, i8, ckT, nI_clamp (by omega), h2.k hp, X6_paysBy_v, bndS, nmE, i3, ckT, i5, ckT, i6, i4, nmE, cl4, h2.now (by decide), h2.d hp]
        rw [va_up_ne _ _ (show 4 ≠ 11 + p by omega), va_up_ne _ _ (show 4 ≠ 0 by omega), va_up_ne _ _ (show 23 + p ≠ 11 + p by omega), va_up_ne _ _ (show 23 + p ≠ 0 by omega), va_up_ne _ _ (show 5 + p ≠ 11 + p by omega), va_up_ne _ _ (show 5 + p ≠ 0 by omega)]
        have h3 := h2.up (k := 17 + p) (by omega) (v (5 + p))
        have q3 : ∃ f, pA τ2 9 (upd (gA τ2 9) (17 + p) (v (5 + p))) = pA τ 9 f := by
          obtain ⟨f, rfl⟩ := q2
          exact ⟨_, pA_pA _ _ _ _⟩
        generalize pA τ2 9 (upd (gA τ2 9) (17 + p) (v (5 + p))) = τ3 at h3 q3 ⊢
        obtain ⟨f, rfl⟩ := q3
        simp only [ckT, nmE, pA_pA]
        unfold mmin
        have h4 : ∀ x, HM n (va_up (va_up (va_up (va_up v 0 (v 0 + 1)) (11 + p) (v (11 + p) + 1)) (17 + p) (v (5 + p))) 4 x) (pA τ 9 (upd (gA (pA τ 9 f) 9) 4 x)) := fun x => by
          have := h3.up (k := 4) (by decide) x
          rwa [pA_pA] at this
        by_cases e : v 4 + feeV (v (23 + p)) ≤ 9999
        · rw [if_pos e]
          by_cases e2 : v 4 + feeV (v (23 + p)) < 9999
          · rw [if_pos e2]; exact ⟨_, rfl, h4 _⟩
          · rw [if_neg e2]
            have : v 4 + feeV (v (23 + p)) = 9999 := by
              rw [Int32.le_iff_toInt_le] at e
              rw [Int32.lt_iff_toInt_lt] at e2
              apply Int32.toInt_inj.mp
              omega
            rw [this]
            exact ⟨_, rfl, h4 _⟩
        · rw [if_neg e, if_neg (fun z => e (Int32.le_of_lt z))]
          exact ⟨_, rfl, h4 _⟩
  · rw [bfT, if_pos (Or.inl rfl)]
    obtain ⟨f, rfl⟩ := q2
    exact ⟨f, rfl, h2⟩
theorem X6_changes_v (h : HM n v τ) {d x : Nat} (hd : d < n) : ∃ f, f_X6_changes (nI d) (nI x) τ = some (pA τ 9 f) ∧ HM n (slateV d x v) (pA τ 9 f) := by
  have hn := h.1
  have i1 : inB ((11 : Int32) + nI d) (mLen 9) = true := by rw [ad11]; exact inB_nI (by rw [mL9]; omega) (by rw [mL9]; decide)
  have i2 : ((11 : Int32) + nI d).toNatClampNeg = 11 + d := by rw [ad11, nI_clamp (by omega)]
  have i3 : inB ((5 : Int32) + nI d) (mLen 9) = true := by rw [ad5]; exact inB_nI (by rw [mL9]; omega) (by rw [mL9]; decide)
  have i4 : ((5 : Int32) + nI d).toNatClampNeg = 5 + d := by rw [ad5, nI_clamp (by omega)]
  unfold f_X6_changes slateV
  rw [i3, ckT, nmE, i1, ckT, nmE, i2, i4]
  have := (h.up (k := 5 + d) (by omega) (nI x)).up (k := 11 + d) (by omega) 0
  rw [pA_pA] at this ⊢
  exact ⟨_, rfl, this⟩
/-- arrays brought over -/
theorem bringg {a b i j : Nat} (hab : a ≠ b) : ∀ (m k : Nat) (τ : Sg), fo (fun k (τ : Sg) => pA τ b (upd (gA τ b) (j + k) (gA τ a (i + k)))) k m τ = pA τ b (fun x => if j + k ≤ x ∧ x < j + k + m then gA τ a (i + (x - j)) else gA τ b x) := by
  intro m
  induction m with
  | zero =>
    intro k τ
    show τ = _
    rw [show (fun x => if j + k ≤ x ∧ x < j + k + 0 then gA τ a (i + (x - j)) else gA τ b x) = gA τ b from funext fun x => by rw [if_neg (by omega)], pA_self]
  | succ m ih =>
    intro k τ
    show fo _ (k + 1) m (pA τ b (upd (gA τ b) (j + k) (gA τ a (i + k)))) = _
    rw [ih, pA_pA, gA_same, gA_ne _ _ hab]
    congr 1
    funext x
    unfold upd
    by_cases h1 : x = j + k
    · subst h1
      rw [if_neg (by omega), if_pos rfl, if_pos (by omega), show j + k - j = k by omega]
    · rw [if_neg h1]
      by_cases h2 : j + (k + 1) ≤ x ∧ x < j + (k + 1) + m
      · rw [if_pos h2, if_pos (by omega)]
      · rw [if_neg h2, if_neg (by omega)]
theorem mLen_le (q : Nat) : mLen q ≤ 2760 := by
  unfold mLen
  repeat' split
  all_goals omega
theorem X6_bring_v {a b i j m : Nat} (hab : a ≠ b) (ha : i + m ≤ mLen a) (hb : j + m ≤ mLen b) : f_X6_bring a (nI i) b (nI j) (nI m) τ = some (pA τ b (fun x => if j ≤ x ∧ x < j + m then gA τ a (i + (x - j)) else gA τ b x)) := by
  have l1 := mLen_le a
  have l2 := mLen_le b
  unfold f_X6_bring
  have := loopP (fun N k (τ : Sg) => l_X6_bring_3 a (nI i) b (nI j) (nI m) (fun σv => some σv) N (nI k) τ) (fun τ => some τ) (fun k (τ : Sg) => pA τ b (upd (gA τ b) (j + k) (gA τ a (i + k)))) m
    (fun N τ => by
      show l_X6_bring_3 a (nI i) b (nI j) (nI m) _ (N + 1) (nI m) τ = _
      unfold l_X6_bring_3
      rw [if_pos (nI_le (Nat.le_refl _) (by omega))])
    (fun N k τ hk => by
      show l_X6_bring_3 a (nI i) b (nI j) (nI m) _ (N + 1) (nI k) τ = _
      conv => lhs; unfold l_X6_bring_3
      rw [if_neg (nI_ge hk (by omega)), nI_add, nI_add, inB_nI (by omega) (by omega), inB_nI (by omega) (by omega), ckT, ckT, nmE, nmE, nI_clamp (by omega), nI_clamp (by omega), nI_1]) m 0 FU τ (by omega) (lt_FU (by omega))
  refine this.trans ?_
  rw [bringg hab]
  rfl
theorem HM.out (h : HM n v τ) {τ' : Sg} (h17 : gS τ' 17 = gS τ 17) (h16 : gS τ' 16 = gS τ 16) (h7 : gA τ' 7 = gA τ 7) (h8 : gA τ' 8 = gA τ 8) (h9 : gA τ' 9 = gA τ 9) : HM n v τ' := h.nw h17 h16 h7 h8 (fun _ _ => rfl) (fun j hj => by rw [h9]; exact h.at hj)
theorem X6_note_v (h : MT n w cs τ) (hl : cs.length < 40) : ∃ f, f_X6_note τ = some (pS (pA τ 10 f) 22 (nI (cs.length + 1))) ∧ HM n (run n (iniV w) cs) (pS (pA τ 10 f) 22 (nI (cs.length + 1))) ∧
    ∀ k, k < cs.length + 1 → ∀ j, rl n j → f (23 * k + j) = run n (iniV w) (cs.take k) j := by
  have hn := h.1.1
  unfold f_X6_note
  rw [h.2.1, ml23, show (0 : Int32) = nI 0 from rfl, show (23 : Int32) = nI 23 from rfl, X6_bring_v (by decide) (by rw [mL9]; omega) (by rw [mL10]; omega), bndS, nmE, gS_pA, h.2.1, nI_1]
  refine ⟨_, rfl, h.1.out rfl rfl (gA_ne _ _ (by decide)) (gA_ne _ _ (by decide)) (gA_ne _ _ (by decide)), fun k hk j hj => ?_⟩
  have hj23 : j < 23 := by rcases hj with e | e | e | e <;> omega
  by_cases e : k = cs.length
  · subst e
    rw [if_pos (by omega), show 0 + (23 * cs.length + j - 23 * cs.length) = j by omega, List.take_length]
    exact h.1.at hj
  · rw [if_neg (by omega)]
    exact h.2.2 k (by omega) j hj
/-- a deed noted, then done -/
theorem MT_snoc {c : Nat} {f g : Nat → Int32} (hl : cs.length < 40) (hf : ∀ k, k < cs.length + 1 → ∀ j, rl n j → f (23 * k + j) = run n (iniV w) (cs.take k) j) (hm : HM n (stp n c (run n (iniV w) cs)) (pA (pS (pA τ 10 f) 22 (nI (cs.length + 1))) 9 g)) : MT n w (cs ++ [c]) (pA (pS (pA τ 10 f) 22 (nI (cs.length + 1))) 9 g) := by
  refine ⟨?_, ?_, fun k hk j hj => ?_⟩
  · rw [run_snoc]; exact hm
  · rw [gS_pA, gS_same, List.length_append]; rfl
  · rw [List.length_append] at hk
    simp only [List.length_singleton] at hk
    rw [gA_ne _ _ (by decide), gA_pS, gA_same, hf k (by omega) j hj, List.take_append_of_le_length (by omega)]
end HJ
