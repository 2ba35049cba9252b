/-! what the law sees of the system: a town (n, w) with deeds cs done, what is kept in place 1, the rows, what was told, the law's arrays -/
def KP (n : Nat) (kc : Option (List Nat)) (σ : Sg) : Prop := ∀ c, kc = some c → COK n c ∧ gS σ (16 * 16 + 1) = nI c.length ∧ ∀ i, i < c.length → gA σ 16 i = nI (c.getD i 0)
def IW (n : Nat) (w : Nat → Int32) (cs : List Nat) (kc : Option (List Nat)) (RS : Nat → Int32) (RA : Nat → Nat → Int32) (A : Int32) (U V : Int64) (T X Y : Nat → Int32) (σ : Sg) : Prop :=
  okC σ ∧ gR σ 1 ≠ gR σ 0 ∧ STW n w ∧ COK n cs ∧ CT n w cs (gR σ 0) σ ∧ KP n kc σ ∧ (∀ r, r < 6 → gS σ (16 * (5 + r) + 1) = RS r ∧ gA σ (5 + r) = RA r) ∧ gS σ (16 * 18 + 1) = nI 6 ∧ gS σ 9 = A ∧ gL σ 10 = U ∧ gL σ 11 = V ∧ gA σ 41 = T ∧ gA σ 42 = X ∧ gA σ 43 = Y
section IWS
variable {n : Nat} {w : Nat → Int32} {cs cs' : List Nat} {kc : Option (List Nat)} {RS : Nat → Int32} {RA : Nat → Nat → Int32} {A : Int32} {U V : Int64} {T X Y : Nat → Int32} {σ σ' : Sg}
theorem IW.stw (h : IW n w cs kc RS RA A U V T X Y σ) : STW n w := h.2.2.1
theorem IW.cok (h : IW n w cs kc RS RA A U V T X Y σ) : COK n cs := h.2.2.2.1
theorem IW.ct (h : IW n w cs kc RS RA A U V T X Y σ) : CT n w cs (gR σ 0) σ := h.2.2.2.2.1
theorem IW.hc (h : IW n w cs kc RS RA A U V T X Y σ) : HC n (run n (iniV w) cs) (gR σ 0) σ := h.ct.1
theorem IW.vw (h : IW n w cs kc RS RA A U V T X Y σ) : VW n (run n (iniV w) cs) := run_VW h.stw h.cok
theorem IW.n6 (h : IW n w cs kc RS RA A U V T X Y σ) : n ≤ 6 := h.stw.1
theorem IW.kp (h : IW n w cs kc RS RA A U V T X Y σ) : KP n kc σ := h.2.2.2.2.2.1
theorem IW.row (h : IW n w cs kc RS RA A U V T X Y σ) : ∀ r, r < 6 → gS σ (16 * (5 + r) + 1) = RS r ∧ gA σ (5 + r) = RA r := h.2.2.2.2.2.2.1
theorem IW.fnd (h : IW n w cs kc RS RA A U V T X Y σ) : gS σ (16 * 18 + 1) = nI 6 := h.2.2.2.2.2.2.2.1
theorem IW.ask (h : IW n w cs kc RS RA A U V T X Y σ) : gS σ 9 = A := h.2.2.2.2.2.2.2.2.1
theorem IW.up (h : IW n w cs kc RS RA A U V T X Y σ) : gL σ 10 = U := h.2.2.2.2.2.2.2.2.2.1
theorem IW.lo (h : IW n w cs kc RS RA A U V T X Y σ) : gL σ 11 = V := h.2.2.2.2.2.2.2.2.2.2.1
theorem IW.t (h : IW n w cs kc RS RA A U V T X Y σ) : gA σ 41 = T := h.2.2.2.2.2.2.2.2.2.2.2.1
theorem IW.x (h : IW n w cs kc RS RA A U V T X Y σ) : gA σ 42 = X := h.2.2.2.2.2.2.2.2.2.2.2.2.1
theorem IW.y (h : IW n w cs kc RS RA A U V T X Y σ) : gA σ 43 = Y := h.2.2.2.2.2.2.2.2.2.2.2.2.2
/-- the street alone has changed -/
theorem IW.deed (h : IW n w cs kc RS RA A U V T X Y σ) (hc : COK n cs') (ct : CT n w cs' (gR σ 0) σ') (f : FrD (gR σ 0) σ σ') : IW n w cs' kc RS RA A U V T X Y σ' := by
  obtain ⟨h1, h2, h3, h4, h5, h6, h7, h8, h9, h10, h11, h12, h13, h14⟩ := h
  have hs := h1.1
  unfold isS at hs
  have ej : ∀ j, stI (gR σ 0) j = 7 * gR σ 0 - 2 + j := fun _ => rfl
  have q3 := ej 3
  have q4 := ej 4
  have q5 := ej 5
  have q6 := ej 6
  obtain ⟨f1, f2, f3, f4⟩ := f
  refine ⟨okC_gR h1 f4, by rw [f4, f4]; exact h2, h3, hc, by rw [f4]; exact ct, fun c hk => ?_, fun r hr => ?_, ?_, ?_, ?_, ?_, ?_, ?_, ?_⟩
  · obtain ⟨k1, k2, k3⟩ := h6 c hk
    refine ⟨k1, ?_, fun i hi => ?_⟩
    · rw [f1 _ (by omega) (by omega) (by omega) (by omega) (by omega)]; exact k2
    · rw [f2 _ (by omega) (by omega) (by omega) (by omega)]; exact k3 i hi
  · rw [f1 _ (by omega) (by omega) (by omega) (by omega) (by omega), f2 _ (by omega) (by omega) (by omega) (by omega)]; exact h7 r hr
  · rw [f1 _ (by omega) (by omega) (by omega) (by omega) (by omega)]; exact h8
  · rw [f1 _ (by omega) (by omega) (by omega) (by omega) (by omega)]; exact h9
  · rw [f3]; exact h10
  · rw [f3]; exact h11
  · rw [f2 _ (by omega) (by omega) (by omega) (by omega)]; exact h12
  · rw [f2 _ (by omega) (by omega) (by omega) (by omega)]; exact h13
  · rw [f2 _ (by omega) (by omega) (by omega) (by omega)]; exact h14
/-- the rounds' own cells have changed, and what was found -/
def FS8 (σ σ' : Sg) : Prop := (∀ k, k ≠ 8 → k ≠ 37 → ¬ (16 * 33 ≤ k ∧ k < 16 * 38) → gS σ' k = gS σ k) ∧ (∀ a, a ≠ 18 → ¬ (33 ≤ a ∧ a < 38) → gA σ' a = gA σ a) ∧ (∀ k, gL σ' k = gL σ k) ∧ ∀ k, gR σ' k = gR σ k
theorem IW.side (h : IW n w cs kc RS RA A U V T X Y σ) (f : FS8 σ σ') : IW n w cs kc RS RA A U V T X Y σ' := by
  obtain ⟨h1, h2, h3, h4, h5, h6, h7, h8, h9, h10, h11, h12, h13, h14⟩ := h
  obtain ⟨f1, f2, f3, f4⟩ := f
  refine ⟨okC_gR h1 f4, by rw [f4, f4]; exact h2, h3, h4, by rw [f4]; exact h5.cg (fun k hk => f1 _ (by omega) (by omega) (by omega)) (fun a ha => f2 _ (by omega) (by omega)), fun c hk => ?_, fun r hr => ?_, ?_, ?_, ?_, ?_, ?_, ?_, ?_⟩
  · obtain ⟨k1, k2, k3⟩ := h6 c hk
    refine ⟨k1, ?_, fun i hi => ?_⟩
    · rw [f1 _ (by omega) (by omega) (by omega)]; exact k2
    · rw [f2 _ (by omega) (by omega)]; exact k3 i hi
  · rw [f1 _ (by omega) (by omega) (by omega), f2 _ (by omega) (by omega)]; exact h7 r hr
  · rw [f1 _ (by omega) (by omega) (by omega)]; exact h8
  · rw [f1 _ (by omega) (by omega) (by omega)]; exact h9
  · rw [f3]; exact h10
  · rw [f3]; exact h11
  · rw [f2 _ (by omega) (by omega)]; exact h12
  · rw [f2 _ (by omega) (by omega)]; exact h13
  · rw [f2 _ (by omega) (by omega)]; exact h14
theorem IW.tells (h : IW n w cs kc RS RA A U V T X Y σ) (x : Int32) : IW n w cs kc RS RA x U V T X Y (pS σ 9 x) := by
  obtain ⟨h1, h2, h3, h4, h5, h6, h7, h8, h9, h10, h11, h12, h13, h14⟩ := h
  refine ⟨h1, h2, h3, h4, h5.cg (fun k hk => gS_ne _ _ (by omega)) (fun a ha => rfl), fun c hk => ?_, fun r hr => ?_, ?_, gS_same _ _ _, h10, h11, h12, h13, h14⟩
  · obtain ⟨k1, k2, k3⟩ := h6 c hk
    exact ⟨k1, by rw [gS_ne _ _ (by omega)]; exact k2, k3⟩
  · rw [gS_ne _ _ (by omega)]; exact h7 r hr
  · rw [gS_ne _ _ (by omega)]; exact h8
theorem IW.ratio (h : IW n w cs kc RS RA A U V T X Y σ) (x y : Int64) : IW n w cs kc RS RA A x y T X Y (pL (pL σ 10 x) 11 y) := by
  obtain ⟨h1, h2, h3, h4, h5, h6, h7, h8, h9, h10, h11, h12, h13, h14⟩ := h
  refine ⟨h1, h2, h3, h4, h5.cg (fun k hk => rfl) (fun a ha => rfl), h6, h7, h8, h9, rfl, rfl, h12, h13, h14⟩
theorem IW.putT (h : IW n w cs kc RS RA A U V T X Y σ) (f : Nat → Int32) : IW n w cs kc RS RA A U V f X Y (pA σ 41 f) := by
  obtain ⟨h1, h2, h3, h4, h5, h6, h7, h8, h9, h10, h11, h12, h13, h14⟩ := h
  refine ⟨h1, h2, h3, h4, h5.cg (fun k hk => rfl) (fun a ha => gA_ne _ _ (by omega)), fun c hk => ?_, fun r hr => ?_, h8, h9, h10, h11, gA_same _ _ _, (gA_ne _ _ (by decide)).trans h13, (gA_ne _ _ (by decide)).trans h14⟩
  · obtain ⟨k1, k2, k3⟩ := h6 c hk
    exact ⟨k1, k2, fun i hi => by rw [gA_ne _ _ (by decide)]; exact k3 i hi⟩
  · rw [gA_ne _ _ (by omega)]; exact h7 r hr
theorem IW.putX (h : IW n w cs kc RS RA A U V T X Y σ) (f : Nat → Int32) : IW n w cs kc RS RA A U V T f Y (pA σ 42 f) := by
  obtain ⟨h1, h2, h3, h4, h5, h6, h7, h8, h9, h10, h11, h12, h13, h14⟩ := h
  refine ⟨h1, h2, h3, h4, h5.cg (fun k hk => rfl) (fun a ha => gA_ne _ _ (by omega)), fun c hk => ?_, fun r hr => ?_, h8, h9, h10, h11, (gA_ne _ _ (by decide)).trans h12, gA_same _ _ _, (gA_ne _ _ (by decide)).trans h14⟩
  · obtain ⟨k1, k2, k3⟩ := h6 c hk
    exact ⟨k1, k2, fun i hi => by rw [gA_ne _ _ (by decide)]; exact k3 i hi⟩
  · rw [gA_ne _ _ (by omega)]; exact h7 r hr
theorem IW.putY (h : IW n w cs kc RS RA A U V T X Y σ) (f : Nat → Int32) : IW n w cs kc RS RA A U V T X f (pA σ 43 f) := by
  obtain ⟨h1, h2, h3, h4, h5, h6, h7, h8, h9, h10, h11, h12, h13, h14⟩ := h
  refine ⟨h1, h2, h3, h4, h5.cg (fun k hk => rfl) (fun a ha => gA_ne _ _ (by omega)), fun c hk => ?_, fun r hr => ?_, h8, h9, h10, h11, (gA_ne _ _ (by decide)).trans h12, (gA_ne _ _ (by decide)).trans h13, gA_same _ _ _⟩
  · obtain ⟨k1, k2, k3⟩ := h6 c hk
    exact ⟨k1, k2, fun i hi => by rw [gA_ne _ _ (by decide)]; exact k3 i hi⟩
  · rw [gA_ne _ _ (by omega)]; exact h7 r hr
theorem IW.rowset (h : IW n w cs kc RS RA A U V T X Y σ) {r : Nat} (hr : r < 6) (x : Int32) (f : Nat → Int32) : IW n w cs kc (va_up RS r x) (va_up RA r f) A U V T X Y (pA (pS σ (16 * (5 + r) + 1) x) (5 + r) f) := by
  obtain ⟨h1, h2, h3, h4, h5, h6, h7, h8, h9, h10, h11, h12, h13, h14⟩ := h
  refine ⟨h1, h2, h3, h4, h5.cg (fun k hk => (gS_ne _ _ (by omega))) (fun a ha => gA_ne _ _ (by omega)), fun c hk => ?_, fun q hq => ?_, ?_, ?_, h10, h11, (gA_ne _ _ (by omega)).trans h12, (gA_ne _ _ (by omega)).trans h13, (gA_ne _ _ (by omega)).trans h14⟩
  · obtain ⟨k1, k2, k3⟩ := h6 c hk
    exact ⟨k1, (gS_ne _ _ (by omega)).trans k2, fun i hi => by rw [gA_ne _ _ (by omega)]; exact k3 i hi⟩
  · by_cases e : q = r
    · subst e
      rw [va_up_self, va_up_self]
      exact ⟨gS_same _ _ _, gA_same _ _ _⟩
    · rw [va_up_ne _ _ e, va_up_ne _ _ e]
      exact ⟨(gS_ne _ _ (by omega)).trans (h7 q hq).1, (gA_ne _ _ (by omega)).trans (h7 q hq).2⟩
  · exact (gS_ne _ _ (by omega)).trans h8
  · exact (gS_ne _ _ (by omega)).trans h9
theorem FE.s8 (f : FE σ σ') : FS8 σ σ' := ⟨fun k _ a b => f.1 k a b, fun a _ b => f.2.1 a b, f.2.2.1, f.2.2.2⟩
theorem found_I (h : IW n w cs kc RS RA A U V T X Y σ) {f : Nat} (hf : f < 6) : ∃ σ', f_X5_found (nI f) σ = some (-3, σ') ∧ IW n w cs kc RS RA A U V T X Y σ' := by
  have z1 : gS (pS σ 8 (nI f)) (16 * 18 + 1) = nI 6 := (gS_ne _ _ (by decide)).trans h.fnd
  unfold f_X5_found
  rw [nmE, X0_get_i z1 (by decide) hf, bndS, X0_set_i z1 (by decide) hf, bndS]
  exact ⟨_, rfl, h.side ⟨fun k a _ _ => gS_ne _ _ a, fun a h1 _ => gA_ne _ _ h1, fun _ => rfl, fun _ => rfl⟩⟩
end IWS
