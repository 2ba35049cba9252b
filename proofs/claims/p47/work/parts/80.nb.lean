theorem i8c : ∀ c < 128, (nI c).toInt8.toInt32 = nI c := by decide +kernel
def Fr14 (σ σ' : Sg) : Prop := (∀ k, gS σ' k = gS σ k) ∧ (∀ a, a ≠ 14 → gA σ' a = gA σ a) ∧ ∀ k, gR σ' k = gR σ k
theorem Fr14.tr {a b c : Sg} (h : Fr14 a b) (g : Fr14 b c) : Fr14 a c := ⟨fun k => (g.1 k).trans (h.1 k), fun k hk => (g.2.1 k hk).trans (h.2.1 k hk), fun k => (g.2.2 k).trans (h.2.2 k)⟩
theorem Fr14.a {σ : Sg} {f : Nat → Int32} : Fr14 σ (pA σ 14 f) := ⟨fun _ => rfl, fun _ h => gA_ne _ _ h, fun _ => rfl⟩
theorem put_e {σ : Sg} {p c : Nat} (hs : gS σ (16 * 14 + 1) = nI 50) (hp : p < 50) (hb : gA σ 14 p = 32) (hc : c < 128) : ∃ σ', f_X5_put 3 (nI p) (nI c) σ = some (1032, σ') ∧ Fr14 σ σ' ∧ gA σ' 14 p = nI c ∧ ∀ j, j ≠ p → gA σ' 14 j = gA σ 14 j := by
  refine ⟨pA σ 14 (upd (gA σ 14) p (nI c)), ?_, Fr14.a, by rw [gA_same, upd_self9], fun j hj => by rw [gA_same, upd_ne9 _ _ hj]⟩
  have hm : 50 ≤ cLen 14 := by decide
  unfold f_X5_put
  rw [show f_X5_pick 72 (3 : Int32) = some (some 14) from pick_i (q := 72) (r := 3) (by decide), bndS, ocS]
  unfold f_X5_refusedAt
  rw [ocS, refused_p hs (by decide), bnd2S, if_pos rfl, X0_has_i hs hm (by omega), decide_eq_true hp, bndS, bfT, bnd2S, if_pos rfl, X0_get_i hs hm hp, bndS, i8c c hc, X0_set_i hs hm hp, bndS, hb]
  rfl
theorem fig_e {σ : Sg} {p d : Nat} (hs : gS σ (16 * 14 + 1) = nI 50) (hp : p + 1 < 50) (hb : gA σ 14 p = 32) (hb1 : gA σ 14 (p + 1) = 32) (hd : d < 100) : ∃ σ', f_L_figures 3 (nI p) (nI d) σ = some (true, σ') ∧ Fr14 σ σ' ∧ D2 (gA σ' 14) p d ∧ ∀ j, j ≠ p → j ≠ p + 1 → gA σ' 14 j = gA σ 14 j := by
  obtain ⟨σ1, a1, a2, a3, a4⟩ := put_e (c := 48 + d / 10) hs (show p < 50 by omega) hb (by omega)
  obtain ⟨σ2, b1, b2, b3, b4⟩ := put_e (σ := σ1) (c := 48 + d % 10) ((a2.1 _).trans hs) hp ((a4 _ (by omega)).trans hb1) (by omega)
  refine ⟨σ2, ?_, a2.tr b2, ⟨(b4 _ (by omega)).trans a3, b3⟩, fun j h1 h2 => (b4 j h2).trans (a4 j h1)⟩
  have e1 : (48 : Int32) + nI d / (10 : Int32) = nI (48 + d / 10) := by rw [show (10 : Int32) = nI 10 from rfl, nIdiv (by omega) (by decide)]; exact nI_add 48 _
  have e2 : (48 : Int32) + (nI d - nI d / (10 : Int32) * (10 : Int32)) = nI (48 + d % 10) := by rw [show (10 : Int32) = nI 10 from rfl, nIrem (by omega) (by decide)]; exact nI_add 48 _
  unfold f_L_figures
  rw [e1, a1, bnd2S, if_pos rfl, e2, nI_1, b1, bnd2S, if_pos rfl]
theorem house_e {σ : Sg} {P k d x : Nat} (hs : gS σ (16 * 14 + 1) = nI 50) (hP : P + 5 ≤ 50) (hb : ∀ j, P ≤ j → j < 50 → gA σ 14 j = 32) (hk : k < 6) (hd : d < 100) (hx : x < 100) : ∃ σa σb σc, f_X5_put 3 (nI P) (nI (ltr k)) σ = some (1032, σa) ∧ f_L_figures 3 (nI P + (1 : Int32)) (nI d) σa = some (true, σb) ∧ f_L_figures 3 (nI P + (3 : Int32)) (nI x) σb = some (true, σc) ∧ Fr14 σ σa ∧ Fr14 σ σb ∧ Fr14 σ σc ∧ (∀ j, j < P ∨ P + 5 ≤ j → gA σc 14 j = gA σ 14 j) ∧ gA σc 14 P = nI (ltr k) ∧ D2 (gA σc 14) (P + 1) d ∧ D2 (gA σc 14) (P + 3) x := by
  obtain ⟨σa, a1, a2, a3, a4⟩ := put_e hs (show P < 50 by omega) (hb P (by omega) (by omega)) (ltr_r k hk).2.2.1
  obtain ⟨σb, b1, b2, b3, b4⟩ := fig_e (σ := σa) (p := P + 1) ((a2.1 _).trans hs) (by omega) ((a4 _ (by omega)).trans (hb _ (by omega) (by omega))) ((a4 _ (by omega)).trans (hb _ (by omega) (by omega))) hd
  obtain ⟨σc, c1, c2, c3, c4⟩ := fig_e (σ := σb) (p := P + 3) ((b2.1 _).trans ((a2.1 _).trans hs)) (by omega) ((b4 _ (by omega) (by omega)).trans ((a4 _ (by omega)).trans (hb _ (by omega) (by omega)))) ((b4 _ (by omega) (by omega)).trans ((a4 _ (by omega)).trans (hb _ (by omega) (by omega)))) hx
  refine ⟨σa, σb, σc, a1, by rw [nI_1]; exact b1, by rw [show nI P + (3 : Int32) = nI (P + 3) from nI_add P 3]; exact c1, a2, a2.tr b2, (a2.tr b2).tr c2, fun j hj => (c4 j (by omega) (by omega)).trans ((b4 j (by omega) (by omega)).trans (a4 j (by omega))), (c4 _ (by omega) (by omega)).trans ((b4 _ (by omega) (by omega)).trans a3), ⟨(c4 _ (by omega) (by omega)).trans b3.1, (c4 _ (by omega) (by omega)).trans b3.2⟩, c3⟩
/-! what the script says of the street -/
def kkV (y : Int32) : Nat := lowK y % 6
def ddV (y : Int32) : Nat := if lowK (y >>> ((3 : Int32) &&& 31)) % 3 = 0 then 40 + lowK (y >>> ((5 : Int32) &&& 31)) % 12 else lowK (y >>> ((5 : Int32) &&& 31)) % 100
def xmV (y : Int32) : Nat := if lowK (y >>> ((20 : Int32) &&& 31)) % 2 = 0 then 100 else 25
def xxV (y : Int32) : Nat := lowK (y >>> ((12 : Int32) &&& 31)) % xmV y
def gaV (y : Int32) : Nat := lowK (y >>> ((22 : Int32) &&& 31)) % 3
def qmV (z : Int32) : Nat := if lowK (z >>> ((20 : Int32) &&& 31)) % 2 = 0 then 100 else 20
def qqV (z : Int32) : Nat := lowK z % qmV z
def nnV (z : Int32) : Nat := 1 + lowK (z >>> ((7 : Int32) &&& 31)) % 5
def ffV (z : Int32) : Nat := lowK (z >>> ((10 : Int32) &&& 31)) % 2
def a0V (z : Int32) : Nat := lowK (z >>> ((11 : Int32) &&& 31)) % 3
theorem xmV_r (y : Int32) : 0 < xmV y ∧ xmV y ≤ 100 := by unfold xmV; split <;> decide
theorem qmV_r (y : Int32) : 0 < qmV y ∧ qmV y ≤ 100 := by unfold qmV; split <;> decide
theorem kkV_r (y : Int32) : kkV y < 6 := Nat.mod_lt _ (by decide)
theorem ddV_r (y : Int32) : ddV y < 100 := by
  have h1 := Nat.mod_lt (lowK (y >>> ((5 : Int32) &&& 31))) (show 12 > 0 by decide)
  have h2 := Nat.mod_lt (lowK (y >>> ((5 : Int32) &&& 31))) (show 100 > 0 by decide)
  unfold ddV
  split <;> omega
theorem xxV_r (y : Int32) : xxV y < 100 := Nat.lt_of_lt_of_le (Nat.mod_lt _ (xmV_r y).1) (xmV_r y).2
theorem gaV_r (y : Int32) : gaV y ≤ 2 := Nat.le_of_lt_succ (Nat.mod_lt _ (by decide))
theorem qqV_r (y : Int32) : qqV y < 100 := Nat.lt_of_lt_of_le (Nat.mod_lt _ (qmV_r y).1) (qmV_r y).2
theorem ffV_r (y : Int32) : ffV y < 2 := Nat.mod_lt _ (by decide)
theorem a0V_r (y : Int32) : a0V y ≤ 2 := Nat.le_of_lt_succ (Nat.mod_lt _ (by decide))
theorem nnV_r (y : Int32) : 0 < nnV y ∧ nnV y ≤ 5 := by
  have h1 := Nat.mod_lt (lowK (y >>> ((7 : Int32) &&& 31))) (show 5 > 0 by decide)
  unfold nnV
  omega
theorem lw2 (z : Int32) : f_L_low z (2 : Int32) = some (nI (lowK z % 2)) := low_v z (m := 2) (by decide) (by decide)
theorem lw3 (z : Int32) : f_L_low z (3 : Int32) = some (nI (lowK z % 3)) := low_v z (m := 3) (by decide) (by decide)
theorem lw5 (z : Int32) : f_L_low z (5 : Int32) = some (nI (lowK z % 5)) := low_v z (m := 5) (by decide) (by decide)
theorem lw6 (z : Int32) : f_L_low z (6 : Int32) = some (nI (lowK z % 6)) := low_v z (m := 6) (by decide) (by decide)
theorem lw12 (z : Int32) : f_L_low z (12 : Int32) = some (nI (lowK z % 12)) := low_v z (m := 12) (by decide) (by decide)
theorem lw100 (z : Int32) : f_L_low z (100 : Int32) = some (nI (lowK z % 100)) := low_v z (m := 100) (by decide) (by decide)
theorem dateB {β : Type} (y : Int32) (B : Int32 → Option β) : (nm B (fun k274 => (if nI (lowK (y >>> ((3 : Int32) &&& 31)) % 3) = 0 then (bnd (f_L_low (y >>> ((5 : Int32) &&& 31)) (12 : Int32)) (fun r30 => (k274 ((40 : Int32) + r30)))) else (bnd (f_L_low (y >>> ((5 : Int32) &&& 31)) (100 : Int32)) (fun r31 => (k274 r31)))))) = B (nI (ddV y)) := by
  have m3 := Nat.mod_lt (lowK (y >>> ((3 : Int32) &&& 31))) (show 3 > 0 by decide)
  have e : (nI (lowK (y >>> ((3 : Int32) &&& 31)) % 3) = (0 : Int32)) = (lowK (y >>> ((3 : Int32) &&& 31)) % 3 = 0) := eq0 (by omega)
  unfold ddV
  simp only [nmE, lw12, lw100, bndS, e]
  by_cases c : lowK (y >>> ((3 : Int32) &&& 31)) % 3 = 0
  · rw [if_pos c, if_pos c, show (40 : Int32) = nI 40 from rfl, nI_add]
  · rw [if_neg c, if_neg c]
theorem wantB {β : Type} (y : Int32) (B : Int32 → Option β) : (nm B (fun k306 => (if nI (lowK (y >>> ((20 : Int32) &&& 31)) % 2) = 0 then (k306 (100 : Int32)) else (k306 (25 : Int32))))) = B (nI (xmV y)) := by
  have m3 := Nat.mod_lt (lowK (y >>> ((20 : Int32) &&& 31))) (show 2 > 0 by decide)
  have e : (nI (lowK (y >>> ((20 : Int32) &&& 31)) % 2) = (0 : Int32)) = (lowK (y >>> ((20 : Int32) &&& 31)) % 2 = 0) := eq0 (by omega)
  unfold xmV
  simp only [nmE, e]
  split <;> rfl
theorem quarB {β : Type} (y : Int32) (B : Int32 → Option β) : (nm B (fun k306 => (if nI (lowK (y >>> ((20 : Int32) &&& 31)) % 2) = 0 then (k306 (100 : Int32)) else (k306 (20 : Int32))))) = B (nI (qmV y)) := by
  have m3 := Nat.mod_lt (lowK (y >>> ((20 : Int32) &&& 31))) (show 2 > 0 by decide)
  have e : (nI (lowK (y >>> ((20 : Int32) &&& 31)) % 2) = (0 : Int32)) = (lowK (y >>> ((20 : Int32) &&& 31)) % 2 = 0) := eq0 (by omega)
  unfold qmV
  simp only [nmE, e]
  split <;> rfl
def zB (L : Nat) (xs : Nat → Int32) : Int32 := cellV L xs 0
def yB (L : Nat) (xs : Nat → Int32) (i : Nat) : Int32 := cellV L xs (1 + i)
def peB (L : Nat) (xs : Nat → Int32) : Nat → Nat := peP (a0V (zB L xs)) (fun i => gaV (yB L xs i))
theorem peB_le (L : Nat) (xs : Nat → Int32) (i : Nat) : peB L xs i ≤ 6 + 7 * i := peP_le (a0V_r _) (fun _ => gaV_r _) i
theorem peB_s (L : Nat) (xs : Nat → Int32) (i : Nat) : peB L xs (i + 1) = peB L xs i + gaV (yB L xs i) + 5 := rfl
/-- the law's room while the street is laid: h houses stand -/
def BI (L : Nat) (xs : Nat → Int32) (h : Nat) (σ : Sg) : Prop :=
  (∀ k, gR σ k = gR sgC0 k) ∧ gS σ (16 * 18 + 1) = nI 6 ∧ gS σ (16 * 14 + 1) = nI 50 ∧ H0 (gA σ 14) (a0V (zB L xs)) (ffV (zB L xs)) (qqV (zB L xs)) ∧
  (∀ i, i < h → H1 (gA σ 14) (peB L xs i) (gaV (yB L xs i)) (kkV (yB L xs i)) (ddV (yB L xs i)) (xxV (yB L xs i))) ∧ (∀ j, peB L xs h ≤ j → j < 50 → gA σ 14 j = 32) ∧
  (gA σ 41 0 = nI (qqV (zB L xs)) ∧ gA σ 41 1 = nI (nnV (zB L xs)) ∧ ∀ i, i < h → gA σ 41 (2 + i) = nI (kkV (yB L xs i)) ∧ gA σ 41 (8 + i) = nI (xxV (yB L xs i))) ∧
  ∀ k, k < 23 → gA σ 42 k = if k = 3 then nI (ffV (zB L xs)) else if 5 ≤ k ∧ k < 5 + h then nI (ddV (yB L xs (k - 5))) else if 17 ≤ k then -9 else 0
theorem H0.cg {f g : Nat → Int32} {a0 ff qq : Nat} (h : H0 f a0 ff qq) (e : ∀ j, j < a0 + 4 → g j = f j) : H0 g a0 ff qq :=
  ⟨fun j hj => (e j (by omega)).trans (h.1 j hj), (e _ (by omega)).trans h.2.1, (e _ (by omega)).trans h.2.2.1, (e _ (by omega)).trans h.2.2.2.1, (e _ (by omega)).trans h.2.2.2.2⟩
theorem H1.cg {f g : Nat → Int32} {p a k d x : Nat} (h : H1 f p a k d x) (e : ∀ j, j < p + a + 5 → g j = f j) : H1 g p a k d x :=
  ⟨fun j h1 h2 => (e j (by omega)).trans (h.1 j h1 h2), (e _ (by omega)).trans h.2.1, ⟨(e _ (by omega)).trans h.2.2.1.1, (e _ (by omega)).trans h.2.2.1.2⟩, (e _ (by omega)).trans h.2.2.2.1, (e _ (by omega)).trans h.2.2.2.2⟩
theorem peB_mono (L : Nat) (xs : Nat → Int32) {i j : Nat} (h : i ≤ j) : peB L xs i ≤ peB L xs j := by
  have := peP_mono (a0V (zB L xs)) (fun i => gaV (yB L xs i)) (j - i) i
  rw [show i + (j - i) = j by omega] at this
  exact this
/-- a house more stands -/
theorem BI.more {L : Nat} {xs : Nat → Int32} {h : Nat} {σ σ' : Sg} (hB : BI L xs h σ) (hh : h < 5)
    (hR : ∀ k, gR σ' k = gR σ k) (hS : ∀ k, gS σ' k = gS σ k)
    (h14 : ∀ j, j < peB L xs h + gaV (yB L xs h) ∨ peB L xs h + gaV (yB L xs h) + 5 ≤ j → gA σ' 14 j = gA σ 14 j)
    (hP : gA σ' 14 (peB L xs h + gaV (yB L xs h)) = nI (ltr (kkV (yB L xs h))))
    (hd : D2 (gA σ' 14) (peB L xs h + gaV (yB L xs h) + 1) (ddV (yB L xs h))) (hx : D2 (gA σ' 14) (peB L xs h + gaV (yB L xs h) + 3) (xxV (yB L xs h)))
    (h41 : gA σ' 41 = upd (upd (gA σ 41) (2 + h) (nI (kkV (yB L xs h)))) (8 + h) (nI (xxV (yB L xs h))))
    (h42 : gA σ' 42 = upd (gA σ 42) (5 + h) (nI (ddV (yB L xs h)))) : BI L xs (h + 1) σ' := by
  obtain ⟨b1, b2, b3, b4, b5, b6, ⟨b7, b8, b9⟩, b10⟩ := hB
  have hl := peB_le L xs h
  have hg := gaV_r (yB L xs h)
  have hz : a0V (zB L xs) + 4 ≤ peB L xs h := peB_mono L xs (Nat.zero_le h)
  refine ⟨fun k => (hR k).trans (b1 k), (hS _).trans b2, (hS _).trans b3, b4.cg (fun j hj => h14 j (Or.inl (by omega))), fun i hi => ?_, fun j h1 h2 => ?_, ⟨?_, ?_, fun i hi => ?_⟩, fun k hk => ?_⟩
  · by_cases e : i = h
    · subst e
      exact ⟨fun j h1 h2 => (h14 j (Or.inl h2)).trans (b6 j h1 (by omega)), hP, hd, hx⟩
    · refine (b5 i (by omega)).cg (fun j hj => h14 j (Or.inl ?_))
      have := peB_mono L xs (show i + 1 ≤ h by omega)
      rw [peB_s] at this
      omega
  · rw [peB_s] at h1
    exact (h14 j (Or.inr h1)).trans (b6 j (by omega) h2)
  · rw [h41, upd_ne9 _ _ (by omega), upd_ne9 _ _ (by omega)]; exact b7
  · rw [h41, upd_ne9 _ _ (by omega), upd_ne9 _ _ (by omega)]; exact b8
  · rw [h41]
    by_cases e : i = h
    · subst e
      rw [upd_ne9 _ _ (by omega), upd_self9, upd_self9]
      exact ⟨rfl, rfl⟩
    · rw [upd_ne9 _ _ (by omega), upd_ne9 _ _ (by omega), upd_ne9 _ _ (by omega), upd_ne9 _ _ (by omega)]
      exact b9 i (by omega)
  · rw [h42]
    by_cases e : k = 5 + h
    · subst e
      rw [upd_self9, if_neg (by omega), if_pos (by omega), show 5 + h - 5 = h by omega]
    · rw [upd_ne9 _ _ e, b10 k hk]
      by_cases e3 : k = 3
      · rw [if_pos e3, if_pos e3]
      · rw [if_neg e3, if_neg e3]
        by_cases e5 : 5 ≤ k ∧ k < 5 + h
        · rw [if_pos e5, if_pos (by omega)]
        · rw [if_neg e5, if_neg (show ¬ (5 ≤ k ∧ k < 5 + (h + 1)) by omega)]
set_option maxHeartbeats 4000000 in
theorem lay_l {L : Nat} {xs : Nat → Int32} {K : Bool → Sg → Option (Bool × Sg)} (hL : L ≤ 260) : ∀ m h N σ, h + m = nnV (zB L xs) → m < N → BI L xs h σ → ∃ σ', l_L_built_198 L xs 0 41 42 K N true (nI (peB L xs h)) (nI h) σ = K true σ' ∧ BI L xs (nnV (zB L xs)) σ' := by
  intro m
  have hn := nnV_r (zB L xs)
  induction m with
  | zero =>
    intro h N σ hm hN hB
    obtain ⟨N, rfl⟩ : ∃ k, N = k + 1 := ⟨N - 1, by omega⟩
    refine ⟨σ, ?_, by rw [← hm, Nat.add_zero]; exact hB⟩
    unfold l_L_built_198
    rw [show inB (1 : Int32) (cLen 41) = true from by decide, ckT, cl1, hB.2.2.2.2.2.2.1.2.1, if_pos (nI_le (by omega) (by omega))]
  | succ m ih =>
    intro h N σ hm hN hB
    obtain ⟨N, rfl⟩ : ∃ k, N = k + 1 := ⟨N - 1, by omega⟩
    have hl := peB_le L xs h
    have hg := gaV_r (yB L xs h)
    conv => enter [1, σ', 1, 1]; unfold l_L_built_198
    rw [show inB (1 : Int32) (cLen 41) = true from by decide, ckT, cl1, hB.2.2.2.2.2.2.1.2.1, if_neg (nI_ge (by omega) (by omega)), show ((0 : Int32) + (1 : Int32)) + nI h = nI (1 + h) from nI_add 1 h, cell_v hL (by omega) σ, bndS, lw6, bndS, show (2 : Int32) + nI h = nI (2 + h) from nI_add 2 h, inB_nI (show 2 + h < cLen 41 by rw [c41]; omega) (by rw [c41]; decide), ckT, nI_clamp (show 2 + h < 2 ^ 31 by omega), nmE]
    obtain ⟨σ1, q1⟩ : ∃ x, x = pA σ 41 (upd (gA σ 41) (2 + h) (nI (kkV (yB L xs h)))) := ⟨_, rfl⟩
    rw [show pA σ 41 (upd (gA σ 41) (2 + h) (nI (lowK (cellV L xs (1 + h)) % 6))) = σ1 from q1.symm, lw3, bndS, dateB, show (5 : Int32) + nI h = nI (5 + h) from nI_add 5 h, inB_nI (show 5 + h < cLen 42 by rw [c42]; omega) (by rw [c42]; decide), ckT, nI_clamp (show 5 + h < 2 ^ 31 by omega), nmE]
    obtain ⟨σ2, q2⟩ : ∃ x, x = pA σ1 42 (upd (gA σ1 42) (5 + h) (nI (ddV (yB L xs h)))) := ⟨_, rfl⟩
    rw [show pA σ1 42 (upd (gA σ1 42) (5 + h) (nI (ddV (cellV L xs (1 + h))))) = σ2 from q2.symm, lw2, bndS, wantB, low_v _ (xmV_r _).1 (Nat.lt_of_le_of_lt (xmV_r _).2 (by decide)), bndS, show (8 : Int32) + nI h = nI (8 + h) from nI_add 8 h, inB_nI (show 8 + h < cLen 41 by rw [c41]; omega) (by rw [c41]; decide), ckT, nI_clamp (show 8 + h < 2 ^ 31 by omega), nmE]
    obtain ⟨σ3, q3⟩ : ∃ x, x = pA σ2 41 (upd (gA σ2 41) (8 + h) (nI (xxV (yB L xs h)))) := ⟨_, rfl⟩
    rw [show pA σ2 41 (upd (gA σ2 41) (8 + h) (nI (lowK (cellV L xs (1 + h) >>> ((12 : Int32) &&& 31)) % xmV (cellV L xs (1 + h))))) = σ3 from q3.symm, lw3, bndS, nmE, nmE, nmE, bfT]
    have f41 : gA σ3 41 = upd (upd (gA σ 41) (2 + h) (nI (kkV (yB L xs h)))) (8 + h) (nI (xxV (yB L xs h))) := by
      rw [q3, gA_same, q2, gA_ne _ _ (by decide), q1, gA_same]
    have f42 : gA σ3 42 = upd (gA σ 42) (5 + h) (nI (ddV (yB L xs h))) := by
      rw [q3, gA_ne _ _ (by decide), q2, gA_same, q1, gA_ne _ _ (by decide)]
    have f14 : gA σ3 14 = gA σ 14 := by rw [q3, gA_ne _ _ (by decide), q2, gA_ne _ _ (by decide), q1, gA_ne _ _ (by decide)]
    have fS : ∀ k, gS σ3 k = gS σ k := fun k => by rw [q3, q2, q1]; rfl
    have fR : ∀ k, gR σ3 k = gR σ k := fun k => by rw [q3, q2, q1]; rfl
    clear q3 q2 q1
    obtain ⟨σa, σb, σc, a1, a2, a3, a4, a5, a6, a7, a8, a9, a10⟩ := house_e (σ := σ3) (P := peB L xs h + gaV (yB L xs h)) ((fS _).trans hB.2.2.1) (by omega) (fun j h1 h2 => by rw [f14]; exact hB.2.2.2.2.2.1 j (by omega) h2) (kkV_r (yB L xs h)) (ddV_r (yB L xs h)) (xxV_r (yB L xs h))
    have g2 : gA σ3 41 (2 + h) = nI (kkV (yB L xs h)) := by rw [f41, upd_ne9 _ _ (by omega), upd_self9]
    have g5 : gA σa 42 (5 + h) = nI (ddV (yB L xs h)) := by rw [a4.2.1 42 (by decide), f42, upd_self9]
    have g8 : gA σb 41 (8 + h) = nI (xxV (yB L xs h)) := by rw [a5.2.1 41 (by decide), f41, upd_self9]
    have eP : nI (peB L xs h) + nI (lowK (cellV L xs (1 + h) >>> ((22 : Int32) &&& 31)) % 3) = nI (peB L xs h + gaV (yB L xs h)) := nI_add _ _
    rw [eP, ckT, g2, (ltr_r _ (kkV_r _)).2.1, bndS, a1, bnd2S, if_pos rfl, ckT, g5, a2, bnd2S, bfT, ckT, g8, a3, bnd2S, bfT]
    simp only [nmE]
    rw [show nI (peB L xs h + gaV (yB L xs h)) + (5 : Int32) = nI (peB L xs h + gaV (yB L xs h) + 5) from nI_add _ 5, nI_1]
    have hB' : BI L xs (h + 1) σc := hB.more (by omega) (fun k => (a6.2.2 k).trans (fR k)) (fun k => (a6.1 k).trans (fS k)) (fun j hj => by rw [a7 j hj, f14]) a8 a9 a10 ((a6.2.1 41 (by decide)).trans f41) ((a6.2.1 42 (by decide)).trans f42)
    exact ih (h + 1) N σc (by omega) (by omega) hB'
