/-! the street laid: its text and how it is read -/
def ltr (k : Nat) : Nat := if k = 0 then 104 else if k = 1 then 118 else if k = 2 then 114 else if k = 3 then 100 else if k = 4 then 105 else 109
theorem ltr_r : ∀ k < 6, f_X1_byLetter (nI (ltr k)) = some (nI k) ∧ f_L_letter (nI k) = some (nI (ltr k)) ∧ ltr k < 128 ∧ ¬ nI (ltr k) = 32 := by decide +kernel
theorem inV9 : ∀ a < 10, inV (nI a) 0 9 = true := by decide +kernel
theorem inV1 : ∀ a < 2, inV (nI a) 0 1 = true := by decide +kernel
def peP (a0 : Nat) (ga : Nat → Nat) : Nat → Nat
  | 0 => a0 + 4
  | i + 1 => peP a0 ga i + ga i + 5
theorem peP_le {a0 : Nat} {ga : Nat → Nat} (ha : a0 ≤ 2) (hg : ∀ i, ga i ≤ 2) : ∀ i, peP a0 ga i ≤ 6 + 7 * i := by
  intro i
  induction i with
  | zero => show a0 + 4 ≤ 6; omega
  | succ i ih =>
    have := hg i
    show peP a0 ga i + ga i + 5 ≤ 6 + 7 * (i + 1)
    omega
theorem peP_mono (a0 : Nat) (ga : Nat → Nat) : ∀ d i, peP a0 ga i ≤ peP a0 ga (i + d) := by
  intro d
  induction d with
  | zero => intro i; exact Nat.le_refl _
  | succ d ih =>
    intro i
    have := ih i
    show peP a0 ga i ≤ peP a0 ga (i + d) + ga (i + d) + 5
    omega
def D2 (tx : Nat → Int32) (p d : Nat) : Prop := tx p = nI (48 + d / 10) ∧ tx (p + 1) = nI (48 + d % 10)
def H1 (tx : Nat → Int32) (p g k d x : Nat) : Prop := (∀ j, p ≤ j → j < p + g → tx j = 32) ∧ tx (p + g) = nI (ltr k) ∧ D2 tx (p + g + 1) d ∧ D2 tx (p + g + 3) x
def H0 (tx : Nat → Int32) (a0 ff qq : Nat) : Prop := (∀ j, j < a0 → tx j = 32) ∧ tx a0 = 115 ∧ tx (a0 + 1) = nI (48 + ff) ∧ D2 tx (a0 + 2) qq
theorem sk_to {m : Nat} {tx : Nat → Int32} : ∀ d p q, p ≤ q → q < p + d → (∀ j, p ≤ j → j < q → tx j = 32) → q ≤ m → (q = m ∨ ¬ tx q = 32) → sk m tx d p = q := by
  intro d
  induction d with
  | zero => intro p q h1 h2; omega
  | succ d ih =>
    intro p q h1 h2 hb hm hq
    unfold sk
    by_cases e : p = q
    · subst e
      rw [if_neg (fun z => by rcases hq with h | h; exact absurd z.1 (by omega); exact h z.2)]
    · rw [if_pos ⟨by omega, hb p (Nat.le_refl _) (by omega)⟩]
      exact ih (p + 1) q (by omega) (by omega) (fun j h3 h4 => hb j (by omega) h4) hm hq
theorem fgD {m p a : Nat} {tx : Nat → Int32} (hp : p < m) (ha : a < 10) (e : tx p = nI (48 + a)) : fgB m tx 9 p = true ∧ dg9 tx p = a := by
  have h : tx p - 48 = nI a := by rw [e, show (48 : Int32) = nI 48 from rfl, nIsub (by omega), show 48 + a - 48 = a by omega]
  constructor
  · unfold fgB; rw [h, inV9 a ha, decide_eq_true hp]; rfl
  · unfold dg9; rw [h, nI_clamp (by omega)]
theorem fgD1 {m p a : Nat} {tx : Nat → Int32} (hp : p < m) (ha : a < 2) (e : tx p = nI (48 + a)) : fgB m tx 1 p = true ∧ tx p - 48 = nI a := by
  have h : tx p - 48 = nI a := by rw [e, show (48 : Int32) = nI 48 from rfl, nIsub (by omega), show 48 + a - 48 = a by omega]
  constructor
  · unfold fgB; rw [h, inV1 a ha, decide_eq_true hp]; rfl
  · exact h
theorem twD {m p d : Nat} {tx : Nat → Int32} (hp : p + 2 ≤ m) (hd : d < 100) (e : D2 tx p d) : twO m tx p = true ∧ twP m tx p = p + 2 ∧ twV tx p = d := by
  obtain ⟨a1, a2⟩ := fgD (m := m) (tx := tx) (p := p) (a := d / 10) (by omega) (by omega) e.1
  obtain ⟨b1, b2⟩ := fgD (m := m) (tx := tx) (p := p + 1) (a := d % 10) (by omega) (by omega) e.2
  refine ⟨?_, ?_, ?_⟩
  · unfold twO; rw [a1, b1]; rfl
  · unfold twP; rw [if_pos a1, if_pos b1]
  · unfold twV; rw [a2, b2]; omega
section RDL
variable {t m g h n : Nat} {tx w : Nat → Int32} {σ : Sg}
theorem two_D (hT : TC t m tx σ) {p d : Nat} (hp : gS σ 17 = nI p) (hpm : p + 2 ≤ m) (hgd : gS σ 18 = b2i true) (hd : d < 100) (e : D2 tx p d) : ∃ σ', f_X2_twoFigures σ = some (nI d, σ') ∧ TC t m tx σ' ∧ gS σ' 17 = nI (p + 2) ∧ gS σ' 18 = b2i true ∧ FrG g σ σ' ∧ gR σ' 2 = gR σ 2 ∧ (isS g → DS g h w σ → DS g h w σ') := by
  obtain ⟨r, e1, v1⟩ := two_C hT hp (by omega) hgd
  obtain ⟨o1, o2, o3⟩ := twD hpm hd e
  rw [v1 o1, o1, o2, o3] at e1
  exact ⟨_, e1, (hT.s (by decide) _).s (by decide) _, gS_same _ _ _, (gS_ne _ _ (by decide)).trans (gS_same _ _ _), (FrG.s (Or.inr (Or.inl rfl))).tr (FrG.s (Or.inl rfl)), rfl, fun hg hD => (hD.s hg (Or.inr rfl) _).s hg (Or.inl rfl) _⟩
theorem DS.wcg {w' : Nat → Int32} (hD : DS g h w σ) (e5 : w' 35 = w 35) (e6 : w' 36 = w 36) (ei : ∀ i, i < h → w' (23 + i) = w (23 + i) ∧ w' (29 + i) = w (29 + i) ∧ w' (37 + i) = w (37 + i)) : DS g h w' σ := by
  obtain ⟨a, b, c, d, e, f, i, j⟩ := hD
  refine ⟨a, b, c.trans e5.symm, d.trans e6.symm, e, f, i, fun k hk => ?_⟩
  obtain ⟨x1, x2, x3⟩ := ei k hk
  rw [x1, x2, x3]
  exact j k hk
theorem item_C (hg : isS g) (hT : TC t m tx σ) {p k d x : Nat} (hp : gS σ 17 = nI p) (hpm : p + 5 ≤ m) (hgd : gS σ 18 = b2i true) (hD : DS g h w σ) (hh : h < 6) (hk : k < 6) (hd : d < 100) (hx : x < 100) (e0 : tx p = nI (ltr k)) (e1 : D2 tx (p + 1) d) (e3 : D2 tx (p + 3) x) (w1 : w (23 + h) = nI k) (w2 : w (37 + h) = nI d) (w3' : w (29 + h) = nI x) : ∃ σ', f_X2_readHouse g σ = some σ' ∧ gS σ' 17 = nI (p + 5) ∧ gS σ' 18 = b2i true ∧ DS g (h + 1) w σ' ∧ FrG g σ σ' ∧ gR σ' 2 = gR σ 2 := by
  have hm := hT.2.1
  unfold f_X2_readHouse
  have zt : ¬ b2i true = 0 := by decide
  rw [sign_v hT hp (by omega), bndS, if_pos (show p < m by omega), e0, (ltr_r k hk).1, bndS]
  simp only [nmE, hgd, zt, if_false, nI9 (show k < 2 ^ 31 by omega)]
  simp only [gS_pS, hp, if_true, show (17 = 18) = False from eq_false (by decide), show (18 = 17) = False from eq_false (by decide), if_false, zt]
  rw [show nI p + b2i true = nI (p + 1) from nI_1 p]
  have hT1 : TC t m tx (pS (pS σ 18 (b2i true)) 17 (nI (p + 1))) := (hT.s (by decide) _).s (by decide) _
  have hD1 : DS g h w (pS (pS σ 18 (b2i true)) 17 (nI (p + 1))) := (hD.s hg (Or.inr rfl) _).s hg (Or.inl rfl) _
  have hF1 : FrG g σ (pS (pS σ 18 (b2i true)) 17 (nI (p + 1))) := (FrG.s (Or.inr (Or.inl rfl))).tr (FrG.s (Or.inl rfl))
  have hp1 : gS (pS (pS σ 18 (b2i true)) 17 (nI (p + 1))) 17 = nI (p + 1) := gS_same _ _ _
  have hg1 : gS (pS (pS σ 18 (b2i true)) 17 (nI (p + 1))) 18 = b2i true := (gS_ne _ _ (by decide)).trans (gS_same _ _ _)
  have hr1 : gR (pS (pS σ 18 (b2i true)) 17 (nI (p + 1))) 2 = gR σ 2 := rfl
  generalize pS (pS σ 18 (b2i true)) 17 (nI (p + 1)) = σ1 at hT1 hD1 hF1 hp1 hg1 hr1 ⊢
  obtain ⟨σ2, a1, a2, a3, a4, a5, a6, a7⟩ := two_D (g := g) (h := h) (w := w) hT1 hp1 (by omega) hg1 hd e1
  obtain ⟨σ3, b1, b2, b3, b4, b5, b6, b7⟩ := two_D (g := g) (h := h) (w := w) a2 a3 (by omega) a4 hx e3
  obtain ⟨σ', c1, c2, c3, c4, c5, c6⟩ := build_C hg (b7 hg (a7 hg hD1)) hh k d x
  rw [a1, bnd2S, b1, bnd2S, if_neg (by rw [b4]; exact zt), c1, bndS]
  refine ⟨σ', rfl, c4.trans b3, c5.trans b4, c2.wcg ?_ ?_ (fun i hi => ?_), ((hF1.tr a5).tr b5).tr c3, ((c6.trans b6).trans a6).trans hr1⟩
  · unfold w3
    rw [va_up_ne _ _ (by omega), va_up_ne _ _ (by omega), va_up_ne _ _ (by omega)]
  · unfold w3
    rw [va_up_ne _ _ (by omega), va_up_ne _ _ (by omega), va_up_ne _ _ (by omega)]
  · rw [w3_k w k d x hh hi, w3_d w k d x hh hi, w3_x w k d x hh hi]
    by_cases e : i = h
    · subst e
      rw [if_pos rfl, if_pos rfl, if_pos rfl]
      exact ⟨w1, w3', w2⟩
    · rw [if_neg e, if_neg e, if_neg e]
      exact ⟨rfl, rfl, rfl⟩
variable {a0 ff qq : Nat} {ga kk dd xx : Nat → Nat}
theorem loop_C (hg : isS g) (hn0 : 0 < n) (hn6 : n ≤ 6) (hk : ∀ i, kk i < 6) (hd : ∀ i, dd i < 100) (hx : ∀ i, xx i < 100) (hga : ∀ i, ga i ≤ 2) (hH : ∀ i, i < n → H1 tx (peP a0 ga i) (ga i) (kk i) (dd i) (xx i)) (hb : ∀ j, peP a0 ga n ≤ j → j < m → tx j = 32) (hpn : peP a0 ga n ≤ m) (hw : ∀ i, i < n → w (23 + i) = nI (kk i) ∧ w (37 + i) = nI (dd i) ∧ w (29 + i) = nI (xx i)) :
    ∀ (e h N : Nat) (σ : Sg), h + e = n → e + 2 < N → TC t m tx σ → gS σ 17 = nI (peP a0 ga h) → gS σ 18 = b2i true → DS g h w σ → ∃ σ', l_X2_read_43 (11 + t) g N (nI h) σ = some (-9, σ') ∧ FrG g σ σ' ∧ gR σ' 2 = gR σ 2 ∧ DS g n w σ' := by
  intro e
  induction e with
  | zero =>
    intro h N σ he hN hT hp hgd hD
    have hm := hT.2.1
    obtain rfl : h = n := he
    obtain ⟨N, rfl⟩ : ∃ k, N = k + 1 := ⟨N - 1, by omega⟩
    have es : sk m tx 60 (peP a0 ga h) = m := sk_to 60 _ m hpn (by have : 4 ≤ peP a0 ga h := (by have := peP_mono a0 ga h 0; rw [Nat.zero_add] at this; have e4 : peP a0 ga 0 = a0 + 4 := rfl; omega); omega) hb (Nat.le_refl _) (Or.inl rfl)
    unfold l_X2_read_43
    rw [if_neg (show ¬ (6 : Int32) < nI h from nI_nlt (b := h) (a := 6) (by omega) (by decide)), if_neg (by rw [hgd]; decide), skip_C hT hp hpn, bndS, gS_same, es]
    have hsz : gS (pS σ 17 (nI m)) (16 * (11 + t) + 1) = nI m := (gS_ne _ _ (by omega)).trans hT.2.2.2.1
    rw [hsz]
    have hle : ¬ nI h ≤ 0 := by rw [show (0 : Int32) = nI 0 from rfl]; exact nI_ge (by omega) (by omega)
    simp only [nIlt (show m < 2 ^ 31 by omega) (show m < 2 ^ 31 by omega), Nat.lt_irrefl, if_true, if_false, nmE, bfT, hle]
    exact ⟨_, rfl, FrG.s (Or.inl rfl), rfl, hD.s hg (Or.inl rfl) _⟩
  | succ e ih =>
    intro h N σ he hN hT hp hgd hD
    have hm := hT.2.1
    obtain ⟨N, rfl⟩ : ∃ k, N = k + 1 := ⟨N - 1, by omega⟩
    obtain ⟨u1, u2, u3, u4⟩ := hH h (by omega)
    obtain ⟨v1, v2, v3⟩ := hw h (by omega)
    have hP : peP a0 ga h + ga h + 5 ≤ m := by
      have := peP_mono a0 ga (n - (h + 1)) (h + 1)
      rw [show h + 1 + (n - (h + 1)) = n by omega] at this
      have e5 : peP a0 ga (h + 1) = peP a0 ga h + ga h + 5 := rfl
      omega
    have hgh := hga h
    have es : sk m tx 60 (peP a0 ga h) = peP a0 ga h + ga h := sk_to 60 _ _ (by omega) (by omega) u1 (by omega) (Or.inr (by rw [u2]; exact (ltr_r _ (hk h)).2.2.2))
    conv in l_X2_read_43 _ _ _ _ _ => unfold l_X2_read_43
    rw [if_neg (show ¬ (6 : Int32) < nI h from nI_nlt (b := h) (a := 6) (by omega) (by decide)), if_neg (by rw [hgd]; decide), skip_C hT hp (by omega), bndS, gS_same, es]
    have hsz : gS (pS σ 17 (nI (peP a0 ga h + ga h))) (16 * (11 + t) + 1) = nI m := (gS_ne _ _ (by omega)).trans hT.2.2.2.1
    rw [hsz]
    have q6b : ¬ (6 : Int32) ≤ nI h := nI_ge (b := 6) (by omega) (by decide)
    have ov : peP a0 ga h + ga h < m := by omega
    simp only [nIlt (show peP a0 ga h + ga h < 2 ^ 31 by omega) (show m < 2 ^ 31 by omega), ov, if_true, if_false, nmE, bfF]
    rw [if_neg q6b]
    have e1 : pS (pS σ 17 (nI (peP a0 ga h + ga h))) 18 (b2i true) = pS σ 17 (nI (peP a0 ga h + ga h)) := by
      rw [← hgd, show gS σ 18 = gS (pS σ 17 (nI (peP a0 ga h + ga h))) 18 from (gS_ne _ _ (by decide)).symm, pS_self]
    rw [e1]
    obtain ⟨σ', b1, b2, b3, b4, b5, b6⟩ := item_C (σ := pS σ 17 (nI (peP a0 ga h + ga h))) hg (hT.s (by decide) _) (gS_same _ _ _) (by omega) ((gS_ne _ _ (by decide)).trans hgd) (hD.s hg (Or.inl rfl) _) (show h < 6 by omega) (hk h) (hd h) (hx h) u2 u3 u4 v1 v2 v3
    rw [b1, bndS, nI_1]
    have hT' : TC t m tx σ' := (hT.s (by decide) _).fr hg b5 b6
    obtain ⟨σ2, i1, i2, i3, i4⟩ := ih (h + 1) N σ' (by omega) (by omega) hT' b2 b3 b4
    exact ⟨σ2, i1, ((FrG.s (Or.inl rfl)).tr b5).tr i2, i3.trans b6, i4⟩
theorem read_C (hg : isS g) (ht : t < 4) (hm : m ≤ 60) (hs : gS σ (16 * (11 + t) + 1) = nI m) (hA : ∀ i, i < m → gA σ (11 + t) i = tx i) (hn0 : 0 < n) (hn6 : n ≤ 6) (hk : ∀ i, kk i < 6) (hd : ∀ i, dd i < 100) (hx : ∀ i, xx i < 100) (hga : ∀ i, ga i ≤ 2) (ha0 : a0 ≤ 2) (hf : ff < 2) (hq : qq < 100) (hH0 : H0 tx a0 ff qq) (hH : ∀ i, i < n → H1 tx (peP a0 ga i) (ga i) (kk i) (dd i) (xx i)) (hb : ∀ j, peP a0 ga n ≤ j → j < m → tx j = 32) (hpn : peP a0 ga n ≤ m) (hw5 : w 35 = nI qq) (hw6 : w 36 = nI ff) (hw : ∀ i, i < n → w (23 + i) = nI (kk i) ∧ w (37 + i) = nI (dd i) ∧ w (29 + i) = nI (xx i)) :
    ∃ σ', f_X2_read (11 + t) g σ = some (-9, σ') ∧ FrG g σ σ' ∧ gR σ' 2 = 11 + t ∧ DS g n w σ' := by
  obtain ⟨z1, z2, z3, z4⟩ := hH0
  have hP0 : a0 + 4 ≤ m := by
    have := peP_mono a0 ga n 0
    rw [Nat.zero_add] at this
    have e4 : peP a0 ga 0 = a0 + 4 := rfl
    omega
  unfold f_X2_read
  simp only [nmE]
  have hT : TC t m tx (pS (pS (pR σ 2 (11 + t)) 17 0) 18 (b2i true)) := ⟨ht, hm, rfl, (gS_ne _ _ (by omega)).trans ((gS_ne _ _ (by omega)).trans hs), hA⟩
  have hF : FrG g σ (pS (pS (pR σ 2 (11 + t)) 17 0) 18 (b2i true)) := ⟨fun k h1 h2 _ _ _ _ => (gS_ne _ _ h2).trans (gS_ne _ _ h1), fun _ _ _ _ => rfl, fun _ => rfl, fun k hk => by
    show gR (pR σ 2 (11 + t)) k = gR σ k
    rw [gR_pR, if_neg hk]⟩
  have hp : gS (pS (pS (pR σ 2 (11 + t)) 17 0) 18 (b2i true)) 17 = nI 0 := (gS_ne _ _ (by decide)).trans (gS_same _ _ _)
  have hgd : gS (pS (pS (pR σ 2 (11 + t)) 17 0) 18 (b2i true)) 18 = b2i true := gS_same _ _ _
  have hr : gR (pS (pS (pR σ 2 (11 + t)) 17 0) 18 (b2i true)) 2 = 11 + t := rfl
  generalize pS (pS (pR σ 2 (11 + t)) 17 0) 18 (b2i true) = σ1 at hT hF hp hgd hr ⊢
  have es : sk m tx 60 0 = a0 := sk_to 60 _ _ (by omega) (by omega) (fun j _ h2 => z1 j h2) (by omega) (Or.inr (by rw [z2]; decide))
  rw [skip_C hT hp (Nat.zero_le _), bndS, es]
  have hT1 : TC t m tx (pS σ1 17 (nI a0)) := hT.s (by decide) _
  rw [s_C hT1 (gS_same _ _ _) (by omega) ((gS_ne _ _ (by decide)).trans hgd), bndS, if_pos ⟨show a0 < m by omega, z2⟩]
  have hT2 : TC t m tx (pS (pS (pS σ1 17 (nI a0)) 18 (b2i true)) 17 (nI (a0 + 1))) := (hT1.s (by decide) _).s (by decide) _
  obtain ⟨f1, f2⟩ := fgD1 (m := m) (tx := tx) (p := a0 + 1) (by omega) hf z3
  rw [figure_C hT2 (gS_same _ _ _) (by omega) ((gS_ne _ _ (by decide)).trans (gS_same _ _ _)), bnd2S, f1, if_pos rfl, if_pos rfl, f2]
  have hT3 : TC t m tx (pS (pS (pS (pS (pS σ1 17 (nI a0)) 18 (b2i true)) 17 (nI (a0 + 1))) 18 (b2i true)) 17 (nI (a0 + 1 + 1))) := (hT2.s (by decide) _).s (by decide) _
  have hF3 : FrG g σ (pS (pS (pS (pS (pS σ1 17 (nI a0)) 18 (b2i true)) 17 (nI (a0 + 1))) 18 (b2i true)) 17 (nI (a0 + 1 + 1))) := ((((hF.tr (FrG.s (Or.inl rfl))).tr (FrG.s (Or.inr (Or.inl rfl)))).tr (FrG.s (Or.inl rfl))).tr (FrG.s (Or.inr (Or.inl rfl)))).tr (FrG.s (Or.inl rfl))
  have hp3 : gS (pS (pS (pS (pS (pS σ1 17 (nI a0)) 18 (b2i true)) 17 (nI (a0 + 1))) 18 (b2i true)) 17 (nI (a0 + 1 + 1))) 17 = nI (a0 + 2) := gS_same _ _ _
  have hg3 : gS (pS (pS (pS (pS (pS σ1 17 (nI a0)) 18 (b2i true)) 17 (nI (a0 + 1))) 18 (b2i true)) 17 (nI (a0 + 1 + 1))) 18 = b2i true := (gS_ne _ _ (by decide)).trans (gS_same _ _ _)
  have hr3 : gR (pS (pS (pS (pS (pS σ1 17 (nI a0)) 18 (b2i true)) 17 (nI (a0 + 1))) 18 (b2i true)) 17 (nI (a0 + 1 + 1))) 2 = 11 + t := hr
  generalize pS (pS (pS (pS (pS σ1 17 (nI a0)) 18 (b2i true)) 17 (nI (a0 + 1))) 18 (b2i true)) 17 (nI (a0 + 1 + 1)) = σ3 at hT3 hF3 hp3 hg3 hr3 ⊢
  obtain ⟨σ4, b1, b2, b3, b4, b5, b6, -⟩ := two_D (g := g) (h := 0) (w := w) hT3 hp3 (by omega) hg3 hq z4
  rw [b1, bnd2S]
  obtain ⟨σ5, c1, c2, c3, c4, c5, c6⟩ := begin_C (σ := σ4) hg (nI ff) (nI qq)
  rw [c1, bndS]
  obtain ⟨σ', i1, i2, i3, i4⟩ := loop_C (t := t) (m := m) (a0 := a0) hg hn0 hn6 hk hd hx hga hH hb hpn hw n 0 FU σ5 (by omega) (lt_FU (by omega)) (b2.fr hg c2 c5) (c3.trans b3) (c4.trans b4) (c6 w hw5 hw6)
  exact ⟨σ', i1, ((hF3.tr b5).tr c2).tr i2, ((i3.trans c5).trans b6).trans hr3, i4⟩
end RDL
theorem townL {n d : Nat} {w : Nat → Int32} {σ : Sg} (hd : isS d) (hgd : gR σ 1 = d) (hn0 : 0 < n) (hD : DS d n w σ) : ∃ σ3 : Sg, (nm (pR σ 0 (gR σ 1)) (fun σ8 => (nm (pR σ8 1 (gR σ 0)) (fun σ9 => (bnd (f_X0_fill (stI (gR σ9 0) 6) (0 : Int32) (0 : Int32) σ9) (fun σ11 => (bnd (f_X4_replay (gR σ11 0) σ11) (fun σ13 => (l_X5_town_87
    (fun (σv122 : Sg) => (some ((gS σv122 (16 * (gR σv122 0) + 7)), σv122))) FU (0 : Int32) σ13))))))))) = some (nI n, σ3) ∧ CT n w [] d σ3 ∧ gR σ3 0 = d ∧ gR σ3 1 = gR σ 0 ∧ gR σ3 2 = gR σ 2 ∧ (∀ k, k < 16 * 15 → ¬ (16 * d ≤ k ∧ k < 16 * d + 16) → gS σ3 k = gS σ k) ∧ gS σ3 (16 * 18 + 1) = gS σ (16 * 18 + 1) ∧ (∀ a, a < 19 ∨ 38 ≤ a → gA σ3 a = gA σ a) ∧ (∀ k, gL σ3 k = gL σ k) ∧ ∀ k, k < 3 → gS σ3 (16 * (15 + k) + 1) = -1 := by
  have hdd := hd
  unfold isS at hdd
  have e6 : stI d 6 = 7 * d - 2 + 6 := rfl
  have e0 : stI d 0 = 7 * d - 2 + 0 := rfl
  have e1 : stI d 1 = 7 * d - 2 + 1 := rfl
  have e2 : stI d 2 = 7 * d - 2 + 2 := rfl
  have e3 : stI d 3 = 7 * d - 2 + 3 := rfl
  have e4 : stI d 4 = 7 * d - 2 + 4 := rfl
  have e5 : stI d 5 = 7 * d - 2 + 5 := rfl
  rw [nmE, nmE, hgd]
  have ga : gR (pR (pR σ 0 d) 1 (gR σ 0)) 0 = d := rfl
  rw [ga, show f_X0_fill (stI d 6) 0 0 (pR (pR σ 0 d) 1 (gR σ 0)) = _ from X0_fill_i (k := 0) (Nat.zero_le _), bndS]
  obtain ⟨σ1, q1⟩ : ∃ x, x = pA (pS (pR (pR σ 0 d) 1 (gR σ 0)) (16 * stI d 6 + 1) (nI 0)) (stI d 6) (fun i => if i < 0 then 0 else gA (pR (pR σ 0 d) 1 (gR σ 0)) (stI d 6) i) := ⟨_, rfl⟩
  rw [← q1]
  have r0 : gR σ1 0 = d := by rw [q1]; rfl
  have r1 : gR σ1 1 = gR σ 0 := by rw [q1]; rfl
  have r2 : gR σ1 2 = gR σ 2 := by rw [q1]; rfl
  have rS : ∀ k, k ≠ 16 * stI d 6 + 1 → gS σ1 k = gS σ k := fun k hk => by rw [q1, gS_pA, gS_ne _ _ hk]; rfl
  have r6 : gS σ1 (16 * stI d 6 + 1) = nI 0 := by rw [q1, gS_pA, gS_same]
  have rA : ∀ a, a ≠ stI d 6 → gA σ1 a = gA σ a := fun a ha => by rw [q1, gA_ne _ _ ha]; rfl
  have rL : ∀ k, gL σ1 k = gL σ k := fun k => by rw [q1]; rfl
  clear q1
  have hD2 : DS d n w σ1 := by
    obtain ⟨u1, u2, u3, u4, u5, u6, u7, u8⟩ := hD
    refine ⟨u1, (rS _ (by omega)).trans u2, (rS _ (by omega)).trans u3, (rS _ (by omega)).trans u4, (rS _ (by omega)).trans u5, (rS _ (by omega)).trans u6, (rS _ (by omega)).trans u7, fun i hi => ?_⟩
    rw [rA _ (by omega), rA _ (by omega), rA _ (by omega)]
    exact u8 i hi
  obtain ⟨σ2, p1, p2, p3⟩ := replay0 hd hD2 r6
  rw [r0, p1, bndS, dropC]
  clear p1
  have hCT : CT n w [] d σ2 := by
    refine ⟨p2, ⟨?_, fun k hk => absurd hk (by simp)⟩, Or.inl (p2.2.2.2.2.1 2 (by decide) hn0)⟩
    rw [p3.1 _ (by omega) (by omega) (by omega) (by omega)]
    exact r6
  have ej : ∀ j, stI d j = 7 * d - 2 + j := fun _ => rfl
  obtain ⟨σ3, s1⟩ : ∃ x, x = pS (pS (pS σ2 (16 * (15 + 0) + 1) (-1)) (16 * (15 + 1) + 1) (-1)) (16 * (15 + 2) + 1) (-1) := ⟨_, rfl⟩
  rw [← s1]
  have tR : ∀ k, gR σ3 k = gR σ1 k := fun k => by rw [s1]; exact p3.2.2.2 k
  have tS : ∀ k, k ≠ 16 * (15 + 0) + 1 → k ≠ 16 * (15 + 1) + 1 → k ≠ 16 * (15 + 2) + 1 → gS σ3 k = gS σ2 k := fun k k1 k2 k3 => by rw [s1, gS_ne _ _ k3, gS_ne _ _ k2, gS_ne _ _ k1]
  have tA : ∀ a, gA σ3 a = gA σ2 a := fun a => by rw [s1]; rfl
  have tL : ∀ k, gL σ3 k = gL σ2 k := fun k => by rw [s1]; rfl
  have tk : ∀ k, k < 3 → gS σ3 (16 * (15 + k) + 1) = -1 := fun k hk => by
    rw [s1]
    rcases (show k = 0 ∨ k = 1 ∨ k = 2 by omega) with z | z | z <;> subst z
    · rw [gS_ne _ _ (by decide), gS_ne _ _ (by decide), gS_same]
    · rw [gS_ne _ _ (by decide), gS_same]
    · rw [gS_same]
  clear s1
  refine ⟨σ3, ?_, hCT.cgs (fun j _ _ => tS _ (by omega) (by omega) (by omega)) (fun j hj => tS _ (by have := ej j; omega) (by have := ej j; omega) (by have := ej j; omega)) (fun j _ => tA _), (tR 0).trans r0, (tR 1).trans r1, (tR 2).trans r2, fun k k1 k2 => ?_, ?_, fun a ha => ?_, fun k => (tL k).trans ((p3.2.2.1 k).trans (rL k)), tk⟩
  · rw [tR 0, r0, tS _ (by omega) (by omega) (by omega), p2.2.2.1]
  · rw [tS _ (by omega) (by omega) (by omega), p3.1 k (by omega) (by omega) (by omega) (by omega), rS _ (by omega)]
  · rw [tS _ (by omega) (by omega) (by omega), p3.1 _ (by omega) (by omega) (by omega) (by omega), rS _ (by omega)]
  · rw [tA, p3.2.1 a (by omega) (by omega) (by omega), rA _ (by omega)]
