theorem appL {w1 w2 : va_W} {k : Nat} {x : Nat × va_E} (h : w1[k]? = some x) : (w1 ++ w2)[k]? = some x := by
  rw [List.getElem?_append_left (List.getElem?_eq_some_iff.mp h).1]; exact h
theorem appR {w1 w2 : va_W} {k : Nat} {x : Nat × va_E} (h : w2[k]? = some x) : (w1 ++ w2)[w1.length + k]? = some x := by
  rw [List.getElem?_append_right (Nat.le_add_right _ _), Nat.add_sub_cancel_left]; exact h
theorem twoW {D : va_G} {cI cR : ClassId} {h0 h1 : Nat} {w1 w2 : va_W} {H : Heap} {A : Nat → Prop} (p1 : Pwd 74 (fun ad => celC cI cR ad sgC0) h0 w1) (p2 : Pwd 16 (fun ad => celM cI ad sgM0) h1 w2) (hP : va_P D vwCl (w1 ++ w2) H) (hD : va_D A (w1 ++ w2)) :
    ∃ adC adM : Nat → Nat, adC 0 = h0 ∧ adM 0 = h1 ∧ apN 74 adC ∧ apN 16 adM ∧ va_P D vwCl (wd 74 adC (celC cI cR adC sgC0)) H ∧ va_P D vwCl (wd 16 adM (celM cI adM sgM0)) H ∧ (∀ k, k < 74 → A (adC k)) ∧ (∀ k, k < 16 → A (adM k)) ∧ ∀ i, i < 74 → ∀ j, j < 16 → adC i ≠ adM j := by
  have hP1 : va_P D vwCl w1 H := fun k q h => hP k q (appL h)
  have hP2 : va_P D vwCl w2 H := fun k q h => hP _ q (appR h)
  have hD1 : va_D A w1 := ⟨fun i j p q hi hj e => hD.1 i j p q (appL hi) (appL hj) e, fun k q h => hD.2 k q (appL h)⟩
  have hD2 : va_D A w2 := ⟨fun i j p q hi hj e => Nat.add_left_cancel (hD.1 _ _ p q (appR hi) (appR hj) e), fun k q h => hD.2 _ q (appR h)⟩
  obtain ⟨ad1, pos1, e1, i1, k1⟩ := p1
  obtain ⟨ad2, pos2, e2, i2, k2⟩ := p2
  obtain ⟨a1, b1, c1, d1⟩ := (⟨fun i hi j hj hij => by
      obtain ⟨e1, h1, -⟩ := k1 i hi
      obtain ⟨e2, h2, -⟩ := k1 j hj
      exact i1 i hi j hj (hD1.1 _ _ _ _ h1 h2 hij), fun k q hq => by
      obtain ⟨hk', rfl⟩ := wd_of hq
      obtain ⟨e1, h1, hx⟩ := k1 k hk'
      exact hx D H _ (hP1 _ _ h1), fun k hk' => by
      obtain ⟨e1, h1, -⟩ := k1 k hk'
      exact hD1.2 _ _ h1, trivial⟩ : (∀ i, i < 74 → ∀ j, j < 74 → ad1 i = ad1 j → i = j) ∧ va_P D vwCl (wd 74 ad1 (celC cI cR ad1 sgC0)) H ∧ (∀ k, k < 74 → A (ad1 k)) ∧ True)
  obtain ⟨a2, b2, c2, d2⟩ := (⟨fun i hi j hj hij => by
      obtain ⟨e1, h1, -⟩ := k2 i hi
      obtain ⟨e2, h2, -⟩ := k2 j hj
      exact i2 i hi j hj (hD2.1 _ _ _ _ h1 h2 hij), fun k q hq => by
      obtain ⟨hk', rfl⟩ := wd_of hq
      obtain ⟨e1, h1, hx⟩ := k2 k hk'
      exact hx D H _ (hP2 _ _ h1), fun k hk' => by
      obtain ⟨e1, h1, -⟩ := k2 k hk'
      exact hD2.2 _ _ h1, trivial⟩ : (∀ i, i < 16 → ∀ j, j < 16 → ad2 i = ad2 j → i = j) ∧ va_P D vwCl (wd 16 ad2 (celM cI ad2 sgM0)) H ∧ (∀ k, k < 16 → A (ad2 k)) ∧ True)
  refine ⟨ad1, ad2, e1, e2, fun i j hi hj => a1 i hi j hj, fun i j hi hj => a2 i hi j hj, b1, b2, c1, c2, fun i hi j hj he => ?_⟩
  obtain ⟨x1, h1, -⟩ := k1 i hi
  obtain ⟨x2, h2, -⟩ := k2 j hj
  have := hD.1 _ _ _ _ (appL h1) (appR h2) he
  have hlt := (List.getElem?_eq_some_iff.mp h1).1
  omega
set_option maxHeartbeats 4000000 in
set_option maxRecDepth 100000 in
theorem start_of {p : Program} {e : Env} {s : State} {m : MethodId} {below : List Frame} {meth : Method} {c : Code} (l : Launch) {b L : Nat} {xs : Nat → Int32} (hL : L ≤ 3072) (C0 : lw_At p s m meth c b L xs) {Rel : Sg → Sg → Prop} (HS : S_all Rel) (HR : Rel sgC0 sgM0) : W p l e room_1 s m #[Value.ref b] below meth c s.heap [] 0 0 (lw_Z below #[Value.ref b] s) (entryFrame m ([Value.ref b] : List Value).toArray 4) := by
  obtain ⟨hx, hb, hr, hml, hown, hts, hX, hbl, hlocks, hgv⟩ := id C0
  obtain ⟨c0, iS0, hKn0⟩ := u_known (C := RX0) (T := TX0) (N := 2) (n := 2) hts (fun w hw => mWt (inX0 w hw)) (hts _ (mWt kI_RX0))
  obtain ⟨c1, iS1, hKn1⟩ := u_known (C := RX2) (T := TX2) (N := 3) (n := 3) hts (fun w hw => mWt (inX2 w hw)) (hts _ (mWt kI_RX2))
  obtain ⟨c2, iS2, hKn2⟩ := u_known (C := RX3) (T := TX3) (N := 6) (n := 6) hts (fun w hw => mWt (inX3 w hw)) (hts _ (mWt kI_RX3))
  obtain ⟨c3, iS3, hKn3⟩ := u_known (C := RX4) (T := TX4) (N := 15) (n := 15) hts (fun w hw => mWt (inX4 w hw)) (hts _ (mWt kI_RX4))
  obtain ⟨c4, iS4, hKn4⟩ := u_known (C := RX5) (T := TX5) (N := 12) (n := 12) hts (fun w hw => mWt (inX5 w hw)) (hts _ (mWt kI_RX5))
  obtain ⟨c5, iS5, hKn5⟩ := u_known (C := RX6) (T := TX6) (N := 28) (n := 28) hts (fun w hw => mWt (inX6 w hw)) (hts _ (mWt kI_RX6))
  obtain ⟨D, hKc⟩ : ∃ D : va_G, ∀ (k : Nat) (q : vw_C), vwCl[k]? = some q → u_Kn s q.1 q.2.1 q.2.2 (D.1 k) (D.2 k) := by
    refine ⟨(fun k => match k with | 0 => c0 | 1 => c1 | 2 => c2 | 3 => c3 | 4 => c4 | _ => c5, fun k => match k with | 0 => iS0 | 1 => iS1 | 2 => iS2 | 3 => iS3 | 4 => iS4 | _ => iS5), ?_⟩
    intro k q hq
    match k, hq with
    | 0, hq => cases hq; exact hKn0
    | 1, hq => cases hq; exact hKn1
    | 2, hq => cases hq; exact hKn2
    | 3, hq => cases hq; exact hKn3
    | 4, hq => cases hq; exact hKn4
    | 5, hq => cases hq; exact hKn5
    | k + 6, hq => simp [vwCl] at hq
  obtain ⟨cI, kI, compI, f1, f2, f3⟩ := Cond.arrayClass_spec (hts _ (mWt kA_int))
  obtain ⟨compR, cR, kR, g1, -, g3, g4, g5⟩ := Cond.arrayOver_spec (hts _ kA_over)
  have hK : va_K D vwCl (tysC cI cR) s := by
    refine ⟨hKc, fun k q hq => ?_⟩
    match k, hq with
    | 0, hq => cases hq; exact ⟨fun n z => ⟨fun k h => (by cases h), kI, f2, compI, f3⟩, f1⟩
    | 1, hq => cases hq; exact ⟨fun n z => ⟨fun k h => (by cases h), kR, g3, compR, g4⟩, kR, compR, g3, g4, g1, g5⟩
    | k + 2, hq => simp [tysC] at hq
  have C : Kx p s m #[Value.ref b] meth c code 4 R_law D cI cR (fun q : Nat => s.heap.size ≤ q) ret := ⟨hx, hb, hml, hown, fun w hw => hts w (mWt hw), hK, hr, hlocks, NK_tbl hts, fun q h => h⟩
  have hl := lv_entry ([.ref b]) (n := 4) (Nat.le_of_ble_eq_true rfl)
  rw [lg_entry_eq]
  generalize (lg_sl ([.ref b]) ++ List.replicate (4 - (lg_sl ([.ref b])).length) Slot.unset).toArray = ls at hl ⊢
  have hl : lv_has ls 4 [(0, .ref b)] := hl
  refine (?_ : Kd p l e room_1 s m #[Value.ref b] below meth c D (fun q : Nat => s.heap.size ≤ q) 4 (lw_Z below #[Value.ref b] s) 0 [(0, .ref b)] [] [] 0 0) ls s.heap [] hl va_nil va_Dnil va_S.rf
  refine K_new (Cn := RX5) (T := TX5) (Nf := 12) (ci := 4) (fs := [.null, .null, .null, .null, .null, .null, .null, .null, .int (0 : Int32), .int (0 : Int32), .long (0 : Int64), .long (0 : Int64)]) C inX5 tyX5 tyX5_ok kC_L_7 kI_RX5 kZ_RX5 rfl dfX5 (Nat.le_of_ble_eq_true rfl) (Nat.le_of_ble_eq_true rfl) dL_law_0 rfl (fun h0 => ?_)
  refine K_dup C dL_law_3 rfl rfl ?_
  refine K_init (h := h0) (wr := []) (rest := [.ref h0]) C (c_X5_init l D cI cR) ok_X5_init kM_L_9 rfl rfl rfl ⟨Nat.le_of_ble_eq_true rfl, Nat.le_of_ble_eq_true rfl⟩ (Nat.le_of_ble_eq_true rfl) ⟨Nat.le_of_ble_eq_true rfl, Nat.le_of_ble_eq_true rfl⟩ dL_law_4 rfl (fun w1 hw1 => ?_)
  refine K_astore_n (lv' := [(1, .ref h0), (0, .ref b)]) C dL_law_7 rfl rfl (by decide) rfl ?_
  refine K_new (Cn := RX6) (T := TX6) (Nf := 28) (ci := 5) (fs := [.null, .null, .null, .null, .int (0 : Int32), .null, .int (0 : Int32), .long (0 : Int64), .long (0 : Int64), .int (0 : Int32), .int (0 : Int32), .int (0 : Int32), .int (0 : Int32), .int (0 : Int32), .int (0 : Int32), .null, .int (0 : Int32), .int (0 : Int32), .null, .null, .null, .null, .int (0 : Int32), .null, .null, .null, .null, .null]) C inX6 tyX6 tyX6_ok kC_L_10 kI_RX6 kZ_RX6 rfl dfX6 (Nat.le_of_ble_eq_true rfl) (Nat.le_of_ble_eq_true rfl) dL_law_8 rfl (fun h1 => ?_)
  refine K_dup C dL_law_11 rfl rfl ?_
  refine K_init (h := h1) (wr := w1) (rest := [.ref h1]) C (c_X6_init l D cI cR) ok_X6_init kM_L_12 rfl rfl rfl ⟨Nat.le_of_ble_eq_true rfl, Nat.le_of_ble_eq_true rfl⟩ (Nat.le_of_ble_eq_true rfl) ⟨Nat.le_of_ble_eq_true rfl, Nat.le_of_ble_eq_true rfl⟩ dL_law_12 rfl (fun w2 hw2 => ?_)
  refine K_astore_n (lv' := [(2, .ref h1), (1, .ref h0), (0, .ref b)]) C dL_law_15 rfl rfl (by decide) rfl ?_
  refine K_iconst (v := 0) C dL_law_16 rfl (by decide) ?_
  refine K_istore_n (lv' := [(3, .int 0), (2, .ref h1), (1, .ref h0), (0, .ref b)]) C dL_law_17 rfl rfl (by decide) rfl ?_
  intro ls H locs hl hP hD hS
  obtain ⟨adC, adM, e0, e1, ap1, ap2, hP1, hP2, hA1, hA2, hne⟩ := twoW hw1 hw2 hP hD
  subst e0
  subst e1
  refine W.widen (k := 600000) (n := 7302250) (Nat.le_of_ble_eq_true rfl) (Nat.le_of_ble_eq_true rfl) ?_
  exact law_loop ⟨C0, hK, (NK_tbl hts).1, ap1, ap2, hA1, hA2, hne⟩ hL HS (L + 7) 0 (Nat.zero_le _) (by omega) sgC0 sgM0 HR ⟨Or.inl rfl, Or.inr rfl, Or.inl rfl⟩ ls H locs (lv_sub hl [3, 2, 1, 0] rfl) hP1 hP2 hS
