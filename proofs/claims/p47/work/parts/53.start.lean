/-! THE CLAIM OUT OF ONE WALK OF THE LAW'S BODY. Your part is whole_start (and what it stands on); all else here is the same for every law, but numbers. -/
def R_law : String := "WokenYearsLaw"
def lw_P (b : Addr) (xs : List Int32) (args : Array Value) (s : State) : Prop := args = #[.ref b] ∧ s.IntsAt b xs ∧ xs.length ≤ 260 ∧ (Jvm.Cond.and given_1 narrow_1).before args s = true
def lw_Q (_ : Array Value) (s : State) (o : Outcome) (t : State) : Prop := o = .returned (some (.int 1)) ∧ Framed s o t [] 600000 7302249
def lw_Z (below : List Frame) (a : Array Value) (s : State) : State → Prop := fun t => ∃ o, t.status = .running ∧ Ended t below o ∧ lw_Q a s o t
/-- the law's own end, with 1 on the stack, nothing written that was there before, its room as the claim has it -/
theorem lw_ret {p : Program} {l : Launch} {e : Env} {s : State} {m : MethodId} {below : List Frame} {meth : Method} {c : Code} {b : Nat} (hx : p.tables.exec = Jvm.exec) (hb : c.code = code) (hr : meth.sig.returnType = ret) (hlocks : meth.locks = false) {pc : Nat} {H : Heap} {ls : Array Slot} (hdg : decode code pc = .ok (.ireturn, 1)) : W p l e room_1 s m #[Value.ref b] below meth c H [] 600000 7302249 (lw_Z below #[Value.ref b] s) (F0 m pc ls [.int 1]) := by
  intro T hT X
  obtain ⟨fs, hret, hrun, hended, hW, hframe⟩ := X.leave (v := some (.int 1)) (hlocks := hlocks) (fun h => by rw [hr] at h; cases h)
  have hmeth' : T.vm.method? m = some meth := X.method'
  refine ⟨T.setFrames fs, ?_, .returned (some (.int 1)), hrun, hended, rfl, ⟨_, rfl⟩, hW, hframe⟩
  jvm_step X.here [X.here.top, hx, hb, hdg, hmeth', hr, ret, narrow_b1]
  (try refine ⟨rfl, ?_⟩); (try refine ⟨rfl, ?_⟩)
  first | (intro acts; rw [hret _ acts rfl rfl rfl]) | rw [hret _ _ rfl rfl rfl]
  exact Steps.refl _
/-- what holds at the law's entry: the machine, the code, the tables' words (any of lw_tbl by 'hts w (by decide +kernel)'), the script of L ints xs at the cell b, what the Statement gives of the start (any of its parts by flat_of_before) -/
def lw_At (p : Program) (s : State) (m : MethodId) (meth : Method) (c : Code) (b L : Nat) (xs : Nat → Int32) : Prop :=
  p.tables.exec = Jvm.exec ∧ c.code = code ∧ meth.sig.returnType = ret ∧ c.maxLocals = 34 ∧ s.vm.findClass R_law = some m.cls ∧ (∀ w ∈ lw_tbl, w.before #[Value.ref b] s = true) ∧ va_X b L xs s s.heap ∧ b < s.heap.size ∧ meth.locks = false ∧ (Jvm.Cond.and given_1 narrow_1).before #[Value.ref b] s = true
theorem appL {w1 w2 : va_W} {k : Nat} {x : Nat × va_E} (h : w1[k]? = some x) : (w1 ++ w2)[k]? = some x := by
  rw [List.getElem?_append_left (List.getElem?_eq_some_iff.mp h).1]; exact h
theorem appR {w1 w2 : va_W} {k : Nat} {x : Nat × va_E} (h : w2[k]? = some x) : (w1 ++ w2)[w1.length + k]? = some x := by
  rw [List.getElem?_append_right (Nat.le_add_right _ _), Nat.add_sub_cancel_left]; exact h
theorem stI_lt {q j : Nat} (h : q < 5) (hj : j < 7) : stI q j < 74 := by unfold stI; omega
theorem rB_lt {q j : Nat} (hj : j < rLen q) : rBase q + j < 74 := by
  unfold rLen at hj
  unfold rBase
  split at hj
  · rename_i e; rw [if_pos e]; omega
  · rename_i e; rw [if_neg e]
    split at hj
    · rename_i e2; rw [if_pos e2]; omega
    · rename_i e2; rw [if_neg e2]; omega
theorem cel_ext {cI cR : ClassId} {ad ad' : Nat → Nat} (h : ∀ j, j < 74 → ad' j = ad j) {k : Nat} (hk : k < 74) : cex (celC cI cR ad sgC0 k) (celC cI cR ad' sgC0 k) := by
  unfold celC
  by_cases e0 : k = 0
  · rw [if_pos e0, if_pos e0, h 71 (by decide), h 72 (by decide), h 73 (by decide), h 1 (by decide), h 2 (by decide), h 18 (by decide), show gR sgC0 0 = 3 from rfl, show gR sgC0 1 = 4 from rfl, h 3 (by decide), h 4 (by decide)]
    exact cex_rf
  rw [if_neg e0, if_neg e0]
  by_cases e1 : k = 1
  · rw [if_pos e1, if_pos e1]
    exact cex_rf
  rw [if_neg e1, if_neg e1]
  by_cases e2 : k = 2
  · rw [if_pos e2, if_pos e2, h 33 (by decide), h 34 (by decide), h 35 (by decide), h 36 (by decide), h 37 (by decide)]
    exact cex_rf
  rw [if_neg e2, if_neg e2]
  by_cases e3 : k < 5
  · rw [if_pos e3, if_pos e3, h _ (stI_lt e3 (by decide : 0 < 7)), h _ (stI_lt e3 (by decide : 1 < 7)), h _ (stI_lt e3 (by decide : 2 < 7)), h _ (stI_lt e3 (by decide : 3 < 7)), h _ (stI_lt e3 (by decide : 4 < 7)), h _ (stI_lt e3 (by decide : 5 < 7)), h _ (stI_lt e3 (by decide : 6 < 7))]
    exact cex_rf
  rw [if_neg e3, if_neg e3]
  by_cases e4 : k < 38
  · rw [if_pos e4, if_pos e4, h (k + 33) (by omega)]
    exact cex_rf
  rw [if_neg e4, if_neg e4]
  by_cases e5 : k < 71
  · rw [if_pos e5, if_pos e5]
    exact cex_rf
  rw [if_neg e5, if_neg e5, if_pos hk, if_pos hk]
  exact cex_q (fun j hj => by rw [h _ (rB_lt hj)])
theorem threeW {D : va_G} {cI cR : ClassId} {h0 h1 h2 h3 : Nat} {w1 : va_W} {H : Heap} {A : Nat → Prop} (p1 : Pwd 74 (fun ad => celC cI cR ad sgC0) h0 w1) (hP : va_P D vwCl (w1 ++ ([(h1, .inl (cI, 14, .inl (fun _ => 0)))] ++ ([(h2, .inl (cI, 23, .inl (fun _ => 0)))] ++ [(h3, .inl (cI, 23, .inl (fun _ => 0)))]))) H) (hD : va_D A (w1 ++ ([(h1, .inl (cI, 14, .inl (fun _ => 0)))] ++ ([(h2, .inl (cI, 23, .inl (fun _ => 0)))] ++ [(h3, .inl (cI, 23, .inl (fun _ => 0)))])))) :
    ∃ ad : Nat → Nat, ad 0 = h0 ∧ ad 74 = h1 ∧ ad 75 = h2 ∧ ad 76 = h3 ∧ apN 77 ad ∧ va_P D vwCl (wd 77 ad (celC cI cR ad sgC0)) H ∧ ∀ k, k < 77 → A (ad k) := by
  obtain ⟨ad1, pos1, e1, i1, k1⟩ := p1
  have ea : ∃ ad : Nat → Nat, (∀ j, j < 74 → ad j = ad1 j) ∧ ad 74 = h1 ∧ ad 75 = h2 ∧ ad 76 = h3 := ⟨fun k => if k < 74 then ad1 k else if k = 74 then h1 else if k = 75 then h2 else h3, fun j hj => if_pos hj, rfl, rfl, rfl⟩
  obtain ⟨ad, a1, a2, a3, a4⟩ := ea
  have ep : ∃ pos : Nat → Nat, (∀ j, j < 74 → pos j = pos1 j) ∧ pos 74 = w1.length + 0 ∧ pos 75 = w1.length + 1 ∧ pos 76 = w1.length + 2 := ⟨fun k => if k < 74 then pos1 k else if k = 74 then w1.length + 0 else if k = 75 then w1.length + 1 else w1.length + 2, fun j hj => if_pos hj, rfl, rfl, rfl⟩
  obtain ⟨pos, b1, b2, b3, b4⟩ := ep
  have key : ∀ k, k < 77 → ∃ e, (w1 ++ ([(h1, .inl (cI, 14, .inl (fun _ => 0)))] ++ ([(h2, .inl (cI, 23, .inl (fun _ => 0)))] ++ [(h3, .inl (cI, 23, .inl (fun _ => 0)))])))[pos k]? = some (ad k, e) ∧ cex e (celC cI cR ad sgC0 k) := by
    intro k hk
    by_cases hk2 : k < 74
    · obtain ⟨e, q1, q2⟩ := k1 k hk2
      refine ⟨e, ?_, fun D0 H0 q hq => cel_ext a1 hk2 D0 H0 q (q2 D0 H0 q hq)⟩
      rw [a1 k hk2, b1 k hk2]
      exact appL q1
    · rcases (show k = 74 ∨ k = 75 ∨ k = 76 by omega) with e | e | e <;> subst e
      · exact ⟨_, by rw [b2, a2]; exact appR rfl, cex_rf⟩
      · exact ⟨_, by rw [b3, a3]; exact appR rfl, cex_rf⟩
      · exact ⟨_, by rw [b4, a4]; exact appR rfl, cex_rf⟩
  have hlt : ∀ k, k < 74 → pos1 k < w1.length := fun k hk => by
    obtain ⟨e, q1, -⟩ := k1 k hk
    exact (List.getElem?_eq_some_iff.mp q1).1
  have pinj : ∀ i, i < 77 → ∀ j, j < 77 → pos i = pos j → i = j := by
    intro i hi j hj e
    by_cases i1' : i < 74
    · by_cases j1 : j < 74
      · rw [b1 i i1', b1 j j1] at e
        exact i1 i i1' j j1 e
      · have := hlt i i1'
        rcases (show j = 74 ∨ j = 75 ∨ j = 76 by omega) with q | q | q <;> subst q <;> rw [b1 i i1'] at e <;> omega
    · by_cases j1 : j < 74
      · have := hlt j j1
        rcases (show i = 74 ∨ i = 75 ∨ i = 76 by omega) with q | q | q <;> subst q <;> rw [b1 j j1] at e <;> omega
      · rcases (show i = 74 ∨ i = 75 ∨ i = 76 by omega) with q | q | q <;> subst q <;> rcases (show j = 74 ∨ j = 75 ∨ j = 76 by omega) with q | q | q <;> subst q <;> omega
  refine ⟨ad, (a1 0 (by decide)).trans e1, a2, a3, a4, fun i j hi hj e => ?_, fun k q hq => ?_, fun k hk => ?_⟩
  · obtain ⟨x1, q1, -⟩ := key i hi
    obtain ⟨x2, q2, -⟩ := key j hj
    exact pinj i hi j hj (hD.1 _ _ _ _ q1 q2 e)
  · obtain ⟨hk', rfl⟩ := wd_of hq
    obtain ⟨x1, q1, hx⟩ := key k hk'
    exact hx D H _ (hP _ _ q1)
  · obtain ⟨x1, q1, -⟩ := key k hk
    exact hD.2 _ _ q1
section KA
variable {p : Program} {l : Launch} {e : Env} {R : Room} {s : State} {m : MethodId} {args : Array Value} {below : List Frame} {meth : Method} {c : Code} {D : va_G} {cI cR : ClassId} {A : Nat → Prop} {nL : Nat} {Q : State → Prop} {cc : ByteArray} {own : String} {ret : Option FieldType} {pc : Nat} {lv : List (Nat × Value)} {rest : List Value} {ws : va_W} {cells slots : Nat}
theorem K_astore (C : Kx p s m args meth c cc nL own D cI cR A ret) {q : Nat} {i : Nat} {x : Nat} {lv' : List (Nat × Value)} (hdg : decode cc pc = .ok (.astore i, 2)) (hq : pc + 2 = q) (hn : i < nL) (hlv : (i, Value.ref x) :: lv.filter (fun z => !(z.1 == i) && !(z.1 + 1 == i && z.2.category == 2)) = lv') (k : Kd p l e R s m args below meth c D A nL Q q lv' rest ws cells slots) : Kd p l e R s m args below meth c D A nL Q pc lv (.ref x :: rest) ws cells slots := by
  subst hq; intro ls H locs hl hP hD hS; exact lv_astore C.1 C.2.1 hdg hl hn hlv (fun ls' hl' => k ls' H locs hl' hP hD hS)
end KA
set_option maxHeartbeats 4000000 in
set_option maxRecDepth 100000 in
theorem start_of {p : Program} {e : Env} {s : State} {m : MethodId} {below : List Frame} {meth : Method} {c : Code} (l : Launch) {b L : Nat} {xs : Nat → Int32} (C0 : lw_At p s m meth c b L xs) (HR : f_L_law L xs sgC0 = some true) : W p l e room_1 s m #[Value.ref b] below meth c s.heap [] 0 0 (lw_Z below #[Value.ref b] s) (entryFrame m ([Value.ref b] : List Value).toArray 34) := by
  obtain ⟨hx, hb, hr, hml, hown, hts, hX, hbl, hlocks, hgv⟩ := id C0
  obtain ⟨c0, iS0, hKn0⟩ := u_known (C := RX0) (T := TX0) (N := 2) (n := 2) hts (fun w hw => mWt (inX0 w hw)) (hts _ (mWt kI_RX0))
  obtain ⟨c1, iS1, hKn1⟩ := u_known (C := RX2) (T := TX2) (N := 3) (n := 3) hts (fun w hw => mWt (inX2 w hw)) (hts _ (mWt kI_RX2))
  obtain ⟨c2, iS2, hKn2⟩ := u_known (C := RX3) (T := TX3) (N := 6) (n := 6) hts (fun w hw => mWt (inX3 w hw)) (hts _ (mWt kI_RX3))
  obtain ⟨c3, iS3, hKn3⟩ := u_known (C := RX4) (T := TX4) (N := 15) (n := 15) hts (fun w hw => mWt (inX4 w hw)) (hts _ (mWt kI_RX4))
  obtain ⟨c4, iS4, hKn4⟩ := u_known (C := RX5) (T := TX5) (N := 12) (n := 12) hts (fun w hw => mWt (inX5 w hw)) (hts _ (mWt kI_RX5))
  obtain ⟨D, hKc⟩ : ∃ D : va_G, ∀ (k : Nat) (q : vw_C), vwCl[k]? = some q → u_Kn s q.1 q.2.1 q.2.2 (D.1 k) (D.2 k) := by
    refine ⟨(fun k => match k with | 0 => c0 | 1 => c1 | 2 => c2 | 3 => c3 | _ => c4, fun k => match k with | 0 => iS0 | 1 => iS1 | 2 => iS2 | 3 => iS3 | _ => iS4), ?_⟩
    intro k q hq
    match k, hq with
    | 0, hq => cases hq; exact hKn0
    | 1, hq => cases hq; exact hKn1
    | 2, hq => cases hq; exact hKn2
    | 3, hq => cases hq; exact hKn3
    | 4, hq => cases hq; exact hKn4
    | k + 5, hq => simp [vwCl] at hq
  obtain ⟨cI, kI, compI, f1, f2, f3⟩ := Cond.arrayClass_spec (hts _ (mWt kA_int))
  obtain ⟨compR, cR, kR, g1, -, g3, g4, g5⟩ := Cond.arrayOver_spec (hts _ kA_over)
  have hK : va_K D vwCl (tysC cI cR) s := by
    refine ⟨hKc, fun k q hq => ?_⟩
    match k, hq with
    | 0, hq => cases hq; exact ⟨fun n z => ⟨fun k h => (by cases h), kI, f2, compI, f3⟩, f1⟩
    | 1, hq => cases hq; exact ⟨fun n z => ⟨fun k h => (by cases h), kR, g3, compR, g4⟩, kR, compR, g3, g4, g1, g5⟩
    | k + 2, hq => simp [tysC] at hq
  have C : Kx p s m #[Value.ref b] meth c code 34 R_law D cI cR (fun q : Nat => s.heap.size ≤ q) ret := ⟨hx, hb, hml, hown, fun w hw => hts w (mWt hw), hK, hr, hlocks, NK_tbl hts, fun q h => h⟩
  have hl := lv_entry ([.ref b]) (n := 34) (Nat.le_of_ble_eq_true rfl)
  rw [lg_entry_eq]
  generalize (lg_sl ([.ref b]) ++ List.replicate (34 - (lg_sl ([.ref b])).length) Slot.unset).toArray = ls at hl ⊢
  have hl : lv_has ls 34 [(0, .ref b)] := hl
  refine (?_ : Kd p l e room_1 s m #[Value.ref b] below meth c D (fun q : Nat => s.heap.size ≤ q) 34 (lw_Z below #[Value.ref b] s) 0 [(0, .ref b)] [] [] 0 0) ls s.heap [] hl va_nil va_Dnil va_S.rf
  refine K_new (Cn := RX5) (T := TX5) (Nf := 12) (ci := 4) (fs := [.null, .null, .null, .null, .null, .null, .null, .null, .int (0 : Int32), .int (0 : Int32), .long (0 : Int64), .long (0 : Int64)]) C inX5 tyX5 tyX5_ok kC_L_10 kI_RX5 kZ_RX5 rfl dfX5 (Nat.le_of_ble_eq_true rfl) (Nat.le_of_ble_eq_true rfl) dL_law_0 rfl (fun h0 => ?_)
  refine K_dup C dL_law_3 rfl rfl ?_
  refine K_init (h := h0) (wr := []) (rest := [.ref h0]) C (c_X5_init l D cI cR) ok_X5_init kM_L_95 rfl rfl rfl ⟨Nat.le_of_ble_eq_true rfl, Nat.le_of_ble_eq_true rfl⟩ (Nat.le_of_ble_eq_true rfl) ⟨Nat.le_of_ble_eq_true rfl, Nat.le_of_ble_eq_true rfl⟩ dL_law_4 rfl (fun w1 hw1 => ?_)
  refine K_astore_n (lv' := [(1, .ref h0), (0, .ref b)]) C dL_law_7 rfl rfl (by decide) rfl ?_
  refine K_bipush (v := 14) C dL_law_8 rfl (by decide) ?_
  refine K_newa (n' := 14) C (by decide) (by decide) (Nat.le_of_ble_eq_true rfl) (Nat.le_of_ble_eq_true rfl) (Nat.le_of_ble_eq_true rfl) dL_law_10 rfl (fun h1 => ?_)
  refine K_astore_n (lv' := [(2, .ref h1), (1, .ref h0), (0, .ref b)]) C dL_law_12 rfl rfl (by decide) rfl ?_
  refine K_bipush (v := 23) C dL_law_13 rfl (by decide) ?_
  refine K_newa (n' := 23) C (by decide) (by decide) (Nat.le_of_ble_eq_true rfl) (Nat.le_of_ble_eq_true rfl) (Nat.le_of_ble_eq_true rfl) dL_law_15 rfl (fun h2 => ?_)
  refine K_astore_n (lv' := [(3, .ref h2), (2, .ref h1), (1, .ref h0), (0, .ref b)]) C dL_law_17 rfl rfl (by decide) rfl ?_
  refine K_bipush (v := 23) C dL_law_18 rfl (by decide) ?_
  refine K_newa (n' := 23) C (by decide) (by decide) (Nat.le_of_ble_eq_true rfl) (Nat.le_of_ble_eq_true rfl) (Nat.le_of_ble_eq_true rfl) dL_law_20 rfl (fun h3 => ?_)
  refine K_astore (lv' := [(4, .ref h3), (3, .ref h2), (2, .ref h1), (1, .ref h0), (0, .ref b)]) C dL_law_22 rfl (by decide) rfl ?_
  intro ls H locs hl hP hD hS
  rw [List.nil_append, List.append_assoc, List.append_assoc] at hP hD
  obtain ⟨ad, e0, e1, e2, e3, ap, hP1, hA1⟩ := threeW hw1 hP hD
  subst e0
  subst e1
  subst e2
  subst e3
  refine W.widen (k := 600000) (n := 7302249) (Nat.le_of_ble_eq_true rfl) (Nat.le_of_ble_eq_true rfl) ?_
  refine va_forget (fun q hq => hS.2.2 q hq) ?_
  have hbA : ¬ inA 77 ad b := fun z => by
    obtain ⟨q, h1, h2⟩ := z
    have := hA1 q h1
    rw [← h2] at this
    exact absurd hbl (Nat.not_lt.mpr this)
  refine c_L_law (l := l) (e := e) (below := below) (Q := lw_Z below #[Value.ref b] s) ap (⟨hx, hb, hml, hown, fun w hw => hts w (mWt hw), hK, ap, hr, hlocks, (NK_tbl hts).1⟩ : Cx p s m #[Value.ref b] meth c cL_law 34 "WokenYearsLaw" D (tysC cI cR) 77 ad (some .boolean)) ?_ hX hbl hbA HR ⟨Or.inl rfl, Or.inr rfl, Or.inl rfl⟩ ls H [] (lv_sub hl [4, 3, 2, 1, 0] rfl) hP1 ⟨hS.1, fun q h1 h2 => hS.2.1 q h1 (Nat.not_le.mpr h1), fun l9 h9 => by cases h9⟩
  intro pc lv σ hdg hok ls H locs hl hP hS
  refine va_forget (fun q hq => ?_) ?_
  · obtain ⟨k, h1, h2⟩ := hS.2.2 q hq
    rw [h2]
    exact hA1 k h1
  · exact lw_ret hx hb hr hlocks hdg
