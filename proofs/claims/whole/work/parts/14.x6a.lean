set_option maxHeartbeats 4000000 in
set_option maxRecDepth 100000 in
theorem c_X6_in {l : Launch} {D : va_G} {cI cR : ClassId} {ad : Nat → Nat} (hap : apN 16 ad) {i0 : Int32} {i1 : Int32} {i2 : Int32} {σ : Sg} {r : Bool}  (h : f_X6_in i0 i1 i2 = some r) : MI l D (tysC cI cR) 16 ad (celM cI ad) okM yX6_in cX6_in 3 .boolean 1 30 [.int i0, .int i1, .int i2] σ (b2i r) σ := by
  unfold f_X6_in at h
  refine entI "WokenYearsModel" hap (by decide +kernel) rfl (Nat.le_of_ble_eq_true rfl) (fun p e s m args below meth c C => ?_)
  refine J_sub (lv' := [(0, .int i0), (1, .int i1), (2, .int i2)]) [0, 1, 2] rfl ?_
  refine J_iload_n (q := 1) C dX6_in_0 rfl rfl 0 rfl ?_
  refine J_iload_n (q := 2) C dX6_in_1 rfl rfl 1 rfl ?_
  refine J_icmp_lt (tgt := 14) (q := 5) C dX6_in_2 rfl (by decide) h (fun _ h => ?_) (fun _ h => ?_)
  · refine J_iconst (v := 0 ) (q := 15) C dX6_in_14 rfl rfl ?_
    obtain rfl := Option.some.inj h
    exact J_zret (b := false) C dX6_in_15
  · refine J_iload_n (q := 6) C dX6_in_5 rfl rfl 0 rfl ?_
    refine J_iload_n (q := 7) C dX6_in_6 rfl rfl 2 rfl ?_
    refine J_icmp_gt (tgt := 14) (q := 10) C dX6_in_7 rfl (by decide) h (fun _ h => ?_) (fun _ h => ?_)
    · refine J_iconst (v := 0 ) (q := 15) C dX6_in_14 rfl rfl ?_
      obtain rfl := Option.some.inj h
      exact J_zret (b := false) C dX6_in_15
    · refine J_iconst (v := 1 ) (q := 11) C dX6_in_10 rfl rfl ?_
      refine J_goto (tgt := 15) C dX6_in_11 (by decide) ?_
      obtain rfl := Option.some.inj h
      exact J_zret (b := true) C dX6_in_15
set_option maxHeartbeats 4000000 in
set_option maxRecDepth 100000 in
theorem c_X6_has {l : Launch} {D : va_G} {cI cR : ClassId} {ad : Nat → Nat} (hap : apN 16 ad) {i0 : Int32} {i1 : Int32} {σ : Sg} {r : Bool}  (h : f_X6_has i0 i1 = some r) : MI l D (tysC cI cR) 16 ad (celM cI ad) okM yX6_has cX6_has 2 .boolean 1 30 [.int i0, .int i1] σ (b2i r) σ := by
  unfold f_X6_has at h
  refine entI "WokenYearsModel" hap (by decide +kernel) rfl (Nat.le_of_ble_eq_true rfl) (fun p e s m args below meth c C => ?_)
  refine J_sub (lv' := [(0, .int i0), (1, .int i1)]) [0, 1] rfl ?_
  refine J_iload_n (q := 1) C dX6_has_0 rfl rfl 0 rfl ?_
  refine J_iload_n (q := 2) C dX6_has_1 rfl rfl 1 rfl ?_
  refine J_ishr (q := 3) C dX6_has_2 rfl ?_
  refine J_iconst (v := 1 ) (q := 4) C dX6_has_3 rfl rfl ?_
  refine J_iand (q := 5) C dX6_has_4 rfl ?_
  refine J_iconst (v := 1 ) (q := 6) C dX6_has_5 rfl rfl ?_
  refine J_icmp_ne (tgt := 13) (q := 9) C dX6_has_6 rfl (by decide) h (fun _ h => ?_) (fun _ h => ?_)
  · refine J_iconst (v := 1 ) (q := 10) C dX6_has_9 rfl rfl ?_
    refine J_goto (tgt := 14) C dX6_has_10 (by decide) ?_
    obtain rfl := Option.some.inj h
    exact J_zret (b := true) C dX6_has_14
  · refine J_iconst (v := 0 ) (q := 14) C dX6_has_13 rfl rfl ?_
    obtain rfl := Option.some.inj h
    exact J_zret (b := false) C dX6_has_14
set_option maxHeartbeats 4000000 in
set_option maxRecDepth 100000 in
theorem cl_X6_bits_4 {p : Program} {l : Launch} {e : Env} {s : State} {m : MethodId} {args : Array Value} {below : List Frame} {meth : Method} {c : Code} {D : va_G} {cI cR : ClassId} {ad : Nat → Nat} (hap : apN 16 ad) (C : Cx p s m args meth c cX6_bits 3 "WokenYearsModel" D (tysC cI cR) 16 ad (some .int)) {a0 : Int32} {k24 : Int32 → Option Int32} {σ : Sg} (r : Int32)  (hk24 : ∀ (u1 : Int32), k24 u1 = some r → Jd p l e (rmF 1 30) s m args below meth c D 16 ad (celM cI ad) okM 3 (MQ below (QI D (tysC cI cR) 16 ad (celM cI ad) okM r σ) args s 0 0 (inA 16 ad)) 24 [(1, .int u1)] [] σ) : ∀ (n : Nat) (x1 : Int32) (x2 : Int32), l_X6_bits_4 a0 k24 n x1 x2 = some r → Jd p l e (rmF 1 30) s m args below meth c D 16 ad (celM cI ad) okM 3 (MQ below (QI D (tysC cI cR) 16 ad (celM cI ad) okM r σ) args s 0 0 (inA 16 ad)) 4 [(0, .int a0), (1, .int x1), (2, .int x2)] [] σ := by
  intro n
  induction n with
  | zero => intro x1 x2 h; cases h
  | succ n ih =>
    intro x1 x2 h
    unfold l_X6_bits_4 at h
    refine J_iload_n (q := 5) C dX6_bits_4 rfl rfl 2 rfl ?_
    refine J_bipush (v := 6) (q := 7) C dX6_bits_5 rfl rfl ?_
    refine J_icmp_ge (tgt := 24) (q := 10) C dX6_bits_7 rfl (by decide) h (fun _ h => ?_) (fun _ h => ?_)
    · refine J_sub [1] rfl ?_
      exact hk24 _ h
    · refine J_iload_n (q := 11) C dX6_bits_10 rfl rfl 1 rfl ?_
      refine J_iload_n (q := 12) C dX6_bits_11 rfl rfl 0 rfl ?_
      refine J_iload_n (q := 13) C dX6_bits_12 rfl rfl 2 rfl ?_
      refine J_ishr (q := 14) C dX6_bits_13 rfl ?_
      refine J_iconst (v := 1 ) (q := 15) C dX6_bits_14 rfl rfl ?_
      refine J_iand (q := 16) C dX6_bits_15 rfl ?_
      refine J_iadd (q := 17) C dX6_bits_16 rfl ?_
      refine J_nmi h (fun y1 ey1 h => ?_)
      refine J_istore_n (q := 18) C dX6_bits_17 rfl rfl (by decide) rfl ?_
      refine jn_elim h (fun y2 ey2 h => ?_)
      refine J_iinc (v := y2) (q := 21) C dX6_bits_18 rfl 2 rfl (by rw [ey2]; rfl) (by decide) rfl ?_
      refine J_goto (tgt := 4) C dX6_bits_21 (by decide) ?_
      refine J_sub [2, 1, 0] rfl ?_
      exact ih _ _ h
set_option maxHeartbeats 4000000 in
set_option maxRecDepth 100000 in
theorem c_X6_bits {l : Launch} {D : va_G} {cI cR : ClassId} {ad : Nat → Nat} (hap : apN 16 ad) {i0 : Int32} {σ : Sg} {r : Int32}  (h : f_X6_bits i0 = some r) : MI l D (tysC cI cR) 16 ad (celM cI ad) okM yX6_bits cX6_bits 3 .int 1 30 [.int i0] σ r σ := by
  unfold f_X6_bits at h
  refine entI "WokenYearsModel" hap (by decide +kernel) rfl (Nat.le_of_ble_eq_true rfl) (fun p e s m args below meth c C => ?_)
  refine J_sub (lv' := [(0, .int i0)]) [0] rfl ?_
  refine J_iconst (v := 0 ) (q := 1) C dX6_bits_0 rfl rfl ?_
  refine J_istore_n (q := 2) C dX6_bits_1 rfl rfl (by decide) rfl ?_
  refine J_iconst (v := 0 ) (q := 3) C dX6_bits_2 rfl rfl ?_
  refine J_istore_n (q := 4) C dX6_bits_3 rfl rfl (by decide) rfl ?_
  refine J_sub [2, 1, 0] rfl ?_
  refine cl_X6_bits_4 hap C r  (fun v1_24 h => ?_) FU _ _ h
  · refine J_iload_n (q := 25) C dX6_bits_24 rfl rfl 0 rfl ?_
    obtain rfl := Option.some.inj h
    exact J_iret C dX6_bits_25
set_option maxHeartbeats 4000000 in
set_option maxRecDepth 100000 in
theorem c_X6_finds {l : Launch} {D : va_G} {cI cR : ClassId} {ad : Nat → Nat} (hap : apN 16 ad) {i1 : Int32} {σ : Sg} {r : Int32} {σo : Sg}  (h : f_X6_finds i1 σ = some (r, σo)) : MI l D (tysC cI cR) 16 ad (celM cI ad) okM yX6_finds cX6_finds 2 .int 1 30 [.ref (ad 0), .int i1] σ r σo := by
  unfold f_X6_finds at h
  refine entI "WokenYearsModel" hap (by decide +kernel) rfl (Nat.le_of_ble_eq_true rfl) (fun p e s m args below meth c C => ?_)
  refine J_sub (lv' := [(0, .ref (ad 0)), (1, .int i1)]) [0, 1] rfl ?_
  refine J_aload_n (q := 1) C dX6_finds_0 rfl rfl 0 rfl ?_
  refine J_iload_n (q := 2) C dX6_finds_1 rfl rfl 1 rfl ?_
  refine JM_p_X6_findingNow (q := 5) C kF_X6_59 dX6_finds_2 rfl ?_
  refine jn_elim h (fun σ1 eσ1 h => ?_)
  rw [← eσ1]
  refine J_aload_n (q := 6) C dX6_finds_5 rfl rfl 0 rfl ?_
  refine JM_g_X6_findingMany (q := 9) C kF_X6_22 dX6_finds_6 rfl ?_
  refine J_iload_n (q := 10) C dX6_finds_9 rfl rfl 1 rfl ?_
  refine J_dup2 (q := 11) C dX6_finds_10 rfl rfl rfl ?_
  refine JM_iald (q := 12) C isMA_5 h dX6_finds_11 rfl (fun h => ?_)
  refine J_iconst (v := 1 ) (q := 13) C dX6_finds_12 rfl rfl ?_
  refine J_iadd (q := 14) C dX6_finds_13 rfl ?_
  refine JM_iast (q := 15) C isMA_5 h dX6_finds_14 rfl (fun h => ?_)
  refine jn_elim h (fun σ2 eσ2 h => ?_)
  rw [← eσ2]
  refine J_bipush (v := -3) (q := 17) C dX6_finds_15 rfl rfl ?_
  obtain ⟨rfl, rfl⟩ := Prod.mk.inj (Option.some.inj h)
  exact J_iret C dX6_finds_17
set_option maxHeartbeats 4000000 in
set_option maxRecDepth 100000 in
theorem c_X6_tells {l : Launch} {D : va_G} {cI cR : ClassId} {ad : Nat → Nat} (hap : apN 16 ad) {i1 : Int32} {σ : Sg} {r : Int32} {σo : Sg}  (h : f_X6_tells i1 σ = some (r, σo)) : MI l D (tysC cI cR) 16 ad (celM cI ad) okM yX6_tells cX6_tells 2 .int 1 30 [.ref (ad 0), .int i1] σ r σo := by
  unfold f_X6_tells at h
  refine entI "WokenYearsModel" hap (by decide +kernel) rfl (Nat.le_of_ble_eq_true rfl) (fun p e s m args below meth c C => ?_)
  refine J_sub (lv' := [(0, .ref (ad 0)), (1, .int i1)]) [0, 1] rfl ?_
  refine J_aload_n (q := 1) C dX6_tells_0 rfl rfl 0 rfl ?_
  refine J_iload_n (q := 2) C dX6_tells_1 rfl rfl 1 rfl ?_
  refine JM_p_X6_askedNow (q := 5) C kF_X6_63 dX6_tells_2 rfl ?_
  refine jn_elim h (fun σ1 eσ1 h => ?_)
  rw [← eσ1]
  refine J_iconst (v := 1 ) (q := 6) C dX6_tells_5 rfl rfl ?_
  obtain ⟨rfl, rfl⟩ := Prod.mk.inj (Option.some.inj h)
  exact J_iret C dX6_tells_6
set_option maxHeartbeats 4000000 in
set_option maxRecDepth 100000 in
theorem cl_X6_bring_3 {p : Program} {l : Launch} {e : Env} {s : State} {m : MethodId} {args : Array Value} {below : List Frame} {meth : Method} {c : Code} {D : va_G} {cI cR : ClassId} {ad : Nat → Nat} (hap : apN 16 ad) (C : Cx p s m args meth c cX6_bring 6 "WokenYearsModel" D (tysC cI cR) 16 ad (none)) {b0 : Nat} {a1 : Int32} {b2 : Nat} {a3 : Int32} {a4 : Int32} (hb0 : isMA b0) (hb2 : isMA b2) {k28 : Sg → Option Sg} (σo : Sg)  (hk28 : ∀ (σ1 : Sg), k28 σ1 = some σo → Jd p l e (rmF 1 30) s m args below meth c D 16 ad (celM cI ad) okM 6 (MQ below (QV D (tysC cI cR) 16 ad (celM cI ad) okM σo) args s 0 0 (inA 16 ad)) 28 [] [] σ1) : ∀ (n : Nat) (x5 : Int32) (σx : Sg), l_X6_bring_3 b0 a1 b2 a3 a4 k28 n x5 σx = some σo → Jd p l e (rmF 1 30) s m args below meth c D 16 ad (celM cI ad) okM 6 (MQ below (QV D (tysC cI cR) 16 ad (celM cI ad) okM σo) args s 0 0 (inA 16 ad)) 3 [(0, .ref (ad b0)), (1, .int a1), (2, .ref (ad b2)), (3, .int a3), (4, .int a4), (5, .int x5)] [] σx := by
  intro n
  induction n with
  | zero => intro x5 σx h; cases h
  | succ n ih =>
    intro x5 σx h
    unfold l_X6_bring_3 at h
    refine J_iload (q := 5) C dX6_bring_3 rfl 5 rfl ?_
    refine J_iload (q := 7) C dX6_bring_5 rfl 4 rfl ?_
    refine J_icmp_ge (tgt := 28) (q := 10) C dX6_bring_7 rfl (by decide) h (fun _ h => ?_) (fun _ h => ?_)
    · refine J_sub [] rfl ?_
      exact hk28 _ h
    · refine J_aload_n (q := 11) C dX6_bring_10 rfl rfl 2 rfl ?_
      refine J_iload_n (q := 12) C dX6_bring_11 rfl rfl 3 rfl ?_
      refine J_iload (q := 14) C dX6_bring_12 rfl 5 rfl ?_
      refine J_iadd (q := 15) C dX6_bring_14 rfl ?_
      refine J_aload_n (q := 16) C dX6_bring_15 rfl rfl 0 rfl ?_
      refine J_iload_n (q := 17) C dX6_bring_16 rfl rfl 1 rfl ?_
      refine J_iload (q := 19) C dX6_bring_17 rfl 5 rfl ?_
      refine J_iadd (q := 20) C dX6_bring_19 rfl ?_
      refine JM_iald (q := 21) C hb0 h dX6_bring_20 rfl (fun h => ?_)
      refine JM_iast (q := 22) C hb2 h dX6_bring_21 rfl (fun h => ?_)
      refine jn_elim h (fun σ1 eσ1 h => ?_)
      rw [← eσ1]
      refine jn_elim h (fun y2 ey2 h => ?_)
      refine J_iinc (v := y2) (q := 25) C dX6_bring_22 rfl 5 rfl (by rw [ey2]; rfl) (by decide) rfl ?_
      refine J_goto (tgt := 3) C dX6_bring_25 (by decide) ?_
      refine J_sub [1, 2, 3, 4, 5, 0] rfl ?_
      exact ih _ _ h
set_option maxHeartbeats 4000000 in
set_option maxRecDepth 100000 in
theorem c_X6_bring {l : Launch} {D : va_G} {cI cR : ClassId} {ad : Nat → Nat} (hap : apN 16 ad) {g0 : Nat} {i1 : Int32} {g2 : Nat} {i3 : Int32} {i4 : Int32} {σ : Sg} {σo : Sg} (ho0 : isMA g0) (ho2 : isMA g2) (h : f_X6_bring g0 i1 g2 i3 i4 σ = some σo) : MV l D (tysC cI cR) 16 ad (celM cI ad) okM yX6_bring cX6_bring 6 1 30 [.ref (ad g0), .int i1, .ref (ad g2), .int i3, .int i4] σ σo := by
  unfold f_X6_bring at h
  refine entV "WokenYearsModel" hap (by decide +kernel) rfl (Nat.le_of_ble_eq_true rfl) (fun p e s m args below meth c C => ?_)
  refine J_sub (lv' := [(0, .ref (ad g0)), (1, .int i1), (2, .ref (ad g2)), (3, .int i3), (4, .int i4)]) [0, 1, 2, 3, 4] rfl ?_
  refine J_iconst (v := 0 ) (q := 1) C dX6_bring_0 rfl rfl ?_
  refine J_istore (q := 3) C dX6_bring_1 rfl (by decide) rfl ?_
  refine J_sub [1, 2, 3, 4, 5, 0] rfl ?_
  refine cl_X6_bring_3 hap C ho0 ho2 σo  (fun σv28 h => ?_) FU _ _ h
  · obtain rfl := Option.some.inj h
    exact J_vret C dX6_bring_28
set_option maxHeartbeats 4000000 in
set_option maxRecDepth 100000 in
theorem c_X6_isOne {l : Launch} {D : va_G} {cI cR : ClassId} {ad : Nat → Nat} (hap : apN 16 ad) {i1 : Int32} {σ : Sg} {r : Bool}  (h : f_X6_isOne i1 σ = some r) : MI l D (tysC cI cR) 16 ad (celM cI ad) okM yX6_isOne cX6_isOne 2 .boolean 2 52 [.ref (ad 0), .int i1] σ (b2i r) σ := by
  unfold f_X6_isOne at h
  refine entI "WokenYearsModel" hap (by decide +kernel) rfl (Nat.le_of_ble_eq_true rfl) (fun p e s m args below meth c C => ?_)
  refine J_sub (lv' := [(0, .ref (ad 0)), (1, .int i1)]) [0, 1] rfl ?_
  refine J_iload_n (q := 1) C dX6_isOne_0 rfl rfl 1 rfl ?_
  refine J_iconst (v := 0 ) (q := 2) C dX6_isOne_1 rfl rfl ?_
  refine J_aload_n (q := 3) C dX6_isOne_2 rfl rfl 0 rfl ?_
  refine JM_g_X6_houses (q := 6) C kF_X6_66 dX6_isOne_3 rfl ?_
  refine J_iconst (v := 1 ) (q := 7) C dX6_isOne_6 rfl rfl ?_
  refine J_isub (q := 8) C dX6_isOne_7 rfl ?_
  obtain ⟨r1, ec1, h⟩ := bnd_of h
  refine J_callIS (q := 11) (As := [.int i1, .int (0 : Int32), .int ((gS σ 17) - (1 : Int32))]) C (c_X6_in hap  ec1) ok_X6_in kM_X6_69 rfl rfl rfl ⟨Nat.le_of_ble_eq_true rfl, Nat.le_of_ble_eq_true rfl⟩ (Nat.le_of_ble_eq_true rfl) dX6_isOne_8 rfl ?_
  obtain rfl := Option.some.inj h
  exact J_zret (b := _) C dX6_isOne_11
set_option maxHeartbeats 4000000 in
set_option maxRecDepth 100000 in
theorem cl_X6_row_36 {p : Program} {l : Launch} {e : Env} {s : State} {m : MethodId} {args : Array Value} {below : List Frame} {meth : Method} {c : Code} {D : va_G} {cI cR : ClassId} {ad : Nat → Nat} (hap : apN 16 ad) (C : Cx p s m args meth c cX6_row 4 "WokenYearsModel" D (tysC cI cR) 16 ad (some .int)) {a1 : Int32} {a2 : Int32} {k60 : Sg → Option (Int32 × Sg)} (r : Int32) (σo : Sg)  (hk60 : ∀ (σ1 : Sg), k60 σ1 = some (r, σo) → Jd p l e (rmF 2 52) s m args below meth c D 16 ad (celM cI ad) okM 4 (MQ below (QI D (tysC cI cR) 16 ad (celM cI ad) okM r σo) args s 0 0 (inA 16 ad)) 60 [(2, .int a2)] [] σ1) : ∀ (n : Nat) (x3 : Int32) (σx : Sg), l_X6_row_36 a1 a2 k60 n x3 σx = some (r, σo) → Jd p l e (rmF 2 52) s m args below meth c D 16 ad (celM cI ad) okM 4 (MQ below (QI D (tysC cI cR) 16 ad (celM cI ad) okM r σo) args s 0 0 (inA 16 ad)) 36 [(0, .ref (ad 0)), (1, .int a1), (2, .int a2), (3, .int x3)] [] σx := by
  intro n
  induction n with
  | zero => intro x3 σx h; cases h
  | succ n ih =>
    intro x3 σx h
    unfold l_X6_row_36 at h
    refine J_iload_n (q := 37) C dX6_row_36 rfl rfl 3 rfl ?_
    refine J_bipush (v := 40) (q := 39) C dX6_row_37 rfl rfl ?_
    refine J_icmp_ge (tgt := 60) (q := 42) C dX6_row_39 rfl (by decide) h (fun _ h => ?_) (fun _ h => ?_)
    · refine J_sub [2] rfl ?_
      exact hk60 _ h
    · refine J_aload_n (q := 43) C dX6_row_42 rfl rfl 0 rfl ?_
      refine JM_g_X6_rowItem (q := 46) C kF_X6_13 dX6_row_43 rfl ?_
      refine J_bipush (v := 40) (q := 48) C dX6_row_46 rfl rfl ?_
      refine J_iload_n (q := 49) C dX6_row_48 rfl rfl 1 rfl ?_
      refine J_imul (q := 50) C dX6_row_49 rfl ?_
      refine J_iload_n (q := 51) C dX6_row_50 rfl rfl 3 rfl ?_
      refine J_iadd (q := 52) C dX6_row_51 rfl ?_
      refine J_iconst (v := 0 ) (q := 53) C dX6_row_52 rfl rfl ?_
      refine JM_iast (q := 54) C isMA_2 h dX6_row_53 rfl (fun h => ?_)
      refine jn_elim h (fun σ3 eσ3 h => ?_)
      rw [← eσ3]
      refine jn_elim h (fun y4 ey4 h => ?_)
      refine J_iinc (v := y4) (q := 57) C dX6_row_54 rfl 3 rfl (by rw [ey4]; rfl) (by decide) rfl ?_
      refine J_goto (tgt := 36) C dX6_row_57 (by decide) ?_
      refine J_sub [1, 2, 3, 0] rfl ?_
      exact ih _ _ h
set_option maxHeartbeats 4000000 in
set_option maxRecDepth 100000 in
theorem c_X6_row {l : Launch} {D : va_G} {cI cR : ClassId} {ad : Nat → Nat} (hap : apN 16 ad) {i1 : Int32} {i2 : Int32} {σ : Sg} {r : Int32} {σo : Sg}  (h : f_X6_row i1 i2 σ = some (r, σo)) : MI l D (tysC cI cR) 16 ad (celM cI ad) okM yX6_row cX6_row 4 .int 2 52 [.ref (ad 0), .int i1, .int i2] σ r σo := by
  unfold f_X6_row at h
  refine entI "WokenYearsModel" hap (by decide +kernel) rfl (Nat.le_of_ble_eq_true rfl) (fun p e s m args below meth c C => ?_)
  refine J_sub (lv' := [(0, .ref (ad 0)), (1, .int i1), (2, .int i2)]) [0, 1, 2] rfl ?_
  refine J_iload_n (q := 1) C dX6_row_0 rfl rfl 1 rfl ?_
  refine J_iconst (v := 0 ) (q := 2) C dX6_row_1 rfl rfl ?_
  refine J_iconst (v := 5 ) (q := 3) C dX6_row_2 rfl rfl ?_
  obtain ⟨r1, ec1, h⟩ := bnd_of h
  refine J_callIS (q := 6) (As := [.int i1, .int (0 : Int32), .int (5 : Int32)]) C (c_X6_in hap  ec1) ok_X6_in kM_X6_69 rfl rfl rfl ⟨Nat.le_of_ble_eq_true rfl, Nat.le_of_ble_eq_true rfl⟩ (Nat.le_of_ble_eq_true rfl) dX6_row_3 rfl ?_
  refine J_ifeq_b (tgt := 15) (q := 9) C dX6_row_6 rfl (by decide) h (fun _ h => ?_) (fun _ h => ?_)
  · refine J_iload_n (q := 10) C dX6_row_9 rfl rfl 2 rfl ?_
    refine J_bipush (v := 40) (q := 12) C dX6_row_10 rfl rfl ?_
    refine J_icmp_le (tgt := 17) (q := 15) C dX6_row_12 rfl (by decide) h (fun _ h => ?_) (fun _ h => ?_)
    · refine J_iload_n (q := 18) C dX6_row_17 rfl rfl 2 rfl ?_
      refine J_if_ge (tgt := 27) (q := 21) C dX6_row_18 rfl (by decide) h (fun _ h => ?_) (fun _ h => ?_)
      · refine J_aload_n (q := 28) C dX6_row_27 rfl rfl 0 rfl ?_
        refine JM_g_X6_rowSize (q := 31) C kF_X6_7 dX6_row_28 rfl ?_
        refine J_iload_n (q := 32) C dX6_row_31 rfl rfl 1 rfl ?_
        refine J_iload_n (q := 33) C dX6_row_32 rfl rfl 2 rfl ?_
        refine JM_iast (q := 34) C isMA_1 h dX6_row_33 rfl (fun h => ?_)
        refine jn_elim h (fun σ2 eσ2 h => ?_)
        rw [← eσ2]
        refine J_iconst (v := 0 ) (q := 35) C dX6_row_34 rfl rfl ?_
        refine J_istore_n (q := 36) C dX6_row_35 rfl rfl (by decide) rfl ?_
        refine J_sub [1, 2, 3, 0] rfl ?_
        refine cl_X6_row_36 hap C r σo  (fun σv60 h => ?_) FU _ _ h
        · refine J_iload_n (q := 61) C dX6_row_60 rfl rfl 0 rfl ?_
          obtain ⟨rfl, rfl⟩ := Prod.mk.inj (Option.some.inj h)
          exact J_iret C dX6_row_61
      · refine J_aload_n (q := 22) C dX6_row_21 rfl rfl 0 rfl ?_
        refine J_iconst (v := 5 ) (q := 23) C dX6_row_22 rfl rfl ?_
        obtain ⟨r5, σ5, ec5, h⟩ := bnd2_of h
        refine J_callIV (q := 26) (As := [.int (5 : Int32)]) C (c_X6_finds hap  ec5) ok_X6_finds kM_X6_73 (by decide) rfl rfl rfl rfl rfl rfl ⟨Nat.le_of_ble_eq_true rfl, Nat.le_of_ble_eq_true rfl⟩ (Nat.le_of_ble_eq_true rfl) dX6_row_23 rfl ?_
        obtain ⟨rfl, rfl⟩ := Prod.mk.inj (Option.some.inj h)
        exact J_iret C dX6_row_26
    · refine J_iconst (v := -1 ) (q := 16) C dX6_row_15 rfl rfl ?_
      obtain ⟨rfl, rfl⟩ := Prod.mk.inj (Option.some.inj h)
      exact J_iret C dX6_row_16
  · refine J_iconst (v := -1 ) (q := 16) C dX6_row_15 rfl rfl ?_
    obtain ⟨rfl, rfl⟩ := Prod.mk.inj (Option.some.inj h)
    exact J_iret C dX6_row_16
set_option maxHeartbeats 4000000 in
set_option maxRecDepth 100000 in
theorem c_X6_wrongAt {l : Launch} {D : va_G} {cI cR : ClassId} {ad : Nat → Nat} (hap : apN 16 ad) {i1 : Int32} {i2 : Int32} {σ : Sg} {r : Int32} {σo : Sg}  (h : f_X6_wrongAt i1 i2 σ = some (r, σo)) : MI l D (tysC cI cR) 16 ad (celM cI ad) okM yX6_wrongAt cX6_wrongAt 3 .int 2 52 [.ref (ad 0), .int i1, .int i2] σ r σo := by
  unfold f_X6_wrongAt at h
  refine entI "WokenYearsModel" hap (by decide +kernel) rfl (Nat.le_of_ble_eq_true rfl) (fun p e s m args below meth c C => ?_)
  refine J_sub (lv' := [(0, .ref (ad 0)), (1, .int i1), (2, .int i2)]) [0, 1, 2] rfl ?_
  refine J_iload_n (q := 1) C dX6_wrongAt_0 rfl rfl 1 rfl ?_
  refine J_iconst (v := 0 ) (q := 2) C dX6_wrongAt_1 rfl rfl ?_
  refine J_iconst (v := 5 ) (q := 3) C dX6_wrongAt_2 rfl rfl ?_
  obtain ⟨r1, ec1, h⟩ := bnd_of h
  refine J_callIS (q := 6) (As := [.int i1, .int (0 : Int32), .int (5 : Int32)]) C (c_X6_in hap  ec1) ok_X6_in kM_X6_69 rfl rfl rfl ⟨Nat.le_of_ble_eq_true rfl, Nat.le_of_ble_eq_true rfl⟩ (Nat.le_of_ble_eq_true rfl) dX6_wrongAt_3 rfl ?_
  refine J_ifne_b (tgt := 11) (q := 9) C dX6_wrongAt_6 rfl (by decide) h (fun _ h => ?_) (fun _ h => ?_)
  · refine J_aload_n (q := 12) C dX6_wrongAt_11 rfl rfl 0 rfl ?_
    refine JM_g_X6_rowSize (q := 15) C kF_X6_7 dX6_wrongAt_12 rfl ?_
    refine J_iload_n (q := 16) C dX6_wrongAt_15 rfl rfl 1 rfl ?_
    refine JM_iald (q := 17) C isMA_1 h dX6_wrongAt_16 rfl (fun h => ?_)
    refine J_if_ge (tgt := 26) (q := 20) C dX6_wrongAt_17 rfl (by decide) h (fun _ h => ?_) (fun _ h => ?_)
    · refine J_iload_n (q := 27) C dX6_wrongAt_26 rfl rfl 2 rfl ?_
      refine J_iconst (v := 0 ) (q := 28) C dX6_wrongAt_27 rfl rfl ?_
      refine J_aload_n (q := 29) C dX6_wrongAt_28 rfl rfl 0 rfl ?_
      refine JM_g_X6_rowSize (q := 32) C kF_X6_7 dX6_wrongAt_29 rfl ?_
      refine J_iload_n (q := 33) C dX6_wrongAt_32 rfl rfl 1 rfl ?_
      refine JM_iald (q := 34) C isMA_1 h dX6_wrongAt_33 rfl (fun h => ?_)
      refine J_iconst (v := 1 ) (q := 35) C dX6_wrongAt_34 rfl rfl ?_
      refine J_isub (q := 36) C dX6_wrongAt_35 rfl ?_
      obtain ⟨r2, ec2, h⟩ := bnd_of h
      refine J_callIS (q := 39) (As := [.int i2, .int (0 : Int32), .int ((gA σ 1 i1.toNatClampNeg) - (1 : Int32))]) C (c_X6_in hap  ec2) ok_X6_in kM_X6_69 rfl rfl rfl ⟨Nat.le_of_ble_eq_true rfl, Nat.le_of_ble_eq_true rfl⟩ (Nat.le_of_ble_eq_true rfl) dX6_wrongAt_36 rfl ?_
      refine J_ifeq_b (tgt := 46) (q := 42) C dX6_wrongAt_39 rfl (by decide) h (fun _ h => ?_) (fun _ h => ?_)
      · refine J_iconst (v := 0 ) (q := 43) C dX6_wrongAt_42 rfl rfl ?_
        refine J_goto (tgt := 51) C dX6_wrongAt_43 (by decide) ?_
        obtain ⟨rfl, rfl⟩ := Prod.mk.inj (Option.some.inj h)
        exact J_iret C dX6_wrongAt_51
      · refine J_aload_n (q := 47) C dX6_wrongAt_46 rfl rfl 0 rfl ?_
        refine J_iconst (v := 2 ) (q := 48) C dX6_wrongAt_47 rfl rfl ?_
        obtain ⟨r3, σ3, ec3, h⟩ := bnd2_of h
        refine J_callIV (q := 51) (As := [.int (2 : Int32)]) C (c_X6_finds hap  ec3) ok_X6_finds kM_X6_73 (by decide) rfl rfl rfl rfl rfl rfl ⟨Nat.le_of_ble_eq_true rfl, Nat.le_of_ble_eq_true rfl⟩ (Nat.le_of_ble_eq_true rfl) dX6_wrongAt_48 rfl ?_
        obtain ⟨rfl, rfl⟩ := Prod.mk.inj (Option.some.inj h)
        exact J_iret C dX6_wrongAt_51
    · refine J_aload_n (q := 21) C dX6_wrongAt_20 rfl rfl 0 rfl ?_
      refine J_iconst (v := 1 ) (q := 22) C dX6_wrongAt_21 rfl rfl ?_
      obtain ⟨r4, σ4, ec4, h⟩ := bnd2_of h
      refine J_callIV (q := 25) (As := [.int (1 : Int32)]) C (c_X6_finds hap  ec4) ok_X6_finds kM_X6_73 (by decide) rfl rfl rfl rfl rfl rfl ⟨Nat.le_of_ble_eq_true rfl, Nat.le_of_ble_eq_true rfl⟩ (Nat.le_of_ble_eq_true rfl) dX6_wrongAt_22 rfl ?_
      obtain ⟨rfl, rfl⟩ := Prod.mk.inj (Option.some.inj h)
      exact J_iret C dX6_wrongAt_25
  · refine J_iconst (v := -1 ) (q := 10) C dX6_wrongAt_9 rfl rfl ?_
    obtain ⟨rfl, rfl⟩ := Prod.mk.inj (Option.some.inj h)
    exact J_iret C dX6_wrongAt_10
set_option maxHeartbeats 4000000 in
set_option maxRecDepth 100000 in
theorem c_X6_lay {l : Launch} {D : va_G} {cI cR : ClassId} {ad : Nat → Nat} (hap : apN 16 ad) {i1 : Int32} {i2 : Int32} {i3 : Int32} {σ : Sg} {r : Int32} {σo : Sg}  (h : f_X6_lay i1 i2 i3 σ = some (r, σo)) : MI l D (tysC cI cR) 16 ad (celM cI ad) okM yX6_lay cX6_lay 6 .int 3 74 [.ref (ad 0), .int i1, .int i2, .int i3] σ r σo := by
  unfold f_X6_lay at h
  refine entI "WokenYearsModel" hap (by decide +kernel) rfl (Nat.le_of_ble_eq_true rfl) (fun p e s m args below meth c C => ?_)
  refine J_sub (lv' := [(0, .ref (ad 0)), (1, .int i1), (2, .int i2), (3, .int i3)]) [0, 1, 2, 3] rfl ?_
  refine J_aload_n (q := 1) C dX6_lay_0 rfl rfl 0 rfl ?_
  refine J_iload_n (q := 2) C dX6_lay_1 rfl rfl 1 rfl ?_
  refine J_iload_n (q := 3) C dX6_lay_2 rfl rfl 2 rfl ?_
  obtain ⟨r1, σ1, ec1, h⟩ := bnd2_of h
  refine J_callIV (q := 6) (As := [.int i1, .int i2]) C (c_X6_wrongAt hap  ec1) ok_X6_wrongAt kM_X6_77 (by decide) rfl rfl rfl rfl rfl rfl ⟨Nat.le_of_ble_eq_true rfl, Nat.le_of_ble_eq_true rfl⟩ (Nat.le_of_ble_eq_true rfl) dX6_lay_3 rfl ?_
  refine J_istore (q := 8) C dX6_lay_6 rfl (by decide) rfl ?_
  refine J_iload (q := 10) C dX6_lay_8 rfl 0 rfl ?_
  refine J_if_eq (tgt := 16) (q := 13) C dX6_lay_10 rfl (by decide) h (fun _ h => ?_) (fun _ h => ?_)
  · refine J_aload_n (q := 17) C dX6_lay_16 rfl rfl 1 rfl ?_
    refine JM_g_X6_rowItem (q := 20) C kF_X6_13 dX6_lay_17 rfl ?_
    refine J_bipush (v := 40) (q := 22) C dX6_lay_20 rfl rfl ?_
    refine J_iload_n (q := 23) C dX6_lay_22 rfl rfl 2 rfl ?_
    refine J_imul (q := 24) C dX6_lay_23 rfl ?_
    refine J_iload_n (q := 25) C dX6_lay_24 rfl rfl 3 rfl ?_
    refine J_iadd (q := 26) C dX6_lay_25 rfl ?_
    refine JM_iald (q := 27) C isMA_2 h dX6_lay_26 rfl (fun h => ?_)
    refine J_nmi h (fun y2 ey2 h => ?_)
    refine J_istore (q := 29) C dX6_lay_27 rfl (by decide) rfl ?_
    refine J_aload_n (q := 30) C dX6_lay_29 rfl rfl 2 rfl ?_
    refine JM_g_X6_rowItem (q := 33) C kF_X6_13 dX6_lay_30 rfl ?_
    refine J_bipush (v := 40) (q := 35) C dX6_lay_33 rfl rfl ?_
    refine J_iload_n (q := 36) C dX6_lay_35 rfl rfl 3 rfl ?_
    refine J_imul (q := 37) C dX6_lay_36 rfl ?_
    refine J_iload_n (q := 38) C dX6_lay_37 rfl rfl 4 rfl ?_
    refine J_iadd (q := 39) C dX6_lay_38 rfl ?_
    refine J_iload_n (q := 40) C dX6_lay_39 rfl rfl 5 rfl ?_
    refine JM_iast (q := 41) C isMA_2 h dX6_lay_40 rfl (fun h => ?_)
    refine jn_elim h (fun σ3 eσ3 h => ?_)
    rw [← eσ3]
    refine J_aload_n (q := 42) C dX6_lay_41 rfl rfl 2 rfl ?_
    refine J_iload (q := 44) C dX6_lay_42 rfl 0 rfl ?_
    obtain ⟨r4, σ4, ec4, h⟩ := bnd2_of h
    refine J_callIV (q := 47) (As := [.int y2]) C (c_X6_tells hap  ec4) ok_X6_tells kM_X6_81 (by decide) rfl rfl rfl rfl rfl rfl ⟨Nat.le_of_ble_eq_true rfl, Nat.le_of_ble_eq_true rfl⟩ (Nat.le_of_ble_eq_true rfl) dX6_lay_44 rfl ?_
    obtain ⟨rfl, rfl⟩ := Prod.mk.inj (Option.some.inj h)
    exact J_iret C dX6_lay_47
  · refine J_iload (q := 15) C dX6_lay_13 rfl 0 rfl ?_
    obtain ⟨rfl, rfl⟩ := Prod.mk.inj (Option.some.inj h)
    exact J_iret C dX6_lay_15
set_option maxHeartbeats 4000000 in
set_option maxRecDepth 100000 in
theorem c_X6_at {l : Launch} {D : va_G} {cI cR : ClassId} {ad : Nat → Nat} (hap : apN 16 ad) {i1 : Int32} {i2 : Int32} {σ : Sg} {r : Int32} {σo : Sg}  (h : f_X6_at i1 i2 σ = some (r, σo)) : MI l D (tysC cI cR) 16 ad (celM cI ad) okM yX6_at cX6_at 4 .int 3 74 [.ref (ad 0), .int i1, .int i2] σ r σo := by
  unfold f_X6_at at h
  refine entI "WokenYearsModel" hap (by decide +kernel) rfl (Nat.le_of_ble_eq_true rfl) (fun p e s m args below meth c C => ?_)
  refine J_sub (lv' := [(0, .ref (ad 0)), (1, .int i1), (2, .int i2)]) [0, 1, 2] rfl ?_
  refine J_aload_n (q := 1) C dX6_at_0 rfl rfl 0 rfl ?_
  refine J_iload_n (q := 2) C dX6_at_1 rfl rfl 1 rfl ?_
  refine J_iload_n (q := 3) C dX6_at_2 rfl rfl 2 rfl ?_
  obtain ⟨r1, σ1, ec1, h⟩ := bnd2_of h
  refine J_callIV (q := 6) (As := [.int i1, .int i2]) C (c_X6_wrongAt hap  ec1) ok_X6_wrongAt kM_X6_77 (by decide) rfl rfl rfl rfl rfl rfl ⟨Nat.le_of_ble_eq_true rfl, Nat.le_of_ble_eq_true rfl⟩ (Nat.le_of_ble_eq_true rfl) dX6_at_3 rfl ?_
  refine J_istore_n (q := 7) C dX6_at_6 rfl rfl (by decide) rfl ?_
  refine J_iload_n (q := 8) C dX6_at_7 rfl rfl 0 rfl ?_
  refine J_if_eq (tgt := 15) (q := 11) C dX6_at_8 rfl (by decide) h (fun _ h => ?_) (fun _ h => ?_)
  · refine J_aload_n (q := 16) C dX6_at_15 rfl rfl 1 rfl ?_
    refine J_aload_n (q := 17) C dX6_at_16 rfl rfl 1 rfl ?_
    refine JM_g_X6_rowItem (q := 20) C kF_X6_13 dX6_at_17 rfl ?_
    refine J_bipush (v := 40) (q := 22) C dX6_at_20 rfl rfl ?_
    refine J_iload_n (q := 23) C dX6_at_22 rfl rfl 2 rfl ?_
    refine J_imul (q := 24) C dX6_at_23 rfl ?_
    refine J_iload_n (q := 25) C dX6_at_24 rfl rfl 3 rfl ?_
    refine J_iadd (q := 26) C dX6_at_25 rfl ?_
    refine JM_iald (q := 27) C isMA_2 h dX6_at_26 rfl (fun h => ?_)
    obtain ⟨r2, σ2, ec2, h⟩ := bnd2_of h
    refine J_callIV (q := 30) (As := [.int (gA σ1 2 (((40 : Int32) * i1) + i2).toNatClampNeg)]) C (c_X6_tells hap  ec2) ok_X6_tells kM_X6_81 (by decide) rfl rfl rfl rfl rfl rfl ⟨Nat.le_of_ble_eq_true rfl, Nat.le_of_ble_eq_true rfl⟩ (Nat.le_of_ble_eq_true rfl) dX6_at_27 rfl ?_
    obtain ⟨rfl, rfl⟩ := Prod.mk.inj (Option.some.inj h)
    exact J_iret C dX6_at_30
  · refine J_iload_n (q := 12) C dX6_at_11 rfl rfl 0 rfl ?_
    refine J_goto (tgt := 30) C dX6_at_12 (by decide) ?_
    obtain ⟨rfl, rfl⟩ := Prod.mk.inj (Option.some.inj h)
    exact J_iret C dX6_at_30
set_option maxHeartbeats 4000000 in
set_option maxRecDepth 100000 in
theorem c_X6_tear {l : Launch} {D : va_G} {cI cR : ClassId} {ad : Nat → Nat} (hap : apN 16 ad) {i1 : Int32} {σ : Sg} {r : Int32} {σo : Sg}  (h : f_X6_tear i1 σ = some (r, σo)) : MI l D (tysC cI cR) 16 ad (celM cI ad) okM yX6_tear cX6_tear 2 .int 2 52 [.ref (ad 0), .int i1] σ r σo := by
  unfold f_X6_tear at h
  refine entI "WokenYearsModel" hap (by decide +kernel) rfl (Nat.le_of_ble_eq_true rfl) (fun p e s m args below meth c C => ?_)
  refine J_sub (lv' := [(0, .ref (ad 0)), (1, .int i1)]) [0, 1] rfl ?_
  refine J_iload_n (q := 1) C dX6_tear_0 rfl rfl 1 rfl ?_
  refine J_iconst (v := 0 ) (q := 2) C dX6_tear_1 rfl rfl ?_
  refine J_iconst (v := 5 ) (q := 3) C dX6_tear_2 rfl rfl ?_
  obtain ⟨r1, ec1, h⟩ := bnd_of h
  refine J_callIS (q := 6) (As := [.int i1, .int (0 : Int32), .int (5 : Int32)]) C (c_X6_in hap  ec1) ok_X6_in kM_X6_69 rfl rfl rfl ⟨Nat.le_of_ble_eq_true rfl, Nat.le_of_ble_eq_true rfl⟩ (Nat.le_of_ble_eq_true rfl) dX6_tear_3 rfl ?_
  refine J_ifne_b (tgt := 11) (q := 9) C dX6_tear_6 rfl (by decide) h (fun _ h => ?_) (fun _ h => ?_)
  · refine J_aload_n (q := 12) C dX6_tear_11 rfl rfl 0 rfl ?_
    refine JM_g_X6_rowSize (q := 15) C kF_X6_7 dX6_tear_12 rfl ?_
    refine J_iload_n (q := 16) C dX6_tear_15 rfl rfl 1 rfl ?_
    refine JM_iald (q := 17) C isMA_1 h dX6_tear_16 rfl (fun h => ?_)
    refine J_if_ge (tgt := 26) (q := 20) C dX6_tear_17 rfl (by decide) h (fun _ h => ?_) (fun _ h => ?_)
    · refine J_aload_n (q := 27) C dX6_tear_26 rfl rfl 0 rfl ?_
      refine JM_g_X6_rowSize (q := 30) C kF_X6_7 dX6_tear_27 rfl ?_
      refine J_iload_n (q := 31) C dX6_tear_30 rfl rfl 1 rfl ?_
      refine J_iconst (v := -1 ) (q := 32) C dX6_tear_31 rfl rfl ?_
      refine JM_iast (q := 33) C isMA_1 h dX6_tear_32 rfl (fun h => ?_)
      refine jn_elim h (fun σ2 eσ2 h => ?_)
      rw [← eσ2]
      refine J_iconst (v := 1 ) (q := 34) C dX6_tear_33 rfl rfl ?_
      obtain ⟨rfl, rfl⟩ := Prod.mk.inj (Option.some.inj h)
      exact J_iret C dX6_tear_34
    · refine J_aload_n (q := 21) C dX6_tear_20 rfl rfl 0 rfl ?_
      refine J_iconst (v := 1 ) (q := 22) C dX6_tear_21 rfl rfl ?_
      obtain ⟨r3, σ3, ec3, h⟩ := bnd2_of h
      refine J_callIV (q := 25) (As := [.int (1 : Int32)]) C (c_X6_finds hap  ec3) ok_X6_finds kM_X6_73 (by decide) rfl rfl rfl rfl rfl rfl ⟨Nat.le_of_ble_eq_true rfl, Nat.le_of_ble_eq_true rfl⟩ (Nat.le_of_ble_eq_true rfl) dX6_tear_22 rfl ?_
      obtain ⟨rfl, rfl⟩ := Prod.mk.inj (Option.some.inj h)
      exact J_iret C dX6_tear_25
  · refine J_iconst (v := -1 ) (q := 10) C dX6_tear_9 rfl rfl ?_
    obtain ⟨rfl, rfl⟩ := Prod.mk.inj (Option.some.inj h)
    exact J_iret C dX6_tear_10
set_option maxHeartbeats 4000000 in
set_option maxRecDepth 100000 in
theorem c_X6_isPart {l : Launch} {D : va_G} {cI cR : ClassId} {ad : Nat → Nat} (hap : apN 16 ad) {i0 : Int32} {i1 : Int32} {i2 : Int32} {σ : Sg} {r : Bool}  (h : f_X6_isPart i0 i1 i2 = some r) : MI l D (tysC cI cR) 16 ad (celM cI ad) okM yX6_isPart cX6_isPart 3 .boolean 1 30 [.int i0, .int i1, .int i2] σ (b2i r) σ := by
  unfold f_X6_isPart at h
  refine entI "WokenYearsModel" hap (by decide +kernel) rfl (Nat.le_of_ble_eq_true rfl) (fun p e s m args below meth c C => ?_)
  refine J_sub (lv' := [(0, .int i0), (1, .int i1), (2, .int i2)]) [0, 1, 2] rfl ?_
  refine J_iload_n (q := 1) C dX6_isPart_0 rfl rfl 0 rfl ?_
  refine J_if_lt (tgt := 20) (q := 4) C dX6_isPart_1 rfl (by decide) h (fun _ h => ?_) (fun _ h => ?_)
  · refine J_iconst (v := 0 ) (q := 21) C dX6_isPart_20 rfl rfl ?_
    obtain rfl := Option.some.inj h
    exact J_zret (b := false) C dX6_isPart_21
  · refine J_iload_n (q := 5) C dX6_isPart_4 rfl rfl 1 rfl ?_
    refine J_iload_n (q := 6) C dX6_isPart_5 rfl rfl 2 rfl ?_
    refine J_icmp_gt (tgt := 20) (q := 9) C dX6_isPart_6 rfl (by decide) h (fun _ h => ?_) (fun _ h => ?_)
    · refine J_iconst (v := 0 ) (q := 21) C dX6_isPart_20 rfl rfl ?_
      obtain rfl := Option.some.inj h
      exact J_zret (b := false) C dX6_isPart_21
    · refine J_iload_n (q := 10) C dX6_isPart_9 rfl rfl 0 rfl ?_
      refine J_iload_n (q := 11) C dX6_isPart_10 rfl rfl 2 rfl ?_
      refine J_iload_n (q := 12) C dX6_isPart_11 rfl rfl 1 rfl ?_
      refine J_isub (q := 13) C dX6_isPart_12 rfl ?_
      refine J_icmp_gt (tgt := 20) (q := 16) C dX6_isPart_13 rfl (by decide) h (fun _ h => ?_) (fun _ h => ?_)
      · refine J_iconst (v := 0 ) (q := 21) C dX6_isPart_20 rfl rfl ?_
        obtain rfl := Option.some.inj h
        exact J_zret (b := false) C dX6_isPart_21
      · refine J_iconst (v := 1 ) (q := 17) C dX6_isPart_16 rfl rfl ?_
        refine J_goto (tgt := 21) C dX6_isPart_17 (by decide) ?_
        obtain rfl := Option.some.inj h
        exact J_zret (b := true) C dX6_isPart_21
set_option maxHeartbeats 4000000 in
set_option maxRecDepth 100000 in
theorem cl_X6_copy_113 {p : Program} {l : Launch} {e : Env} {s : State} {m : MethodId} {args : Array Value} {below : List Frame} {meth : Method} {c : Code} {D : va_G} {cI cR : ClassId} {ad : Nat → Nat} (hap : apN 16 ad) (C : Cx p s m args meth c cX6_copy 9 "WokenYearsModel" D (tysC cI cR) 16 ad (some .int)) {a1 : Int32} {a2 : Int32} {a3 : Int32} {a4 : Int32} {a5 : Int32} {a6 : Bool} {k174 : Sg → Option (Int32 × Sg)} (r : Int32) (σo : Sg)  (hk174 : ∀ (σ1 : Sg), k174 σ1 = some (r, σo) → Jd p l e (rmF 2 52) s m args below meth c D 16 ad (celM cI ad) okM 9 (MQ below (QI D (tysC cI cR) 16 ad (celM cI ad) okM r σo) args s 0 0 (inA 16 ad)) 174 [] [] σ1) : ∀ (n : Nat) (x7 : Int32) (σx : Sg), l_X6_copy_113 a1 a2 a3 a4 a5 a6 k174 n x7 σx = some (r, σo) → Jd p l e (rmF 2 52) s m args below meth c D 16 ad (celM cI ad) okM 9 (MQ below (QI D (tysC cI cR) 16 ad (celM cI ad) okM r σo) args s 0 0 (inA 16 ad)) 113 [(0, .ref (ad 0)), (1, .int a1), (2, .int a2), (3, .int a3), (4, .int a4), (5, .int a5), (6, .int (b2i a6)), (7, .int x7)] [] σx := by
  intro n
  induction n with
  | zero => intro x7 σx h; cases h
  | succ n ih =>
    intro x7 σx h
    unfold l_X6_copy_113 at h
    refine J_iload (q := 115) C dX6_copy_113 rfl 7 rfl ?_
    refine J_iload (q := 117) C dX6_copy_115 rfl 5 rfl ?_
    refine J_icmp_ge (tgt := 174) (q := 120) C dX6_copy_117 rfl (by decide) h (fun _ h => ?_) (fun _ h => ?_)
    · refine J_sub [] rfl ?_
      exact hk174 _ h
    · refine J_iload (q := 122) C dX6_copy_120 rfl 6 rfl ?_
      refine jn_elim h (fun k137 ek137 h => ?_)
      have hk137 : ∀ (t0_137 : Int32), k137 t0_137 = some (r, σo) → Jd p l e (rmF 2 52) s m args below meth c D 16 ad (celM cI ad) okM 9 (MQ below (QI D (tysC cI cR) 16 ad (celM cI ad) okM r σo) args s 0 0 (inA 16 ad)) 137 [(0, .ref (ad 0)), (1, .int a1), (2, .int a2), (3, .int a3), (4, .int a4), (5, .int a5), (6, .int (b2i a6)), (7, .int x7)] [.int t0_137] σx := by
        intro t0_137 h
        rw [ek137] at h
        refine J_istore (q := 139) C dX6_copy_137 rfl (by decide) rfl ?_
        refine J_aload_n (q := 140) C dX6_copy_139 rfl rfl 1 rfl ?_
        refine JM_g_X6_rowItem (q := 143) C kF_X6_13 dX6_copy_140 rfl ?_
        refine J_bipush (v := 40) (q := 145) C dX6_copy_143 rfl rfl ?_
        refine J_iload_n (q := 146) C dX6_copy_145 rfl rfl 4 rfl ?_
        refine J_imul (q := 147) C dX6_copy_146 rfl ?_
        refine J_iload (q := 149) C dX6_copy_147 rfl 5 rfl ?_
        refine J_iadd (q := 150) C dX6_copy_149 rfl ?_
        refine J_iload (q := 152) C dX6_copy_150 rfl 0 rfl ?_
        refine J_iadd (q := 153) C dX6_copy_152 rfl ?_
        refine J_aload_n (q := 154) C dX6_copy_153 rfl rfl 1 rfl ?_
        refine JM_g_X6_rowItem (q := 157) C kF_X6_13 dX6_copy_154 rfl ?_
        refine J_bipush (v := 40) (q := 159) C dX6_copy_157 rfl rfl ?_
        refine J_iload_n (q := 160) C dX6_copy_159 rfl rfl 2 rfl ?_
        refine J_imul (q := 161) C dX6_copy_160 rfl ?_
        refine J_iload_n (q := 162) C dX6_copy_161 rfl rfl 3 rfl ?_
        refine J_iadd (q := 163) C dX6_copy_162 rfl ?_
        refine J_iload (q := 165) C dX6_copy_163 rfl 0 rfl ?_
        refine J_iadd (q := 166) C dX6_copy_165 rfl ?_
        refine JM_iald (q := 167) C isMA_2 h dX6_copy_166 rfl (fun h => ?_)
        refine JM_iast (q := 168) C isMA_2 h dX6_copy_167 rfl (fun h => ?_)
        refine jn_elim h (fun σ7 eσ7 h => ?_)
        rw [← eσ7]
        refine jn_elim h (fun y8 ey8 h => ?_)
        refine J_iinc (v := y8) (q := 171) C dX6_copy_168 rfl 8 rfl (by rw [ey8]; rfl) (by decide) rfl ?_
        refine J_goto (tgt := 113) C dX6_copy_171 (by decide) ?_
        refine J_sub [2, 3, 4, 5, 6, 7, 8, 0] rfl ?_
        exact ih _ _ h
      refine J_ifeq_b (tgt := 135) (q := 125) C dX6_copy_122 rfl (by decide) h (fun _ h => ?_) (fun _ h => ?_)
      · refine J_iload (q := 127) C dX6_copy_125 rfl 5 rfl ?_
        refine J_iconst (v := 1 ) (q := 128) C dX6_copy_127 rfl rfl ?_
        refine J_isub (q := 129) C dX6_copy_128 rfl ?_
        refine J_iload (q := 131) C dX6_copy_129 rfl 7 rfl ?_
        refine J_isub (q := 132) C dX6_copy_131 rfl ?_
        refine J_goto (tgt := 137) C dX6_copy_132 (by decide) ?_
        exact hk137 _ h
      · refine J_iload (q := 137) C dX6_copy_135 rfl 7 rfl ?_
        exact hk137 _ h
set_option maxHeartbeats 4000000 in
set_option maxRecDepth 100000 in
theorem c_X6_copy {l : Launch} {D : va_G} {cI cR : ClassId} {ad : Nat → Nat} (hap : apN 16 ad) {i1 : Int32} {i2 : Int32} {i3 : Int32} {i4 : Int32} {i5 : Int32} {σ : Sg} {r : Int32} {σo : Sg}  (h : f_X6_copy i1 i2 i3 i4 i5 σ = some (r, σo)) : MI l D (tysC cI cR) 16 ad (celM cI ad) okM yX6_copy cX6_copy 9 .int 2 52 [.ref (ad 0), .int i1, .int i2, .int i3, .int i4, .int i5] σ r σo := by
  unfold f_X6_copy at h
  refine entI "WokenYearsModel" hap (by decide +kernel) rfl (Nat.le_of_ble_eq_true rfl) (fun p e s m args below meth c C => ?_)
  refine J_sub (lv' := [(0, .ref (ad 0)), (1, .int i1), (2, .int i2), (3, .int i3), (4, .int i4), (5, .int i5)]) [0, 1, 2, 3, 4, 5] rfl ?_
  refine J_iload_n (q := 1) C dX6_copy_0 rfl rfl 1 rfl ?_
  refine J_iconst (v := 0 ) (q := 2) C dX6_copy_1 rfl rfl ?_
  refine J_iconst (v := 5 ) (q := 3) C dX6_copy_2 rfl rfl ?_
  obtain ⟨r1, ec1, h⟩ := bnd_of h
  refine J_callIS (q := 6) (As := [.int i1, .int (0 : Int32), .int (5 : Int32)]) C (c_X6_in hap  ec1) ok_X6_in kM_X6_69 rfl rfl rfl ⟨Nat.le_of_ble_eq_true rfl, Nat.le_of_ble_eq_true rfl⟩ (Nat.le_of_ble_eq_true rfl) dX6_copy_3 rfl ?_
  refine J_ifeq_b (tgt := 18) (q := 9) C dX6_copy_6 rfl (by decide) h (fun _ h => ?_) (fun _ h => ?_)
  · refine J_iload_n (q := 10) C dX6_copy_9 rfl rfl 3 rfl ?_
    refine J_iconst (v := 0 ) (q := 11) C dX6_copy_10 rfl rfl ?_
    refine J_iconst (v := 5 ) (q := 12) C dX6_copy_11 rfl rfl ?_
    obtain ⟨r2, ec2, h⟩ := bnd_of h
    refine J_callIS (q := 15) (As := [.int i3, .int (0 : Int32), .int (5 : Int32)]) C (c_X6_in hap  ec2) ok_X6_in kM_X6_69 rfl rfl rfl ⟨Nat.le_of_ble_eq_true rfl, Nat.le_of_ble_eq_true rfl⟩ (Nat.le_of_ble_eq_true rfl) dX6_copy_12 rfl ?_
    refine J_ifne_b (tgt := 20) (q := 18) C dX6_copy_15 rfl (by decide) h (fun _ h => ?_) (fun _ h => ?_)
    · refine J_iload (q := 22) C dX6_copy_20 rfl 5 rfl ?_
      refine J_if_ge (tgt := 31) (q := 25) C dX6_copy_22 rfl (by decide) h (fun _ h => ?_) (fun _ h => ?_)
      · refine J_aload_n (q := 32) C dX6_copy_31 rfl rfl 0 rfl ?_
        refine JM_g_X6_rowSize (q := 35) C kF_X6_7 dX6_copy_32 rfl ?_
        refine J_iload_n (q := 36) C dX6_copy_35 rfl rfl 1 rfl ?_
        refine JM_iald (q := 37) C isMA_1 h dX6_copy_36 rfl (fun h => ?_)
        refine jn_elim h (fun k49 ek49 h => ?_)
        have hk49 : k49 = some (r, σo) → Jd p l e (rmF 2 52) s m args below meth c D 16 ad (celM cI ad) okM 9 (MQ below (QI D (tysC cI cR) 16 ad (celM cI ad) okM r σo) args s 0 0 (inA 16 ad)) 49 [(0, .ref (ad 0))] [] σ := by
          intro  h
          rw [ek49] at h
          refine J_aload_n (q := 50) C dX6_copy_49 rfl rfl 0 rfl ?_
          refine J_iconst (v := 1 ) (q := 51) C dX6_copy_50 rfl rfl ?_
          obtain ⟨r3, σ3, ec3, h⟩ := bnd2_of h
          refine J_callIV (q := 54) (As := [.int (1 : Int32)]) C (c_X6_finds hap  ec3) ok_X6_finds kM_X6_73 (by decide) rfl rfl rfl rfl rfl rfl ⟨Nat.le_of_ble_eq_true rfl, Nat.le_of_ble_eq_true rfl⟩ (Nat.le_of_ble_eq_true rfl) dX6_copy_51 rfl ?_
          obtain ⟨rfl, rfl⟩ := Prod.mk.inj (Option.some.inj h)
          exact J_iret C dX6_copy_54
        refine J_if_lt (tgt := 49) (q := 40) C dX6_copy_37 rfl (by decide) h (fun _ h => ?_) (fun _ h => ?_)
        · refine J_sub [0] rfl ?_
          exact hk49 h
        · refine J_aload_n (q := 41) C dX6_copy_40 rfl rfl 0 rfl ?_
          refine JM_g_X6_rowSize (q := 44) C kF_X6_7 dX6_copy_41 rfl ?_
          refine J_iload_n (q := 45) C dX6_copy_44 rfl rfl 3 rfl ?_
          refine JM_iald (q := 46) C isMA_1 h dX6_copy_45 rfl (fun h => ?_)
          refine J_if_ge (tgt := 55) (q := 49) C dX6_copy_46 rfl (by decide) h (fun _ h => ?_) (fun _ h => ?_)
          · refine J_iload_n (q := 56) C dX6_copy_55 rfl rfl 2 rfl ?_
            refine J_iload (q := 58) C dX6_copy_56 rfl 5 rfl ?_
            refine J_aload_n (q := 59) C dX6_copy_58 rfl rfl 0 rfl ?_
            refine JM_g_X6_rowSize (q := 62) C kF_X6_7 dX6_copy_59 rfl ?_
            refine J_iload_n (q := 63) C dX6_copy_62 rfl rfl 1 rfl ?_
            refine JM_iald (q := 64) C isMA_1 h dX6_copy_63 rfl (fun h => ?_)
            obtain ⟨r4, ec4, h⟩ := bnd_of h
            refine J_callIS (q := 67) (As := [.int i2, .int i5, .int (gA σ 1 i1.toNatClampNeg)]) C (c_X6_isPart hap  ec4) ok_X6_isPart kM_X6_84 rfl rfl rfl ⟨Nat.le_of_ble_eq_true rfl, Nat.le_of_ble_eq_true rfl⟩ (Nat.le_of_ble_eq_true rfl) dX6_copy_64 rfl ?_
            refine jn_elim h (fun k86 ek86 h => ?_)
            have hk86 : k86 = some (r, σo) → Jd p l e (rmF 2 52) s m args below meth c D 16 ad (celM cI ad) okM 9 (MQ below (QI D (tysC cI cR) 16 ad (celM cI ad) okM r σo) args s 0 0 (inA 16 ad)) 86 [(0, .ref (ad 0))] [] σ := by
              intro  h
              rw [ek86] at h
              refine J_aload_n (q := 87) C dX6_copy_86 rfl rfl 0 rfl ?_
              refine J_iconst (v := 2 ) (q := 88) C dX6_copy_87 rfl rfl ?_
              obtain ⟨r5, σ5, ec5, h⟩ := bnd2_of h
              refine J_callIV (q := 91) (As := [.int (2 : Int32)]) C (c_X6_finds hap  ec5) ok_X6_finds kM_X6_73 (by decide) rfl rfl rfl rfl rfl rfl ⟨Nat.le_of_ble_eq_true rfl, Nat.le_of_ble_eq_true rfl⟩ (Nat.le_of_ble_eq_true rfl) dX6_copy_88 rfl ?_
              obtain ⟨rfl, rfl⟩ := Prod.mk.inj (Option.some.inj h)
              exact J_iret C dX6_copy_91
            refine J_ifeq_b (tgt := 86) (q := 70) C dX6_copy_67 rfl (by decide) h (fun _ h => ?_) (fun _ h => ?_)
            · refine J_iload (q := 72) C dX6_copy_70 rfl 4 rfl ?_
              refine J_iload (q := 74) C dX6_copy_72 rfl 5 rfl ?_
              refine J_aload_n (q := 75) C dX6_copy_74 rfl rfl 0 rfl ?_
              refine JM_g_X6_rowSize (q := 78) C kF_X6_7 dX6_copy_75 rfl ?_
              refine J_iload_n (q := 79) C dX6_copy_78 rfl rfl 3 rfl ?_
              refine JM_iald (q := 80) C isMA_1 h dX6_copy_79 rfl (fun h => ?_)
              obtain ⟨r6, ec6, h⟩ := bnd_of h
              refine J_callIS (q := 83) (As := [.int i4, .int i5, .int (gA σ 1 i3.toNatClampNeg)]) C (c_X6_isPart hap  ec6) ok_X6_isPart kM_X6_84 rfl rfl rfl ⟨Nat.le_of_ble_eq_true rfl, Nat.le_of_ble_eq_true rfl⟩ (Nat.le_of_ble_eq_true rfl) dX6_copy_80 rfl ?_
              refine J_ifne_b (tgt := 92) (q := 86) C dX6_copy_83 rfl (by decide) h (fun _ h => ?_) (fun _ h => ?_)
              · refine J_iload_n (q := 93) C dX6_copy_92 rfl rfl 1 rfl ?_
                refine J_iload_n (q := 94) C dX6_copy_93 rfl rfl 3 rfl ?_
                refine jn_elim h (fun k108 ek108 h => ?_)
                have hk108 : ∀ (t0_108 : Bool), k108 t0_108 = some (r, σo) → Jd p l e (rmF 2 52) s m args below meth c D 16 ad (celM cI ad) okM 9 (MQ below (QI D (tysC cI cR) 16 ad (celM cI ad) okM r σo) args s 0 0 (inA 16 ad)) 108 [(0, .ref (ad 0)), (1, .int i1), (2, .int i2), (3, .int i3), (4, .int i4), (5, .int i5)] [.int (b2i t0_108)] σ := by
                  intro t0_108 h
                  rw [ek108] at h
                  refine J_istore (q := 110) C dX6_copy_108 rfl (by decide) rfl ?_
                  refine J_iconst (v := 0 ) (q := 111) C dX6_copy_110 rfl rfl ?_
                  refine J_istore (q := 113) C dX6_copy_111 rfl (by decide) rfl ?_
                  refine J_sub [2, 3, 4, 5, 6, 7, 1, 0] rfl ?_
                  refine cl_X6_copy_113 hap C r σo  (fun σv174 h => ?_) FU _ _ h
                  · refine J_iconst (v := 1 ) (q := 175) C dX6_copy_174 rfl rfl ?_
                    obtain ⟨rfl, rfl⟩ := Prod.mk.inj (Option.some.inj h)
                    exact J_iret C dX6_copy_175
                refine jn_elim h (fun k107 ek107 h => ?_)
                have hk107 : k107 = some (r, σo) → Jd p l e (rmF 2 52) s m args below meth c D 16 ad (celM cI ad) okM 9 (MQ below (QI D (tysC cI cR) 16 ad (celM cI ad) okM r σo) args s 0 0 (inA 16 ad)) 107 [(0, .ref (ad 0)), (1, .int i1), (2, .int i2), (3, .int i3), (4, .int i4), (5, .int i5)] [] σ := by
                  intro  h
                  rw [ek107] at h
                  refine J_iconst (v := 0 ) (q := 108) C dX6_copy_107 rfl rfl ?_
                  exact hk108 _ h
                refine J_icmp_ne (tgt := 107) (q := 97) C dX6_copy_94 rfl (by decide) h (fun _ h => ?_) (fun _ h => ?_)
                · refine J_iload (q := 99) C dX6_copy_97 rfl 4 rfl ?_
                  refine J_iload_n (q := 100) C dX6_copy_99 rfl rfl 2 rfl ?_
                  refine J_icmp_le (tgt := 107) (q := 103) C dX6_copy_100 rfl (by decide) h (fun _ h => ?_) (fun _ h => ?_)
                  · exact hk107 h
                  · refine J_iconst (v := 1 ) (q := 104) C dX6_copy_103 rfl rfl ?_
                    refine J_goto (tgt := 108) C dX6_copy_104 (by decide) ?_
                    exact hk108 _ h
                · exact hk107 h
              · refine J_sub [0] rfl ?_
                exact hk86 h
            · refine J_sub [0] rfl ?_
              exact hk86 h
          · refine J_sub [0] rfl ?_
            exact hk49 h
      · refine J_aload_n (q := 26) C dX6_copy_25 rfl rfl 0 rfl ?_
        refine J_iconst (v := 5 ) (q := 27) C dX6_copy_26 rfl rfl ?_
        obtain ⟨r9, σ9, ec9, h⟩ := bnd2_of h
        refine J_callIV (q := 30) (As := [.int (5 : Int32)]) C (c_X6_finds hap  ec9) ok_X6_finds kM_X6_73 (by decide) rfl rfl rfl rfl rfl rfl ⟨Nat.le_of_ble_eq_true rfl, Nat.le_of_ble_eq_true rfl⟩ (Nat.le_of_ble_eq_true rfl) dX6_copy_27 rfl ?_
        obtain ⟨rfl, rfl⟩ := Prod.mk.inj (Option.some.inj h)
        exact J_iret C dX6_copy_30
    · refine J_iconst (v := -1 ) (q := 19) C dX6_copy_18 rfl rfl ?_
      obtain ⟨rfl, rfl⟩ := Prod.mk.inj (Option.some.inj h)
      exact J_iret C dX6_copy_19
  · refine J_iconst (v := -1 ) (q := 19) C dX6_copy_18 rfl rfl ?_
    obtain ⟨rfl, rfl⟩ := Prod.mk.inj (Option.some.inj h)
    exact J_iret C dX6_copy_19
set_option maxHeartbeats 4000000 in
set_option maxRecDepth 100000 in
theorem cl_X6_mean_46 {p : Program} {l : Launch} {e : Env} {s : State} {m : MethodId} {args : Array Value} {below : List Frame} {meth : Method} {c : Code} {D : va_G} {cI cR : ClassId} {ad : Nat → Nat} (hap : apN 16 ad) (C : Cx p s m args meth c cX6_mean 5 "WokenYearsModel" D (tysC cI cR) 16 ad (some .int)) {a1 : Int32} {k79 : Int64 → Option (Int32 × Sg)} {σ : Sg} (r : Int32) (σo : Sg)  (hk79 : ∀ (u2 : Int64), k79 u2 = some (r, σo) → Jd p l e (rmF 2 52) s m args below meth c D 16 ad (celM cI ad) okM 5 (MQ below (QI D (tysC cI cR) 16 ad (celM cI ad) okM r σo) args s 0 0 (inA 16 ad)) 79 [(0, .ref (ad 0)), (1, .int a1), (2, .long u2)] [] σ) : ∀ (n : Nat) (x2 : Int64) (x4 : Int32), l_X6_mean_46 a1 σ k79 n x2 x4 = some (r, σo) → Jd p l e (rmF 2 52) s m args below meth c D 16 ad (celM cI ad) okM 5 (MQ below (QI D (tysC cI cR) 16 ad (celM cI ad) okM r σo) args s 0 0 (inA 16 ad)) 46 [(0, .ref (ad 0)), (1, .int a1), (2, .long x2), (4, .int x4)] [] σ := by
  intro n
  induction n with
  | zero => intro x2 x4 h; cases h
  | succ n ih =>
    intro x2 x4 h
    unfold l_X6_mean_46 at h
    refine J_iload (q := 48) C dX6_mean_46 rfl 3 rfl ?_
    refine J_aload_n (q := 49) C dX6_mean_48 rfl rfl 0 rfl ?_
    refine JM_g_X6_rowSize (q := 52) C kF_X6_7 dX6_mean_49 rfl ?_
    refine J_iload_n (q := 53) C dX6_mean_52 rfl rfl 1 rfl ?_
    refine JM_iald (q := 54) C isMA_1 h dX6_mean_53 rfl (fun h => ?_)
    refine J_icmp_ge (tgt := 79) (q := 57) C dX6_mean_54 rfl (by decide) h (fun _ h => ?_) (fun _ h => ?_)
    · refine J_sub [0, 1, 2] rfl ?_
      exact hk79 _ h
    · refine J_lload_n (q := 58) C dX6_mean_57 rfl rfl 2 rfl ?_
      refine J_aload_n (q := 59) C dX6_mean_58 rfl rfl 0 rfl ?_
      refine JM_g_X6_rowItem (q := 62) C kF_X6_13 dX6_mean_59 rfl ?_
      refine J_bipush (v := 40) (q := 64) C dX6_mean_62 rfl rfl ?_
      refine J_iload_n (q := 65) C dX6_mean_64 rfl rfl 1 rfl ?_
      refine J_imul (q := 66) C dX6_mean_65 rfl ?_
      refine J_iload (q := 68) C dX6_mean_66 rfl 3 rfl ?_
      refine J_iadd (q := 69) C dX6_mean_68 rfl ?_
      refine JM_iald (q := 70) C isMA_2 h dX6_mean_69 rfl (fun h => ?_)
      refine J_i2l (q := 71) C dX6_mean_70 rfl ?_
      refine J_ladd (q := 72) C dX6_mean_71 rfl ?_
      refine J_nml h (fun y3 ey3 h => ?_)
      refine J_lstore_n (q := 73) C dX6_mean_72 rfl rfl (by decide) rfl ?_
      refine jn_elim h (fun y4 ey4 h => ?_)
      refine J_iinc (v := y4) (q := 76) C dX6_mean_73 rfl 3 rfl (by rw [ey4]; rfl) (by decide) rfl ?_
      refine J_goto (tgt := 46) C dX6_mean_76 (by decide) ?_
      refine J_sub [2, 3, 1, 0] rfl ?_
      exact ih _ _ h
set_option maxHeartbeats 4000000 in
set_option maxRecDepth 100000 in
theorem c_X6_mean {l : Launch} {D : va_G} {cI cR : ClassId} {ad : Nat → Nat} (hap : apN 16 ad) {i1 : Int32} {σ : Sg} {r : Int32} {σo : Sg}  (h : f_X6_mean i1 σ = some (r, σo)) : MI l D (tysC cI cR) 16 ad (celM cI ad) okM yX6_mean cX6_mean 5 .int 2 52 [.ref (ad 0), .int i1] σ r σo := by
  unfold f_X6_mean at h
  refine entI "WokenYearsModel" hap (by decide +kernel) rfl (Nat.le_of_ble_eq_true rfl) (fun p e s m args below meth c C => ?_)
  refine J_sub (lv' := [(0, .ref (ad 0)), (1, .int i1)]) [0, 1] rfl ?_
  refine J_iload_n (q := 1) C dX6_mean_0 rfl rfl 1 rfl ?_
  refine J_iconst (v := 0 ) (q := 2) C dX6_mean_1 rfl rfl ?_
  refine J_iconst (v := 5 ) (q := 3) C dX6_mean_2 rfl rfl ?_
  obtain ⟨r1, ec1, h⟩ := bnd_of h
  refine J_callIS (q := 6) (As := [.int i1, .int (0 : Int32), .int (5 : Int32)]) C (c_X6_in hap  ec1) ok_X6_in kM_X6_69 rfl rfl rfl ⟨Nat.le_of_ble_eq_true rfl, Nat.le_of_ble_eq_true rfl⟩ (Nat.le_of_ble_eq_true rfl) dX6_mean_3 rfl ?_
  refine J_ifne_b (tgt := 11) (q := 9) C dX6_mean_6 rfl (by decide) h (fun _ h => ?_) (fun _ h => ?_)
  · refine J_aload_n (q := 12) C dX6_mean_11 rfl rfl 0 rfl ?_
    refine JM_g_X6_rowSize (q := 15) C kF_X6_7 dX6_mean_12 rfl ?_
    refine J_iload_n (q := 16) C dX6_mean_15 rfl rfl 1 rfl ?_
    refine JM_iald (q := 17) C isMA_1 h dX6_mean_16 rfl (fun h => ?_)
    refine J_if_ge (tgt := 26) (q := 20) C dX6_mean_17 rfl (by decide) h (fun _ h => ?_) (fun _ h => ?_)
    · refine J_aload_n (q := 27) C dX6_mean_26 rfl rfl 0 rfl ?_
      refine JM_g_X6_rowSize (q := 30) C kF_X6_7 dX6_mean_27 rfl ?_
      refine J_iload_n (q := 31) C dX6_mean_30 rfl rfl 1 rfl ?_
      refine JM_iald (q := 32) C isMA_1 h dX6_mean_31 rfl (fun h => ?_)
      refine J_if_ne (tgt := 41) (q := 35) C dX6_mean_32 rfl (by decide) h (fun _ h => ?_) (fun _ h => ?_)
      · refine J_aload_n (q := 36) C dX6_mean_35 rfl rfl 0 rfl ?_
        refine J_iconst (v := 4 ) (q := 37) C dX6_mean_36 rfl rfl ?_
        obtain ⟨r2, σ2, ec2, h⟩ := bnd2_of h
        refine J_callIV (q := 40) (As := [.int (4 : Int32)]) C (c_X6_finds hap  ec2) ok_X6_finds kM_X6_73 (by decide) rfl rfl rfl rfl rfl rfl ⟨Nat.le_of_ble_eq_true rfl, Nat.le_of_ble_eq_true rfl⟩ (Nat.le_of_ble_eq_true rfl) dX6_mean_37 rfl ?_
        obtain ⟨rfl, rfl⟩ := Prod.mk.inj (Option.some.inj h)
        exact J_iret C dX6_mean_40
      · refine J_lconst (v := 0) (q := 42) C dX6_mean_41 rfl rfl ?_
        refine J_lstore_n (q := 43) C dX6_mean_42 rfl rfl (by decide) rfl ?_
        refine J_iconst (v := 0 ) (q := 44) C dX6_mean_43 rfl rfl ?_
        refine J_istore (q := 46) C dX6_mean_44 rfl (by decide) rfl ?_
        refine J_sub [2, 3, 1, 0] rfl ?_
        refine cl_X6_mean_46 hap C r σo  (fun v2_79 h => ?_) FU _ _ h
        · refine J_aload_n (q := 80) C dX6_mean_79 rfl rfl 0 rfl ?_
          refine J_lload_n (q := 81) C dX6_mean_80 rfl rfl 2 rfl ?_
          refine J_aload_n (q := 82) C dX6_mean_81 rfl rfl 0 rfl ?_
          refine JM_g_X6_rowSize (q := 85) C kF_X6_7 dX6_mean_82 rfl ?_
          refine J_iload_n (q := 86) C dX6_mean_85 rfl rfl 1 rfl ?_
          refine JM_iald (q := 87) C isMA_1 h dX6_mean_86 rfl (fun h => ?_)
          refine J_i2l (q := 88) C dX6_mean_87 rfl ?_
          obtain ⟨nz, h⟩ := ckn_of h
          refine J_ldiv (q := 89) C dX6_mean_88 rfl nz ?_
          refine J_l2i (q := 90) C dX6_mean_89 rfl ?_
          obtain ⟨r5, σ5, ec5, h⟩ := bnd2_of h
          refine J_callIV (q := 93) (As := [.int ((v2_79 / ((gA σ 1 i1.toNatClampNeg).toInt64)).toInt32)]) C (c_X6_tells hap  ec5) ok_X6_tells kM_X6_81 (by decide) rfl rfl rfl rfl rfl rfl ⟨Nat.le_of_ble_eq_true rfl, Nat.le_of_ble_eq_true rfl⟩ (Nat.le_of_ble_eq_true rfl) dX6_mean_90 rfl ?_
          obtain ⟨rfl, rfl⟩ := Prod.mk.inj (Option.some.inj h)
          exact J_iret C dX6_mean_93
    · refine J_aload_n (q := 21) C dX6_mean_20 rfl rfl 0 rfl ?_
      refine J_iconst (v := 1 ) (q := 22) C dX6_mean_21 rfl rfl ?_
      obtain ⟨r6, σ6, ec6, h⟩ := bnd2_of h
      refine J_callIV (q := 25) (As := [.int (1 : Int32)]) C (c_X6_finds hap  ec6) ok_X6_finds kM_X6_73 (by decide) rfl rfl rfl rfl rfl rfl ⟨Nat.le_of_ble_eq_true rfl, Nat.le_of_ble_eq_true rfl⟩ (Nat.le_of_ble_eq_true rfl) dX6_mean_22 rfl ?_
      obtain ⟨rfl, rfl⟩ := Prod.mk.inj (Option.some.inj h)
      exact J_iret C dX6_mean_25
  · refine J_iconst (v := -1 ) (q := 10) C dX6_mean_9 rfl rfl ?_
    obtain ⟨rfl, rfl⟩ := Prod.mk.inj (Option.some.inj h)
    exact J_iret C dX6_mean_10
set_option maxHeartbeats 4000000 in
set_option maxRecDepth 100000 in
theorem cl_X6_text_36 {p : Program} {l : Launch} {e : Env} {s : State} {m : MethodId} {args : Array Value} {below : List Frame} {meth : Method} {c : Code} {D : va_G} {cI cR : ClassId} {ad : Nat → Nat} (hap : apN 16 ad) (C : Cx p s m args meth c cX6_text 4 "WokenYearsModel" D (tysC cI cR) 16 ad (some .int)) {a1 : Int32} {a2 : Int32} {k61 : Sg → Option (Int32 × Sg)} (r : Int32) (σo : Sg)  (hk61 : ∀ (σ1 : Sg), k61 σ1 = some (r, σo) → Jd p l e (rmF 2 52) s m args below meth c D 16 ad (celM cI ad) okM 4 (MQ below (QI D (tysC cI cR) 16 ad (celM cI ad) okM r σo) args s 0 0 (inA 16 ad)) 61 [(2, .int a2)] [] σ1) : ∀ (n : Nat) (x3 : Int32) (σx : Sg), l_X6_text_36 a1 a2 k61 n x3 σx = some (r, σo) → Jd p l e (rmF 2 52) s m args below meth c D 16 ad (celM cI ad) okM 4 (MQ below (QI D (tysC cI cR) 16 ad (celM cI ad) okM r σo) args s 0 0 (inA 16 ad)) 36 [(0, .ref (ad 0)), (1, .int a1), (2, .int a2), (3, .int x3)] [] σx := by
  intro n
  induction n with
  | zero => intro x3 σx h; cases h
  | succ n ih =>
    intro x3 σx h
    unfold l_X6_text_36 at h
    refine J_iload_n (q := 37) C dX6_text_36 rfl rfl 3 rfl ?_
    refine J_bipush (v := 60) (q := 39) C dX6_text_37 rfl rfl ?_
    refine J_icmp_ge (tgt := 61) (q := 42) C dX6_text_39 rfl (by decide) h (fun _ h => ?_) (fun _ h => ?_)
    · refine J_sub [2] rfl ?_
      exact hk61 _ h
    · refine J_aload_n (q := 43) C dX6_text_42 rfl rfl 0 rfl ?_
      refine JM_g_X6_textItem (q := 46) C kF_X6_19 dX6_text_43 rfl ?_
      refine J_bipush (v := 60) (q := 48) C dX6_text_46 rfl rfl ?_
      refine J_iload_n (q := 49) C dX6_text_48 rfl rfl 1 rfl ?_
      refine J_imul (q := 50) C dX6_text_49 rfl ?_
      refine J_iload_n (q := 51) C dX6_text_50 rfl rfl 3 rfl ?_
      refine J_iadd (q := 52) C dX6_text_51 rfl ?_
      refine J_bipush (v := 32) (q := 54) C dX6_text_52 rfl rfl ?_
      refine JM_iast (q := 55) C isMA_4 h dX6_text_54 rfl (fun h => ?_)
      refine jn_elim h (fun σ3 eσ3 h => ?_)
      rw [← eσ3]
      refine jn_elim h (fun y4 ey4 h => ?_)
      refine J_iinc (v := y4) (q := 58) C dX6_text_55 rfl 3 rfl (by rw [ey4]; rfl) (by decide) rfl ?_
      refine J_goto (tgt := 36) C dX6_text_58 (by decide) ?_
      refine J_sub [1, 2, 3, 0] rfl ?_
      exact ih _ _ h
set_option maxHeartbeats 4000000 in
set_option maxRecDepth 100000 in
theorem c_X6_text {l : Launch} {D : va_G} {cI cR : ClassId} {ad : Nat → Nat} (hap : apN 16 ad) {i1 : Int32} {i2 : Int32} {σ : Sg} {r : Int32} {σo : Sg}  (h : f_X6_text i1 i2 σ = some (r, σo)) : MI l D (tysC cI cR) 16 ad (celM cI ad) okM yX6_text cX6_text 4 .int 2 52 [.ref (ad 0), .int i1, .int i2] σ r σo := by
  unfold f_X6_text at h
  refine entI "WokenYearsModel" hap (by decide +kernel) rfl (Nat.le_of_ble_eq_true rfl) (fun p e s m args below meth c C => ?_)
  refine J_sub (lv' := [(0, .ref (ad 0)), (1, .int i1), (2, .int i2)]) [0, 1, 2] rfl ?_
  refine J_iload_n (q := 1) C dX6_text_0 rfl rfl 1 rfl ?_
  refine J_iconst (v := 0 ) (q := 2) C dX6_text_1 rfl rfl ?_
  refine J_iconst (v := 3 ) (q := 3) C dX6_text_2 rfl rfl ?_
  obtain ⟨r1, ec1, h⟩ := bnd_of h
  refine J_callIS (q := 6) (As := [.int i1, .int (0 : Int32), .int (3 : Int32)]) C (c_X6_in hap  ec1) ok_X6_in kM_X6_69 rfl rfl rfl ⟨Nat.le_of_ble_eq_true rfl, Nat.le_of_ble_eq_true rfl⟩ (Nat.le_of_ble_eq_true rfl) dX6_text_3 rfl ?_
  refine J_ifeq_b (tgt := 15) (q := 9) C dX6_text_6 rfl (by decide) h (fun _ h => ?_) (fun _ h => ?_)
  · refine J_iload_n (q := 10) C dX6_text_9 rfl rfl 2 rfl ?_
    refine J_bipush (v := 60) (q := 12) C dX6_text_10 rfl rfl ?_
    refine J_icmp_le (tgt := 17) (q := 15) C dX6_text_12 rfl (by decide) h (fun _ h => ?_) (fun _ h => ?_)
    · refine J_iload_n (q := 18) C dX6_text_17 rfl rfl 2 rfl ?_
      refine J_if_ge (tgt := 27) (q := 21) C dX6_text_18 rfl (by decide) h (fun _ h => ?_) (fun _ h => ?_)
      · refine J_aload_n (q := 28) C dX6_text_27 rfl rfl 0 rfl ?_
        refine JM_g_X6_textSize (q := 31) C kF_X6_16 dX6_text_28 rfl ?_
        refine J_iload_n (q := 32) C dX6_text_31 rfl rfl 1 rfl ?_
        refine J_iload_n (q := 33) C dX6_text_32 rfl rfl 2 rfl ?_
        refine JM_iast (q := 34) C isMA_3 h dX6_text_33 rfl (fun h => ?_)
        refine jn_elim h (fun σ2 eσ2 h => ?_)
        rw [← eσ2]
        refine J_iconst (v := 0 ) (q := 35) C dX6_text_34 rfl rfl ?_
        refine J_istore_n (q := 36) C dX6_text_35 rfl rfl (by decide) rfl ?_
        refine J_sub [1, 2, 3, 0] rfl ?_
        refine cl_X6_text_36 hap C r σo  (fun σv61 h => ?_) FU _ _ h
        · refine J_iload_n (q := 62) C dX6_text_61 rfl rfl 0 rfl ?_
          obtain ⟨rfl, rfl⟩ := Prod.mk.inj (Option.some.inj h)
          exact J_iret C dX6_text_62
      · refine J_aload_n (q := 22) C dX6_text_21 rfl rfl 0 rfl ?_
        refine J_iconst (v := 5 ) (q := 23) C dX6_text_22 rfl rfl ?_
        obtain ⟨r5, σ5, ec5, h⟩ := bnd2_of h
        refine J_callIV (q := 26) (As := [.int (5 : Int32)]) C (c_X6_finds hap  ec5) ok_X6_finds kM_X6_73 (by decide) rfl rfl rfl rfl rfl rfl ⟨Nat.le_of_ble_eq_true rfl, Nat.le_of_ble_eq_true rfl⟩ (Nat.le_of_ble_eq_true rfl) dX6_text_23 rfl ?_
        obtain ⟨rfl, rfl⟩ := Prod.mk.inj (Option.some.inj h)
        exact J_iret C dX6_text_26
    · refine J_iconst (v := -1 ) (q := 16) C dX6_text_15 rfl rfl ?_
      obtain ⟨rfl, rfl⟩ := Prod.mk.inj (Option.some.inj h)
      exact J_iret C dX6_text_16
  · refine J_iconst (v := -1 ) (q := 16) C dX6_text_15 rfl rfl ?_
    obtain ⟨rfl, rfl⟩ := Prod.mk.inj (Option.some.inj h)
    exact J_iret C dX6_text_16
set_option maxHeartbeats 4000000 in
set_option maxRecDepth 100000 in
theorem c_X6_put {l : Launch} {D : va_G} {cI cR : ClassId} {ad : Nat → Nat} (hap : apN 16 ad) {i1 : Int32} {i2 : Int32} {i3 : Int32} {σ : Sg} {r : Int32} {σo : Sg}  (h : f_X6_put i1 i2 i3 σ = some (r, σo)) : MI l D (tysC cI cR) 16 ad (celM cI ad) okM yX6_put cX6_put 5 .int 2 52 [.ref (ad 0), .int i1, .int i2, .int i3] σ r σo := by
  unfold f_X6_put at h
  refine entI "WokenYearsModel" hap (by decide +kernel) rfl (Nat.le_of_ble_eq_true rfl) (fun p e s m args below meth c C => ?_)
  refine J_sub (lv' := [(0, .ref (ad 0)), (1, .int i1), (2, .int i2), (3, .int i3)]) [0, 1, 2, 3] rfl ?_
  refine J_iload_n (q := 1) C dX6_put_0 rfl rfl 1 rfl ?_
  refine J_iconst (v := 0 ) (q := 2) C dX6_put_1 rfl rfl ?_
  refine J_iconst (v := 3 ) (q := 3) C dX6_put_2 rfl rfl ?_
  obtain ⟨r1, ec1, h⟩ := bnd_of h
  refine J_callIS (q := 6) (As := [.int i1, .int (0 : Int32), .int (3 : Int32)]) C (c_X6_in hap  ec1) ok_X6_in kM_X6_69 rfl rfl rfl ⟨Nat.le_of_ble_eq_true rfl, Nat.le_of_ble_eq_true rfl⟩ (Nat.le_of_ble_eq_true rfl) dX6_put_3 rfl ?_
  refine J_ifne_b (tgt := 11) (q := 9) C dX6_put_6 rfl (by decide) h (fun _ h => ?_) (fun _ h => ?_)
  · refine J_aload_n (q := 12) C dX6_put_11 rfl rfl 0 rfl ?_
    refine JM_g_X6_textSize (q := 15) C kF_X6_16 dX6_put_12 rfl ?_
    refine J_iload_n (q := 16) C dX6_put_15 rfl rfl 1 rfl ?_
    refine JM_iald (q := 17) C isMA_3 h dX6_put_16 rfl (fun h => ?_)
    refine J_if_ge (tgt := 26) (q := 20) C dX6_put_17 rfl (by decide) h (fun _ h => ?_) (fun _ h => ?_)
    · refine J_iload_n (q := 27) C dX6_put_26 rfl rfl 2 rfl ?_
      refine J_iconst (v := 0 ) (q := 28) C dX6_put_27 rfl rfl ?_
      refine J_aload_n (q := 29) C dX6_put_28 rfl rfl 0 rfl ?_
      refine JM_g_X6_textSize (q := 32) C kF_X6_16 dX6_put_29 rfl ?_
      refine J_iload_n (q := 33) C dX6_put_32 rfl rfl 1 rfl ?_
      refine JM_iald (q := 34) C isMA_3 h dX6_put_33 rfl (fun h => ?_)
      refine J_iconst (v := 1 ) (q := 35) C dX6_put_34 rfl rfl ?_
      refine J_isub (q := 36) C dX6_put_35 rfl ?_
      obtain ⟨r2, ec2, h⟩ := bnd_of h
      refine J_callIS (q := 39) (As := [.int i2, .int (0 : Int32), .int ((gA σ 3 i1.toNatClampNeg) - (1 : Int32))]) C (c_X6_in hap  ec2) ok_X6_in kM_X6_69 rfl rfl rfl ⟨Nat.le_of_ble_eq_true rfl, Nat.le_of_ble_eq_true rfl⟩ (Nat.le_of_ble_eq_true rfl) dX6_put_36 rfl ?_
      refine J_ifne_b (tgt := 48) (q := 42) C dX6_put_39 rfl (by decide) h (fun _ h => ?_) (fun _ h => ?_)
      · refine J_aload_n (q := 49) C dX6_put_48 rfl rfl 0 rfl ?_
        refine JM_g_X6_textItem (q := 52) C kF_X6_19 dX6_put_49 rfl ?_
        refine J_bipush (v := 60) (q := 54) C dX6_put_52 rfl rfl ?_
        refine J_iload_n (q := 55) C dX6_put_54 rfl rfl 1 rfl ?_
        refine J_imul (q := 56) C dX6_put_55 rfl ?_
        refine J_iload_n (q := 57) C dX6_put_56 rfl rfl 2 rfl ?_
        refine J_iadd (q := 58) C dX6_put_57 rfl ?_
        refine JM_iald (q := 59) C isMA_4 h dX6_put_58 rfl (fun h => ?_)
        refine J_nmi h (fun y3 ey3 h => ?_)
        refine J_istore (q := 61) C dX6_put_59 rfl (by decide) rfl ?_
        refine J_aload_n (q := 62) C dX6_put_61 rfl rfl 1 rfl ?_
        refine JM_g_X6_textItem (q := 65) C kF_X6_19 dX6_put_62 rfl ?_
        refine J_bipush (v := 60) (q := 67) C dX6_put_65 rfl rfl ?_
        refine J_iload_n (q := 68) C dX6_put_67 rfl rfl 2 rfl ?_
        refine J_imul (q := 69) C dX6_put_68 rfl ?_
        refine J_iload_n (q := 70) C dX6_put_69 rfl rfl 3 rfl ?_
        refine J_iadd (q := 71) C dX6_put_70 rfl ?_
        refine J_iload_n (q := 72) C dX6_put_71 rfl rfl 4 rfl ?_
        refine J_i2b (q := 73) C dX6_put_72 rfl ?_
        refine JM_iast (q := 74) C isMA_4 h dX6_put_73 rfl (fun h => ?_)
        refine jn_elim h (fun σ4 eσ4 h => ?_)
        rw [← eσ4]
        refine J_iload (q := 76) C dX6_put_74 rfl 0 rfl ?_
        refine J_sipush (v := 1000) (q := 79) C dX6_put_76 rfl rfl ?_
        refine J_iadd (q := 80) C dX6_put_79 rfl ?_
        obtain ⟨rfl, rfl⟩ := Prod.mk.inj (Option.some.inj h)
        exact J_iret C dX6_put_80
      · refine J_aload_n (q := 43) C dX6_put_42 rfl rfl 0 rfl ?_
        refine J_iconst (v := 2 ) (q := 44) C dX6_put_43 rfl rfl ?_
        obtain ⟨r5, σ5, ec5, h⟩ := bnd2_of h
        refine J_callIV (q := 47) (As := [.int (2 : Int32)]) C (c_X6_finds hap  ec5) ok_X6_finds kM_X6_73 (by decide) rfl rfl rfl rfl rfl rfl ⟨Nat.le_of_ble_eq_true rfl, Nat.le_of_ble_eq_true rfl⟩ (Nat.le_of_ble_eq_true rfl) dX6_put_44 rfl ?_
        obtain ⟨rfl, rfl⟩ := Prod.mk.inj (Option.some.inj h)
        exact J_iret C dX6_put_47
    · refine J_aload_n (q := 21) C dX6_put_20 rfl rfl 0 rfl ?_
      refine J_iconst (v := 1 ) (q := 22) C dX6_put_21 rfl rfl ?_
      obtain ⟨r6, σ6, ec6, h⟩ := bnd2_of h
      refine J_callIV (q := 25) (As := [.int (1 : Int32)]) C (c_X6_finds hap  ec6) ok_X6_finds kM_X6_73 (by decide) rfl rfl rfl rfl rfl rfl ⟨Nat.le_of_ble_eq_true rfl, Nat.le_of_ble_eq_true rfl⟩ (Nat.le_of_ble_eq_true rfl) dX6_put_22 rfl ?_
      obtain ⟨rfl, rfl⟩ := Prod.mk.inj (Option.some.inj h)
      exact J_iret C dX6_put_25
  · refine J_iconst (v := -1 ) (q := 10) C dX6_put_9 rfl rfl ?_
    obtain ⟨rfl, rfl⟩ := Prod.mk.inj (Option.some.inj h)
    exact J_iret C dX6_put_10
set_option maxHeartbeats 4000000 in
set_option maxRecDepth 100000 in
theorem c_X6_letterAt {l : Launch} {D : va_G} {cI cR : ClassId} {ad : Nat → Nat} (hap : apN 16 ad) {i1 : Int32} {σ : Sg} {r : Int32}  (h : f_X6_letterAt i1 σ = some r) : MI l D (tysC cI cR) 16 ad (celM cI ad) okM yX6_letterAt cX6_letterAt 2 .int 1 30 [.ref (ad 0), .int i1] σ r σ := by
  unfold f_X6_letterAt at h
  refine entI "WokenYearsModel" hap (by decide +kernel) rfl (Nat.le_of_ble_eq_true rfl) (fun p e s m args below meth c C => ?_)
  refine J_sub (lv' := [(0, .ref (ad 0)), (1, .int i1)]) [0, 1] rfl ?_
  refine J_iload_n (q := 1) C dX6_letterAt_0 rfl rfl 1 rfl ?_
  refine J_aload_n (q := 2) C dX6_letterAt_1 rfl rfl 0 rfl ?_
  refine JM_g_X6_all (q := 5) C kF_X6_87 dX6_letterAt_2 rfl ?_
  refine J_icmp_ge (tgt := 22) (q := 8) C dX6_letterAt_5 rfl (by decide) h (fun _ h => ?_) (fun _ h => ?_)
  · refine J_sipush (v := -1000) (q := 25) C dX6_letterAt_22 rfl rfl ?_
    obtain rfl := Option.some.inj h
    exact J_iret C dX6_letterAt_25
  · refine J_aload_n (q := 9) C dX6_letterAt_8 rfl rfl 0 rfl ?_
    refine JM_g_X6_textItem (q := 12) C kF_X6_19 dX6_letterAt_9 rfl ?_
    refine J_aload_n (q := 13) C dX6_letterAt_12 rfl rfl 0 rfl ?_
    refine JM_g_X6_from (q := 16) C kF_X6_90 dX6_letterAt_13 rfl ?_
    refine J_iload_n (q := 17) C dX6_letterAt_16 rfl rfl 1 rfl ?_
    refine J_iadd (q := 18) C dX6_letterAt_17 rfl ?_
    refine JM_iald (q := 19) C isMA_4 h dX6_letterAt_18 rfl (fun h => ?_)
    refine J_goto (tgt := 25) C dX6_letterAt_19 (by decide) ?_
    obtain rfl := Option.some.inj h
    exact J_iret C dX6_letterAt_25
set_option maxHeartbeats 4000000 in
set_option maxRecDepth 100000 in
theorem c_X6_figure {l : Launch} {D : va_G} {cI cR : ClassId} {ad : Nat → Nat} (hap : apN 16 ad) {i1 : Int32} {i2 : Int32} {σ : Sg} {r : Int32} {σo : Sg}  (h : f_X6_figure i1 i2 σ = some (r, σo)) : MI l D (tysC cI cR) 16 ad (celM cI ad) okM yX6_figure cX6_figure 4 .int 2 52 [.ref (ad 0), .int i1, .int i2] σ r σo := by
  unfold f_X6_figure at h
  refine entI "WokenYearsModel" hap (by decide +kernel) rfl (Nat.le_of_ble_eq_true rfl) (fun p e s m args below meth c C => ?_)
  refine J_sub (lv' := [(0, .ref (ad 0)), (1, .int i1), (2, .int i2)]) [0, 1, 2] rfl ?_
  refine J_aload_n (q := 1) C dX6_figure_0 rfl rfl 0 rfl ?_
  refine J_aload_n (q := 2) C dX6_figure_1 rfl rfl 0 rfl ?_
  refine JM_g_X6_position (q := 5) C kF_X6_93 dX6_figure_2 rfl ?_
  obtain ⟨r1, ec1, h⟩ := bnd_of h
  refine J_callIV (q := 8) (As := [.int (gS σ 9)]) C (c_X6_letterAt hap  ec1) ok_X6_letterAt kM_X6_96 (by decide) rfl rfl rfl rfl rfl rfl ⟨Nat.le_of_ble_eq_true rfl, Nat.le_of_ble_eq_true rfl⟩ (Nat.le_of_ble_eq_true rfl) dX6_figure_5 rfl ?_
  refine J_bipush (v := 48) (q := 10) C dX6_figure_8 rfl rfl ?_
  refine J_isub (q := 11) C dX6_figure_10 rfl ?_
  refine J_nmi h (fun y2 ey2 h => ?_)
  refine J_istore_n (q := 12) C dX6_figure_11 rfl rfl (by decide) rfl ?_
  refine J_iload_n (q := 13) C dX6_figure_12 rfl rfl 0 rfl ?_
  refine J_iload_n (q := 14) C dX6_figure_13 rfl rfl 2 rfl ?_
  refine J_iload_n (q := 15) C dX6_figure_14 rfl rfl 3 rfl ?_
  obtain ⟨r3, ec3, h⟩ := bnd_of h
  refine J_callIS (q := 18) (As := [.int y2, .int i1, .int i2]) C (c_X6_in hap  ec3) ok_X6_in kM_X6_69 rfl rfl rfl ⟨Nat.le_of_ble_eq_true rfl, Nat.le_of_ble_eq_true rfl⟩ (Nat.le_of_ble_eq_true rfl) dX6_figure_15 rfl ?_
  refine J_ifne_b (tgt := 23) (q := 21) C dX6_figure_18 rfl (by decide) h (fun _ h => ?_) (fun _ h => ?_)
  · refine J_aload_n (q := 24) C dX6_figure_23 rfl rfl 1 rfl ?_
    refine J_dup (q := 25) C dX6_figure_24 rfl rfl ?_
    refine JM_g_X6_position (q := 28) C kF_X6_93 dX6_figure_25 rfl ?_
    refine J_iconst (v := 1 ) (q := 29) C dX6_figure_28 rfl rfl ?_
    refine J_iadd (q := 30) C dX6_figure_29 rfl ?_
    refine JM_p_X6_position (q := 33) C kF_X6_93 dX6_figure_30 rfl ?_
    refine jn_elim h (fun σ4 eσ4 h => ?_)
    rw [← eσ4]
    refine J_iload_n (q := 34) C dX6_figure_33 rfl rfl 0 rfl ?_
    obtain ⟨rfl, rfl⟩ := Prod.mk.inj (Option.some.inj h)
    exact J_iret C dX6_figure_34
  · refine J_iconst (v := -1 ) (q := 22) C dX6_figure_21 rfl rfl ?_
    obtain ⟨rfl, rfl⟩ := Prod.mk.inj (Option.some.inj h)
    exact J_iret C dX6_figure_22
set_option maxHeartbeats 4000000 in
set_option maxRecDepth 100000 in
theorem cl_X6_skip_0 {p : Program} {l : Launch} {e : Env} {s : State} {m : MethodId} {args : Array Value} {below : List Frame} {meth : Method} {c : Code} {D : va_G} {cI cR : ClassId} {ad : Nat → Nat} (hap : apN 16 ad) (C : Cx p s m args meth c cX6_skip 1 "WokenYearsModel" D (tysC cI cR) 16 ad (none)) {k26 : Sg → Option Sg} (σo : Sg)  (hk26 : ∀ (σ1 : Sg), k26 σ1 = some σo → Jd p l e (rmF 2 51) s m args below meth c D 16 ad (celM cI ad) okM 1 (MQ below (QV D (tysC cI cR) 16 ad (celM cI ad) okM σo) args s 0 0 (inA 16 ad)) 26 [] [] σ1) : ∀ (n : Nat) (σx : Sg), l_X6_skip_0 k26 n σx = some σo → Jd p l e (rmF 2 51) s m args below meth c D 16 ad (celM cI ad) okM 1 (MQ below (QV D (tysC cI cR) 16 ad (celM cI ad) okM σo) args s 0 0 (inA 16 ad)) 0 [(0, .ref (ad 0))] [] σx := by
  intro n
  induction n with
  | zero => intro σx h; cases h
  | succ n ih =>
    intro σx h
    unfold l_X6_skip_0 at h
    refine J_aload_n (q := 1) C dX6_skip_0 rfl rfl 0 rfl ?_
    refine J_aload_n (q := 2) C dX6_skip_1 rfl rfl 0 rfl ?_
    refine JM_g_X6_position (q := 5) C kF_X6_93 dX6_skip_2 rfl ?_
    obtain ⟨r1, ec1, h⟩ := bnd_of h
    refine J_callIV (q := 8) (As := [.int (gS σx 9)]) C (c_X6_letterAt hap  ec1) ok_X6_letterAt kM_X6_96 (by decide) rfl rfl rfl rfl rfl rfl ⟨Nat.le_of_ble_eq_true rfl, Nat.le_of_ble_eq_true rfl⟩ (Nat.le_of_ble_eq_true rfl) dX6_skip_5 rfl ?_
    refine J_bipush (v := 32) (q := 10) C dX6_skip_8 rfl rfl ?_
    refine J_icmp_ne (tgt := 26) (q := 13) C dX6_skip_10 rfl (by decide) h (fun _ h => ?_) (fun _ h => ?_)
    · refine J_aload_n (q := 14) C dX6_skip_13 rfl rfl 0 rfl ?_
      refine J_dup (q := 15) C dX6_skip_14 rfl rfl ?_
      refine JM_g_X6_position (q := 18) C kF_X6_93 dX6_skip_15 rfl ?_
      refine J_iconst (v := 1 ) (q := 19) C dX6_skip_18 rfl rfl ?_
      refine J_iadd (q := 20) C dX6_skip_19 rfl ?_
      refine JM_p_X6_position (q := 23) C kF_X6_93 dX6_skip_20 rfl ?_
      refine jn_elim h (fun σ2 eσ2 h => ?_)
      rw [← eσ2]
      refine J_goto (tgt := 0) C dX6_skip_23 (by decide) ?_
      exact ih _ h
    · refine J_sub [] rfl ?_
      exact hk26 _ h
set_option maxHeartbeats 4000000 in
set_option maxRecDepth 100000 in
theorem c_X6_skip {l : Launch} {D : va_G} {cI cR : ClassId} {ad : Nat → Nat} (hap : apN 16 ad)  {σ : Sg} {σo : Sg}  (h : f_X6_skip σ = some σo) : MV l D (tysC cI cR) 16 ad (celM cI ad) okM yX6_skip cX6_skip 1 2 51 [.ref (ad 0)] σ σo := by
  unfold f_X6_skip at h
  refine entV "WokenYearsModel" hap (by decide +kernel) rfl (Nat.le_of_ble_eq_true rfl) (fun p e s m args below meth c C => ?_)
  refine J_sub (lv' := [(0, .ref (ad 0))]) [0] rfl ?_
  refine cl_X6_skip_0 hap C σo  (fun σv26 h => ?_) FU _ h
  · obtain rfl := Option.some.inj h
    exact J_vret C dX6_skip_26
set_option maxHeartbeats 4000000 in
set_option maxRecDepth 100000 in
theorem c_X6_sortBy {l : Launch} {D : va_G} {cI cR : ClassId} {ad : Nat → Nat} (hap : apN 16 ad) {i0 : Int32} {σ : Sg} {r : Int32}  (h : f_X6_sortBy i0 = some r) : MI l D (tysC cI cR) 16 ad (celM cI ad) okM yX6_sortBy cX6_sortBy 1 .int 1 30 [.int i0] σ r σ := by
  unfold f_X6_sortBy at h
  refine entI "WokenYearsModel" hap (by decide +kernel) rfl (Nat.le_of_ble_eq_true rfl) (fun p e s m args below meth c C => ?_)
  refine J_sub (lv' := [(0, .int i0)]) [0] rfl ?_
  refine J_iload_n (q := 1) C dX6_sortBy_0 rfl rfl 0 rfl ?_
  refine J_bipush (v := 104) (q := 3) C dX6_sortBy_1 rfl rfl ?_
  refine J_icmp_ne (tgt := 10) (q := 6) C dX6_sortBy_3 rfl (by decide) h (fun _ h => ?_) (fun _ h => ?_)
  · refine J_iconst (v := 0 ) (q := 7) C dX6_sortBy_6 rfl rfl ?_
    refine J_goto (tgt := 61) C dX6_sortBy_7 (by decide) ?_
    obtain rfl := Option.some.inj h
    exact J_iret C dX6_sortBy_61
  · refine J_iload_n (q := 11) C dX6_sortBy_10 rfl rfl 0 rfl ?_
    refine J_bipush (v := 118) (q := 13) C dX6_sortBy_11 rfl rfl ?_
    refine J_icmp_ne (tgt := 20) (q := 16) C dX6_sortBy_13 rfl (by decide) h (fun _ h => ?_) (fun _ h => ?_)
    · refine J_iconst (v := 1 ) (q := 17) C dX6_sortBy_16 rfl rfl ?_
      refine J_goto (tgt := 61) C dX6_sortBy_17 (by decide) ?_
      obtain rfl := Option.some.inj h
      exact J_iret C dX6_sortBy_61
    · refine J_iload_n (q := 21) C dX6_sortBy_20 rfl rfl 0 rfl ?_
      refine J_bipush (v := 114) (q := 23) C dX6_sortBy_21 rfl rfl ?_
      refine J_icmp_ne (tgt := 30) (q := 26) C dX6_sortBy_23 rfl (by decide) h (fun _ h => ?_) (fun _ h => ?_)
      · refine J_iconst (v := 2 ) (q := 27) C dX6_sortBy_26 rfl rfl ?_
        refine J_goto (tgt := 61) C dX6_sortBy_27 (by decide) ?_
        obtain rfl := Option.some.inj h
        exact J_iret C dX6_sortBy_61
      · refine J_iload_n (q := 31) C dX6_sortBy_30 rfl rfl 0 rfl ?_
        refine J_bipush (v := 100) (q := 33) C dX6_sortBy_31 rfl rfl ?_
        refine J_icmp_ne (tgt := 40) (q := 36) C dX6_sortBy_33 rfl (by decide) h (fun _ h => ?_) (fun _ h => ?_)
        · refine J_iconst (v := 3 ) (q := 37) C dX6_sortBy_36 rfl rfl ?_
          refine J_goto (tgt := 61) C dX6_sortBy_37 (by decide) ?_
          obtain rfl := Option.some.inj h
          exact J_iret C dX6_sortBy_61
        · refine J_iload_n (q := 41) C dX6_sortBy_40 rfl rfl 0 rfl ?_
          refine J_bipush (v := 105) (q := 43) C dX6_sortBy_41 rfl rfl ?_
          refine J_icmp_ne (tgt := 50) (q := 46) C dX6_sortBy_43 rfl (by decide) h (fun _ h => ?_) (fun _ h => ?_)
          · refine J_iconst (v := 4 ) (q := 47) C dX6_sortBy_46 rfl rfl ?_
            refine J_goto (tgt := 61) C dX6_sortBy_47 (by decide) ?_
            obtain rfl := Option.some.inj h
            exact J_iret C dX6_sortBy_61
          · refine J_iload_n (q := 51) C dX6_sortBy_50 rfl rfl 0 rfl ?_
            refine J_bipush (v := 109) (q := 53) C dX6_sortBy_51 rfl rfl ?_
            refine J_icmp_ne (tgt := 60) (q := 56) C dX6_sortBy_53 rfl (by decide) h (fun _ h => ?_) (fun _ h => ?_)
            · refine J_iconst (v := 5 ) (q := 57) C dX6_sortBy_56 rfl rfl ?_
              refine J_goto (tgt := 61) C dX6_sortBy_57 (by decide) ?_
              obtain rfl := Option.some.inj h
              exact J_iret C dX6_sortBy_61
            · refine J_iconst (v := -1 ) (q := 61) C dX6_sortBy_60 rfl rfl ?_
              obtain rfl := Option.some.inj h
              exact J_iret C dX6_sortBy_61
set_option maxHeartbeats 4000000 in
set_option maxRecDepth 100000 in
theorem c_X6_twoFigures {l : Launch} {D : va_G} {cI cR : ClassId} {ad : Nat → Nat} (hap : apN 16 ad)  {σ : Sg} {r : Int32} {σo : Sg}  (h : f_X6_twoFigures σ = some (r, σo)) : MI l D (tysC cI cR) 16 ad (celM cI ad) okM yX6_twoFigures cX6_twoFigures 3 .int 3 75 [.ref (ad 0)] σ r σo := by
  unfold f_X6_twoFigures at h
  refine entI "WokenYearsModel" hap (by decide +kernel) rfl (Nat.le_of_ble_eq_true rfl) (fun p e s m args below meth c C => ?_)
  refine J_sub (lv' := [(0, .ref (ad 0))]) [0] rfl ?_
  refine J_aload_n (q := 1) C dX6_twoFigures_0 rfl rfl 0 rfl ?_
  refine J_iconst (v := 0 ) (q := 2) C dX6_twoFigures_1 rfl rfl ?_
  refine J_bipush (v := 9) (q := 4) C dX6_twoFigures_2 rfl rfl ?_
  obtain ⟨r1, σ1, ec1, h⟩ := bnd2_of h
  refine J_callIV (q := 7) (As := [.int (0 : Int32), .int (9 : Int32)]) C (c_X6_figure hap  ec1) ok_X6_figure kM_X6_99 (by decide) rfl rfl rfl rfl rfl rfl ⟨Nat.le_of_ble_eq_true rfl, Nat.le_of_ble_eq_true rfl⟩ (Nat.le_of_ble_eq_true rfl) dX6_twoFigures_4 rfl ?_
  refine J_istore_n (q := 8) C dX6_twoFigures_7 rfl rfl (by decide) rfl ?_
  refine J_iload_n (q := 9) C dX6_twoFigures_8 rfl rfl 0 rfl ?_
  refine J_if_ge (tgt := 14) (q := 12) C dX6_twoFigures_9 rfl (by decide) h (fun _ h => ?_) (fun _ h => ?_)
  · refine J_aload_n (q := 15) C dX6_twoFigures_14 rfl rfl 1 rfl ?_
    refine J_iconst (v := 0 ) (q := 16) C dX6_twoFigures_15 rfl rfl ?_
    refine J_bipush (v := 9) (q := 18) C dX6_twoFigures_16 rfl rfl ?_
    obtain ⟨r2, σ2, ec2, h⟩ := bnd2_of h
    refine J_callIV (q := 21) (As := [.int (0 : Int32), .int (9 : Int32)]) C (c_X6_figure hap  ec2) ok_X6_figure kM_X6_99 (by decide) rfl rfl rfl rfl rfl rfl ⟨Nat.le_of_ble_eq_true rfl, Nat.le_of_ble_eq_true rfl⟩ (Nat.le_of_ble_eq_true rfl) dX6_twoFigures_18 rfl ?_
    refine J_istore_n (q := 22) C dX6_twoFigures_21 rfl rfl (by decide) rfl ?_
    refine J_iload_n (q := 23) C dX6_twoFigures_22 rfl rfl 0 rfl ?_
    refine J_if_ge (tgt := 30) (q := 26) C dX6_twoFigures_23 rfl (by decide) h (fun _ h => ?_) (fun _ h => ?_)
    · refine J_bipush (v := 10) (q := 32) C dX6_twoFigures_30 rfl rfl ?_
      refine J_iload_n (q := 33) C dX6_twoFigures_32 rfl rfl 1 rfl ?_
      refine J_imul (q := 34) C dX6_twoFigures_33 rfl ?_
      refine J_iload_n (q := 35) C dX6_twoFigures_34 rfl rfl 0 rfl ?_
      refine J_iadd (q := 36) C dX6_twoFigures_35 rfl ?_
      obtain ⟨rfl, rfl⟩ := Prod.mk.inj (Option.some.inj h)
      exact J_iret C dX6_twoFigures_36
    · refine J_iconst (v := -1 ) (q := 27) C dX6_twoFigures_26 rfl rfl ?_
      refine J_goto (tgt := 36) C dX6_twoFigures_27 (by decide) ?_
      obtain ⟨rfl, rfl⟩ := Prod.mk.inj (Option.some.inj h)
      exact J_iret C dX6_twoFigures_36
  · refine J_iconst (v := -1 ) (q := 13) C dX6_twoFigures_12 rfl rfl ?_
    obtain ⟨rfl, rfl⟩ := Prod.mk.inj (Option.some.inj h)
    exact J_iret C dX6_twoFigures_13
set_option maxHeartbeats 4000000 in
set_option maxRecDepth 100000 in
theorem c_X6_isStreet {l : Launch} {D : va_G} {cI cR : ClassId} {ad : Nat → Nat} (hap : apN 16 ad)  {σ : Sg} {r : Bool} {σo : Sg}  (h : f_X6_isStreet σ = some (r, σo)) : MI l D (tysC cI cR) 16 ad (celM cI ad) okM yX6_isStreet cX6_isStreet 1 .boolean 4 97 [.ref (ad 0)] σ (b2i r) σo := by
  unfold f_X6_isStreet at h
  refine entI "WokenYearsModel" hap (by decide +kernel) rfl (Nat.le_of_ble_eq_true rfl) (fun p e s m args below meth c C => ?_)
  refine J_sub (lv' := [(0, .ref (ad 0))]) [0] rfl ?_
  refine J_aload_n (q := 1) C dX6_isStreet_0 rfl rfl 0 rfl ?_
  refine J_aload_n (q := 2) C dX6_isStreet_1 rfl rfl 0 rfl ?_
  refine JM_g_X6_position (q := 5) C kF_X6_93 dX6_isStreet_2 rfl ?_
  obtain ⟨r1, ec1, h⟩ := bnd_of h
  refine J_callIV (q := 8) (As := [.int (gS σ 9)]) C (c_X6_letterAt hap  ec1) ok_X6_letterAt kM_X6_96 (by decide) rfl rfl rfl rfl rfl rfl ⟨Nat.le_of_ble_eq_true rfl, Nat.le_of_ble_eq_true rfl⟩ (Nat.le_of_ble_eq_true rfl) dX6_isStreet_5 rfl ?_
  refine J_bipush (v := 115) (q := 10) C dX6_isStreet_8 rfl rfl ?_
  refine J_icmp_eq (tgt := 15) (q := 13) C dX6_isStreet_10 rfl (by decide) h (fun _ h => ?_) (fun _ h => ?_)
  · refine J_aload_n (q := 16) C dX6_isStreet_15 rfl rfl 0 rfl ?_
    refine J_dup (q := 17) C dX6_isStreet_16 rfl rfl ?_
    refine JM_g_X6_position (q := 20) C kF_X6_93 dX6_isStreet_17 rfl ?_
    refine J_iconst (v := 1 ) (q := 21) C dX6_isStreet_20 rfl rfl ?_
    refine J_iadd (q := 22) C dX6_isStreet_21 rfl ?_
    refine JM_p_X6_position (q := 25) C kF_X6_93 dX6_isStreet_22 rfl ?_
    refine jn_elim h (fun σ2 eσ2 h => ?_)
    rw [← eσ2]
    refine J_aload_n (q := 26) C dX6_isStreet_25 rfl rfl 0 rfl ?_
    refine J_aload_n (q := 27) C dX6_isStreet_26 rfl rfl 0 rfl ?_
    refine J_iconst (v := 0 ) (q := 28) C dX6_isStreet_27 rfl rfl ?_
    refine J_iconst (v := 1 ) (q := 29) C dX6_isStreet_28 rfl rfl ?_
    obtain ⟨r3, σ3, ec3, h⟩ := bnd2_of h
    refine J_callIV (q := 32) (As := [.int (0 : Int32), .int (1 : Int32)]) C (c_X6_figure hap  ec3) ok_X6_figure kM_X6_99 (by decide) rfl rfl rfl rfl rfl rfl ⟨Nat.le_of_ble_eq_true rfl, Nat.le_of_ble_eq_true rfl⟩ (Nat.le_of_ble_eq_true rfl) dX6_isStreet_29 rfl ?_
    refine JM_p_X6_readFrost (q := 35) C kF_X6_102 dX6_isStreet_32 rfl ?_
    refine jn_elim h (fun σ4 eσ4 h => ?_)
    rw [← eσ4]
    refine J_aload_n (q := 36) C dX6_isStreet_35 rfl rfl 0 rfl ?_
    refine JM_g_X6_readFrost (q := 39) C kF_X6_102 dX6_isStreet_36 rfl ?_
    refine J_if_ge (tgt := 44) (q := 42) C dX6_isStreet_39 rfl (by decide) h (fun _ h => ?_) (fun _ h => ?_)
    · refine J_aload_n (q := 45) C dX6_isStreet_44 rfl rfl 0 rfl ?_
      refine J_aload_n (q := 46) C dX6_isStreet_45 rfl rfl 0 rfl ?_
      obtain ⟨r5, σ5, ec5, h⟩ := bnd2_of h
      refine J_callIV (q := 49) (As := []) C (c_X6_twoFigures hap  ec5) ok_X6_twoFigures kM_X6_105 (by decide) rfl rfl rfl rfl rfl rfl ⟨Nat.le_of_ble_eq_true rfl, Nat.le_of_ble_eq_true rfl⟩ (Nat.le_of_ble_eq_true rfl) dX6_isStreet_46 rfl ?_
      refine JM_p_X6_readQuarrel (q := 52) C kF_X6_109 dX6_isStreet_49 rfl ?_
      refine jn_elim h (fun σ6 eσ6 h => ?_)
      rw [← eσ6]
      refine J_aload_n (q := 53) C dX6_isStreet_52 rfl rfl 0 rfl ?_
      refine JM_g_X6_readQuarrel (q := 56) C kF_X6_109 dX6_isStreet_53 rfl ?_
      refine J_if_lt (tgt := 63) (q := 59) C dX6_isStreet_56 rfl (by decide) h (fun _ h => ?_) (fun _ h => ?_)
      · refine J_iconst (v := 0 ) (q := 64) C dX6_isStreet_63 rfl rfl ?_
        obtain ⟨rfl, rfl⟩ := Prod.mk.inj (Option.some.inj h)
        exact J_zret (b := false) C dX6_isStreet_64
      · refine J_iconst (v := 1 ) (q := 60) C dX6_isStreet_59 rfl rfl ?_
        refine J_goto (tgt := 64) C dX6_isStreet_60 (by decide) ?_
        obtain ⟨rfl, rfl⟩ := Prod.mk.inj (Option.some.inj h)
        exact J_zret (b := true) C dX6_isStreet_64
    · refine J_iconst (v := 0 ) (q := 43) C dX6_isStreet_42 rfl rfl ?_
      obtain ⟨rfl, rfl⟩ := Prod.mk.inj (Option.some.inj h)
      exact J_zret (b := false) C dX6_isStreet_43
  · refine J_iconst (v := 0 ) (q := 14) C dX6_isStreet_13 rfl rfl ?_
    obtain ⟨rfl, rfl⟩ := Prod.mk.inj (Option.some.inj h)
    exact J_zret (b := false) C dX6_isStreet_14
set_option maxHeartbeats 4000000 in
set_option maxRecDepth 100000 in
theorem c_X6_isHouseItem {l : Launch} {D : va_G} {cI cR : ClassId} {ad : Nat → Nat} (hap : apN 16 ad)  {σ : Sg} {r : Bool} {σo : Sg}  (h : f_X6_isHouseItem σ = some (r, σo)) : MI l D (tysC cI cR) 16 ad (celM cI ad) okM yX6_isHouseItem cX6_isHouseItem 4 .boolean 4 97 [.ref (ad 0)] σ (b2i r) σo := by
  unfold f_X6_isHouseItem at h
  refine entI "WokenYearsModel" hap (by decide +kernel) rfl (Nat.le_of_ble_eq_true rfl) (fun p e s m args below meth c C => ?_)
  refine J_sub (lv' := [(0, .ref (ad 0))]) [0] rfl ?_
  refine J_aload_n (q := 1) C dX6_isHouseItem_0 rfl rfl 0 rfl ?_
  refine J_aload_n (q := 2) C dX6_isHouseItem_1 rfl rfl 0 rfl ?_
  refine JM_g_X6_position (q := 5) C kF_X6_93 dX6_isHouseItem_2 rfl ?_
  obtain ⟨r1, ec1, h⟩ := bnd_of h
  refine J_callIV (q := 8) (As := [.int (gS σ 9)]) C (c_X6_letterAt hap  ec1) ok_X6_letterAt kM_X6_96 (by decide) rfl rfl rfl rfl rfl rfl ⟨Nat.le_of_ble_eq_true rfl, Nat.le_of_ble_eq_true rfl⟩ (Nat.le_of_ble_eq_true rfl) dX6_isHouseItem_5 rfl ?_
  obtain ⟨r2, ec2, h⟩ := bnd_of h
  refine J_callIS (q := 11) (As := [.int r1]) C (c_X6_sortBy hap  ec2) ok_X6_sortBy kM_X6_112 rfl rfl rfl ⟨Nat.le_of_ble_eq_true rfl, Nat.le_of_ble_eq_true rfl⟩ (Nat.le_of_ble_eq_true rfl) dX6_isHouseItem_8 rfl ?_
  refine J_istore_n (q := 12) C dX6_isHouseItem_11 rfl rfl (by decide) rfl ?_
  refine J_iload_n (q := 13) C dX6_isHouseItem_12 rfl rfl 0 rfl ?_
  refine J_if_lt (tgt := 25) (q := 16) C dX6_isHouseItem_13 rfl (by decide) h (fun _ h => ?_) (fun _ h => ?_)
  · refine J_iconst (v := 0 ) (q := 26) C dX6_isHouseItem_25 rfl rfl ?_
    obtain ⟨rfl, rfl⟩ := Prod.mk.inj (Option.some.inj h)
    exact J_zret (b := false) C dX6_isHouseItem_26
  · refine J_aload_n (q := 17) C dX6_isHouseItem_16 rfl rfl 1 rfl ?_
    refine JM_g_X6_readHouses (q := 20) C kF_X6_115 dX6_isHouseItem_17 rfl ?_
    refine J_bipush (v := 6) (q := 22) C dX6_isHouseItem_20 rfl rfl ?_
    refine J_icmp_ne (tgt := 27) (q := 25) C dX6_isHouseItem_22 rfl (by decide) h (fun _ h => ?_) (fun _ h => ?_)
    · refine J_iconst (v := 0 ) (q := 26) C dX6_isHouseItem_25 rfl rfl ?_
      obtain ⟨rfl, rfl⟩ := Prod.mk.inj (Option.some.inj h)
      exact J_zret (b := false) C dX6_isHouseItem_26
    · refine J_aload_n (q := 28) C dX6_isHouseItem_27 rfl rfl 1 rfl ?_
      refine J_dup (q := 29) C dX6_isHouseItem_28 rfl rfl ?_
      refine JM_g_X6_position (q := 32) C kF_X6_93 dX6_isHouseItem_29 rfl ?_
      refine J_iconst (v := 1 ) (q := 33) C dX6_isHouseItem_32 rfl rfl ?_
      refine J_iadd (q := 34) C dX6_isHouseItem_33 rfl ?_
      refine JM_p_X6_position (q := 37) C kF_X6_93 dX6_isHouseItem_34 rfl ?_
      refine jn_elim h (fun σ3 eσ3 h => ?_)
      rw [← eσ3]
      refine J_aload_n (q := 38) C dX6_isHouseItem_37 rfl rfl 1 rfl ?_
      obtain ⟨r4, σ4, ec4, h⟩ := bnd2_of h
      refine J_callIV (q := 41) (As := []) C (c_X6_twoFigures hap  ec4) ok_X6_twoFigures kM_X6_105 (by decide) rfl rfl rfl rfl rfl rfl ⟨Nat.le_of_ble_eq_true rfl, Nat.le_of_ble_eq_true rfl⟩ (Nat.le_of_ble_eq_true rfl) dX6_isHouseItem_38 rfl ?_
      refine J_istore_n (q := 42) C dX6_isHouseItem_41 rfl rfl (by decide) rfl ?_
      refine J_iload_n (q := 43) C dX6_isHouseItem_42 rfl rfl 0 rfl ?_
      refine J_if_ge (tgt := 48) (q := 46) C dX6_isHouseItem_43 rfl (by decide) h (fun _ h => ?_) (fun _ h => ?_)
      · refine J_aload_n (q := 49) C dX6_isHouseItem_48 rfl rfl 2 rfl ?_
        obtain ⟨r5, σ5, ec5, h⟩ := bnd2_of h
        refine J_callIV (q := 52) (As := []) C (c_X6_twoFigures hap  ec5) ok_X6_twoFigures kM_X6_105 (by decide) rfl rfl rfl rfl rfl rfl ⟨Nat.le_of_ble_eq_true rfl, Nat.le_of_ble_eq_true rfl⟩ (Nat.le_of_ble_eq_true rfl) dX6_isHouseItem_49 rfl ?_
        refine J_istore_n (q := 53) C dX6_isHouseItem_52 rfl rfl (by decide) rfl ?_
        refine J_iload_n (q := 54) C dX6_isHouseItem_53 rfl rfl 0 rfl ?_
        refine J_if_ge (tgt := 59) (q := 57) C dX6_isHouseItem_54 rfl (by decide) h (fun _ h => ?_) (fun _ h => ?_)
        · refine J_aload_n (q := 60) C dX6_isHouseItem_59 rfl rfl 3 rfl ?_
          refine JM_g_X6_readHouse (q := 63) C kF_X6_29 dX6_isHouseItem_60 rfl ?_
          refine J_iconst (v := 3 ) (q := 64) C dX6_isHouseItem_63 rfl rfl ?_
          refine J_aload_n (q := 65) C dX6_isHouseItem_64 rfl rfl 3 rfl ?_
          refine JM_g_X6_readHouses (q := 68) C kF_X6_115 dX6_isHouseItem_65 rfl ?_
          refine J_imul (q := 69) C dX6_isHouseItem_68 rfl ?_
          refine J_iload_n (q := 70) C dX6_isHouseItem_69 rfl rfl 2 rfl ?_
          refine JM_iast (q := 71) C isMA_6 h dX6_isHouseItem_70 rfl (fun h => ?_)
          refine jn_elim h (fun σ6 eσ6 h => ?_)
          rw [← eσ6]
          refine J_aload_n (q := 72) C dX6_isHouseItem_71 rfl rfl 3 rfl ?_
          refine JM_g_X6_readHouse (q := 75) C kF_X6_29 dX6_isHouseItem_72 rfl ?_
          refine J_iconst (v := 3 ) (q := 76) C dX6_isHouseItem_75 rfl rfl ?_
          refine J_aload_n (q := 77) C dX6_isHouseItem_76 rfl rfl 3 rfl ?_
          refine JM_g_X6_readHouses (q := 80) C kF_X6_115 dX6_isHouseItem_77 rfl ?_
          refine J_imul (q := 81) C dX6_isHouseItem_80 rfl ?_
          refine J_iconst (v := 1 ) (q := 82) C dX6_isHouseItem_81 rfl rfl ?_
          refine J_iadd (q := 83) C dX6_isHouseItem_82 rfl ?_
          refine J_iload_n (q := 84) C dX6_isHouseItem_83 rfl rfl 1 rfl ?_
          refine JM_iast (q := 85) C isMA_6 h dX6_isHouseItem_84 rfl (fun h => ?_)
          refine jn_elim h (fun σ7 eσ7 h => ?_)
          rw [← eσ7]
          refine J_aload_n (q := 86) C dX6_isHouseItem_85 rfl rfl 3 rfl ?_
          refine JM_g_X6_readHouse (q := 89) C kF_X6_29 dX6_isHouseItem_86 rfl ?_
          refine J_iconst (v := 3 ) (q := 90) C dX6_isHouseItem_89 rfl rfl ?_
          refine J_aload_n (q := 91) C dX6_isHouseItem_90 rfl rfl 3 rfl ?_
          refine JM_g_X6_readHouses (q := 94) C kF_X6_115 dX6_isHouseItem_91 rfl ?_
          refine J_imul (q := 95) C dX6_isHouseItem_94 rfl ?_
          refine J_iconst (v := 2 ) (q := 96) C dX6_isHouseItem_95 rfl rfl ?_
          refine J_iadd (q := 97) C dX6_isHouseItem_96 rfl ?_
          refine J_iload_n (q := 98) C dX6_isHouseItem_97 rfl rfl 0 rfl ?_
          refine JM_iast (q := 99) C isMA_6 h dX6_isHouseItem_98 rfl (fun h => ?_)
          refine jn_elim h (fun σ8 eσ8 h => ?_)
          rw [← eσ8]
          refine J_aload_n (q := 100) C dX6_isHouseItem_99 rfl rfl 3 rfl ?_
          refine J_dup (q := 101) C dX6_isHouseItem_100 rfl rfl ?_
          refine JM_g_X6_readHouses (q := 104) C kF_X6_115 dX6_isHouseItem_101 rfl ?_
          refine J_iconst (v := 1 ) (q := 105) C dX6_isHouseItem_104 rfl rfl ?_
          refine J_iadd (q := 106) C dX6_isHouseItem_105 rfl ?_
          refine JM_p_X6_readHouses (q := 109) C kF_X6_115 dX6_isHouseItem_106 rfl ?_
          refine jn_elim h (fun σ9 eσ9 h => ?_)
          rw [← eσ9]
          refine J_iconst (v := 1 ) (q := 110) C dX6_isHouseItem_109 rfl rfl ?_
          obtain ⟨rfl, rfl⟩ := Prod.mk.inj (Option.some.inj h)
          exact J_zret (b := true) C dX6_isHouseItem_110
        · refine J_iconst (v := 0 ) (q := 58) C dX6_isHouseItem_57 rfl rfl ?_
          obtain ⟨rfl, rfl⟩ := Prod.mk.inj (Option.some.inj h)
          exact J_zret (b := false) C dX6_isHouseItem_58
      · refine J_iconst (v := 0 ) (q := 47) C dX6_isHouseItem_46 rfl rfl ?_
        obtain ⟨rfl, rfl⟩ := Prod.mk.inj (Option.some.inj h)
        exact J_zret (b := false) C dX6_isHouseItem_47
