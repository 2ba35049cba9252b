set_option maxHeartbeats 4000000 in
set_option maxRecDepth 100000 in
theorem cl_X6_anew_9 {p : Program} {l : Launch} {e : Env} {s : State} {m : MethodId} {args : Array Value} {below : List Frame} {meth : Method} {c : Code} {D : va_G} {cI cR : ClassId} {ad : Nat → Nat} (hap : apN 16 ad) (C : Cx p s m args meth c cX6_anew 4 "WokenYearsModel" D (tysC cI cR) 16 ad (none)) {a1 : Int32} {a2 : Int32} {k47 : Sg → Option Sg} (σo : Sg)  (hk47 : ∀ (σ1 : Sg), k47 σ1 = some σo → Jd p l e (rmF 1 30) s m args below meth c D 16 ad (celM cI ad) okM 4 (MQ below (QV D (tysC cI cR) 16 ad (celM cI ad) okM σo) args s 0 0 (inA 16 ad)) 47 [] [] σ1) : ∀ (n : Nat) (x3 : Int32) (σx : Sg), l_X6_anew_9 a1 a2 k47 n x3 σx = some σo → Jd p l e (rmF 1 30) s m args below meth c D 16 ad (celM cI ad) okM 4 (MQ below (QV D (tysC cI cR) 16 ad (celM cI ad) okM σo) args s 0 0 (inA 16 ad)) 9 [(0, .ref (ad 0)), (1, .int a1), (2, .int a2), (3, .int x3)] [] σx := by
  intro n
  induction n with
  | zero => intro x3 σx h; cases h
  | succ n ih =>
    intro x3 σx h
    unfold l_X6_anew_9 at h
    refine J_iload_n (q := 10) C dX6_anew_9 rfl rfl 3 rfl ?_
    refine J_bipush (v := 40) (q := 12) C dX6_anew_10 rfl rfl ?_
    refine J_icmp_ge (tgt := 47) (q := 15) C dX6_anew_12 rfl (by decide) h (fun _ h => ?_) (fun _ h => ?_)
    · refine J_sub [] rfl ?_
      exact hk47 _ h
    · refine J_aload_n (q := 16) C dX6_anew_15 rfl rfl 0 rfl ?_
      refine JM_g_X6_rowItem (q := 19) C kF_X6_13 dX6_anew_16 rfl ?_
      refine J_bipush (v := 40) (q := 21) C dX6_anew_19 rfl rfl ?_
      refine J_iload_n (q := 22) C dX6_anew_21 rfl rfl 1 rfl ?_
      refine J_imul (q := 23) C dX6_anew_22 rfl ?_
      refine J_iload_n (q := 24) C dX6_anew_23 rfl rfl 3 rfl ?_
      refine J_iadd (q := 25) C dX6_anew_24 rfl ?_
      refine J_iload_n (q := 26) C dX6_anew_25 rfl rfl 3 rfl ?_
      refine J_iload_n (q := 27) C dX6_anew_26 rfl rfl 2 rfl ?_
      refine jn_elim h (fun k40 ek40 h => ?_)
      have hk40 : ∀ (t0_40 : Int32), k40 t0_40 = some σo → Jd p l e (rmF 1 30) s m args below meth c D 16 ad (celM cI ad) okM 4 (MQ below (QV D (tysC cI cR) 16 ad (celM cI ad) okM σo) args s 0 0 (inA 16 ad)) 40 [(0, .ref (ad 0)), (1, .int a1), (2, .int a2), (3, .int x3)] [.int t0_40, .int (((40 : Int32) * a1) + x3), .ref (ad 2)] σx := by
        intro t0_40 h
        rw [ek40] at h
        refine JM_iast (q := 41) C isMA_2 h dX6_anew_40 rfl (fun h => ?_)
        refine jn_elim h (fun σ2 eσ2 h => ?_)
        rw [← eσ2]
        refine jn_elim h (fun y3 ey3 h => ?_)
        refine J_iinc (v := y3) (q := 44) C dX6_anew_41 rfl 3 rfl (by rw [ey3]; rfl) (by decide) rfl ?_
        refine J_goto (tgt := 9) C dX6_anew_44 (by decide) ?_
        refine J_sub [1, 2, 3, 0] rfl ?_
        exact ih _ _ h
      refine J_icmp_ge (tgt := 39) (q := 30) C dX6_anew_27 rfl (by decide) h (fun _ h => ?_) (fun _ h => ?_)
      · refine J_iconst (v := 0 ) (q := 40) C dX6_anew_39 rfl rfl ?_
        exact hk40 _ h
      · refine J_aload_n (q := 31) C dX6_anew_30 rfl rfl 0 rfl ?_
        refine JM_g_X6_bestRow (q := 34) C kF_X6_56 dX6_anew_31 rfl ?_
        refine J_iload_n (q := 35) C dX6_anew_34 rfl rfl 3 rfl ?_
        refine JM_iald (q := 36) C isMA_15 h dX6_anew_35 rfl (fun h => ?_)
        refine J_goto (tgt := 40) C dX6_anew_36 (by decide) ?_
        exact hk40 _ h
set_option maxHeartbeats 4000000 in
set_option maxRecDepth 100000 in
theorem c_X6_anew {l : Launch} {D : va_G} {cI cR : ClassId} {ad : Nat → Nat} (hap : apN 16 ad) {i1 : Int32} {i2 : Int32} {σ : Sg} {σo : Sg}  (h : f_X6_anew i1 i2 σ = some σo) : MV l D (tysC cI cR) 16 ad (celM cI ad) okM yX6_anew cX6_anew 4 1 30 [.ref (ad 0), .int i1, .int i2] σ σo := by
  unfold f_X6_anew at h
  refine entV "WokenYearsModel" hap (by decide +kernel) rfl (Nat.le_of_ble_eq_true rfl) (fun p e s m args below meth c C => ?_)
  refine J_sub (lv' := [(0, .ref (ad 0)), (1, .int i1), (2, .int i2)]) [0, 1, 2] rfl ?_
  refine J_aload_n (q := 1) C dX6_anew_0 rfl rfl 0 rfl ?_
  refine JM_g_X6_rowSize (q := 4) C kF_X6_7 dX6_anew_1 rfl ?_
  refine J_iload_n (q := 5) C dX6_anew_4 rfl rfl 1 rfl ?_
  refine J_iload_n (q := 6) C dX6_anew_5 rfl rfl 2 rfl ?_
  refine JM_iast (q := 7) C isMA_1 h dX6_anew_6 rfl (fun h => ?_)
  refine jn_elim h (fun σ1 eσ1 h => ?_)
  rw [← eσ1]
  refine J_iconst (v := 0 ) (q := 8) C dX6_anew_7 rfl rfl ?_
  refine J_istore_n (q := 9) C dX6_anew_8 rfl rfl (by decide) rfl ?_
  refine J_sub [1, 2, 3, 0] rfl ?_
  refine cl_X6_anew_9 hap C σo  (fun σv47 h => ?_) FU _ _ h
  · obtain rfl := Option.some.inj h
    exact J_vret C dX6_anew_47
set_option maxHeartbeats 4000000 in
set_option maxRecDepth 100000 in
theorem c_X6_intime {l : Launch} {D : va_G} {cI cR : ClassId} {ad : Nat → Nat} (hap : apN 16 ad) {i1 : Int32} {i2 : Int32} {σ : Sg} {r : Int32} {σo : Sg}  (h : f_X6_intime i1 i2 σ = some (r, σo)) : MI l D (tysC cI cR) 16 ad (celM cI ad) okM yX6_intime cX6_intime 4 .int 7 168 [.ref (ad 0), .int i1, .int i2] σ r σo := by
  unfold f_X6_intime at h
  refine entI "WokenYearsModel" hap (by decide +kernel) rfl (Nat.le_of_ble_eq_true rfl) (fun p e s m args below meth c C => ?_)
  refine J_sub (lv' := [(0, .ref (ad 0)), (1, .int i1), (2, .int i2)]) [0, 1, 2] rfl ?_
  refine J_aload_n (q := 1) C dX6_intime_0 rfl rfl 0 rfl ?_
  refine J_iload_n (q := 2) C dX6_intime_1 rfl rfl 1 rfl ?_
  obtain ⟨r1, ec1, h⟩ := bnd_of h
  refine J_callIV (q := 5) (As := [.int i1]) C (c_X6_isSet hap  ec1) ok_X6_isSet kM_X6_193 (by decide) rfl rfl rfl rfl rfl rfl ⟨Nat.le_of_ble_eq_true rfl, Nat.le_of_ble_eq_true rfl⟩ (Nat.le_of_ble_eq_true rfl) dX6_intime_2 rfl ?_
  refine J_ifeq_b (tgt := 17) (q := 8) C dX6_intime_5 rfl (by decide) h (fun _ h => ?_) (fun _ h => ?_)
  · refine J_iload_n (q := 9) C dX6_intime_8 rfl rfl 2 rfl ?_
    refine J_iconst (v := 0 ) (q := 10) C dX6_intime_9 rfl rfl ?_
    refine J_iconst (v := 5 ) (q := 11) C dX6_intime_10 rfl rfl ?_
    obtain ⟨r2, ec2, h⟩ := bnd_of h
    refine J_callIS (q := 14) (As := [.int i2, .int (0 : Int32), .int (5 : Int32)]) C (c_X6_in hap  ec2) ok_X6_in kM_X6_69 rfl rfl rfl ⟨Nat.le_of_ble_eq_true rfl, Nat.le_of_ble_eq_true rfl⟩ (Nat.le_of_ble_eq_true rfl) dX6_intime_11 rfl ?_
    refine J_ifne_b (tgt := 19) (q := 17) C dX6_intime_14 rfl (by decide) h (fun _ h => ?_) (fun _ h => ?_)
    · refine J_iload_n (q := 20) C dX6_intime_19 rfl rfl 1 rfl ?_
      refine J_aload_n (q := 21) C dX6_intime_20 rfl rfl 0 rfl ?_
      obtain ⟨r3, ec3, h⟩ := bnd_of h
      refine J_callIV (q := 24) (As := []) C (c_X6_wakable hap  ec3) ok_X6_wakable kM_X6_196 (by decide) rfl rfl rfl rfl rfl rfl ⟨Nat.le_of_ble_eq_true rfl, Nat.le_of_ble_eq_true rfl⟩ (Nat.le_of_ble_eq_true rfl) dX6_intime_21 rfl ?_
      refine J_iconst (v := -1 ) (q := 25) C dX6_intime_24 rfl rfl ?_
      refine J_ixor (q := 26) C dX6_intime_25 rfl ?_
      refine J_iand (q := 27) C dX6_intime_26 rfl ?_
      refine J_if_eq (tgt := 33) (q := 30) C dX6_intime_27 rfl (by decide) h (fun _ h => ?_) (fun _ h => ?_)
      · refine J_aload_n (q := 34) C dX6_intime_33 rfl rfl 0 rfl ?_
        refine J_iload_n (q := 35) C dX6_intime_34 rfl rfl 1 rfl ?_
        obtain ⟨r4, σ4, ec4, h⟩ := bnd2_of h
        refine J_callIV (q := 38) (As := [.int i1]) C (c_X6_bestOf hap  ec4) ok_X6_bestOf kM_X6_211 (by decide) rfl rfl rfl rfl rfl rfl ⟨Nat.le_of_ble_eq_true rfl, Nat.le_of_ble_eq_true rfl⟩ (Nat.le_of_ble_eq_true rfl) dX6_intime_35 rfl ?_
        refine J_istore_n (q := 39) C dX6_intime_38 rfl rfl (by decide) rfl ?_
        refine J_iload_n (q := 40) C dX6_intime_39 rfl rfl 0 rfl ?_
        refine J_bipush (v := -9) (q := 42) C dX6_intime_40 rfl rfl ?_
        refine J_icmp_eq (tgt := 54) (q := 45) C dX6_intime_42 rfl (by decide) h (fun _ h => ?_) (fun _ h => ?_)
        · refine J_iload_n (q := 55) C dX6_intime_54 rfl rfl 0 rfl ?_
          obtain ⟨rfl, rfl⟩ := Prod.mk.inj (Option.some.inj h)
          exact J_iret C dX6_intime_55
        · refine J_aload_n (q := 46) C dX6_intime_45 rfl rfl 1 rfl ?_
          refine J_iload_n (q := 47) C dX6_intime_46 rfl rfl 3 rfl ?_
          refine J_iload_n (q := 48) C dX6_intime_47 rfl rfl 2 rfl ?_
          obtain ⟨r5, ec5, h⟩ := bnd_of h
          refine J_callIS (q := 51) (As := [.int i1]) C (c_X6_bits hap  ec5) ok_X6_bits kM_X6_166 rfl rfl rfl ⟨Nat.le_of_ble_eq_true rfl, Nat.le_of_ble_eq_true rfl⟩ (Nat.le_of_ble_eq_true rfl) dX6_intime_48 rfl ?_
          obtain ⟨σ6, ec6, h⟩ := bnd_of h
          refine J_callXV (q := 54) (As := [.int i2, .int r5]) C (c_X6_anew hap  ec6) ok_X6_anew kM_X6_214 (by decide) rfl rfl rfl rfl rfl rfl ⟨Nat.le_of_ble_eq_true rfl, Nat.le_of_ble_eq_true rfl⟩ (Nat.le_of_ble_eq_true rfl) dX6_intime_51 rfl ?_
          refine J_iload_n (q := 55) C dX6_intime_54 rfl rfl 0 rfl ?_
          obtain ⟨rfl, rfl⟩ := Prod.mk.inj (Option.some.inj h)
          exact J_iret C dX6_intime_55
      · refine J_bipush (v := -4) (q := 32) C dX6_intime_30 rfl rfl ?_
        obtain ⟨rfl, rfl⟩ := Prod.mk.inj (Option.some.inj h)
        exact J_iret C dX6_intime_32
    · refine J_iconst (v := -1 ) (q := 18) C dX6_intime_17 rfl rfl ?_
      obtain ⟨rfl, rfl⟩ := Prod.mk.inj (Option.some.inj h)
      exact J_iret C dX6_intime_18
  · refine J_iconst (v := -1 ) (q := 18) C dX6_intime_17 rfl rfl ?_
    obtain ⟨rfl, rfl⟩ := Prod.mk.inj (Option.some.inj h)
    exact J_iret C dX6_intime_18
set_option maxHeartbeats 4000000 in
set_option maxRecDepth 100000 in
theorem cl_X6_many_19 {p : Program} {l : Launch} {e : Env} {s : State} {m : MethodId} {args : Array Value} {below : List Frame} {meth : Method} {c : Code} {D : va_G} {cI cR : ClassId} {ad : Nat → Nat} (hap : apN 16 ad) (C : Cx p s m args meth c cX6_many 4 "WokenYearsModel" D (tysC cI cR) 16 ad (some .int)) {a1 : Int32} {k65 : Int32 → Sg → Option (Int32 × Sg)} (r : Int32) (σo : Sg)  (hk65 : ∀ (u2 : Int32) (σ1 : Sg), k65 u2 σ1 = some (r, σo) → Jd p l e (rmF 7 168) s m args below meth c D 16 ad (celM cI ad) okM 4 (MQ below (QI D (tysC cI cR) 16 ad (celM cI ad) okM r σo) args s 0 0 (inA 16 ad)) 65 [(0, .ref (ad 0)), (2, .int u2)] [] σ1) : ∀ (n : Nat) (x2 : Int32) (x3 : Int32) (σx : Sg), l_X6_many_19 a1 k65 n x2 x3 σx = some (r, σo) → Jd p l e (rmF 7 168) s m args below meth c D 16 ad (celM cI ad) okM 4 (MQ below (QI D (tysC cI cR) 16 ad (celM cI ad) okM r σo) args s 0 0 (inA 16 ad)) 19 [(0, .ref (ad 0)), (1, .int a1), (2, .int x2), (3, .int x3)] [] σx := by
  intro n
  induction n with
  | zero => intro x2 x3 σx h; cases h
  | succ n ih =>
    intro x2 x3 σx h
    unfold l_X6_many_19 at h
    refine J_iload_n (q := 20) C dX6_many_19 rfl rfl 3 rfl ?_
    refine J_iload_n (q := 21) C dX6_many_20 rfl rfl 1 rfl ?_
    refine J_icmp_gt (tgt := 65) (q := 24) C dX6_many_21 rfl (by decide) h (fun _ h => ?_) (fun _ h => ?_)
    · refine J_sub [0, 2] rfl ?_
      exact hk65 _ _ h
    · refine J_iload_n (q := 25) C dX6_many_24 rfl rfl 3 rfl ?_
      refine J_iload_n (q := 26) C dX6_many_25 rfl rfl 1 rfl ?_
      refine J_iconst (v := -1 ) (q := 27) C dX6_many_26 rfl rfl ?_
      refine J_ixor (q := 28) C dX6_many_27 rfl ?_
      refine J_iand (q := 29) C dX6_many_28 rfl ?_
      refine jn_elim h (fun k58 ek58 h => ?_)
      have hk58 : ∀ (t0_58 : Int32) (σj58 : Sg), k58 t0_58 σj58 = some (r, σo) → Jd p l e (rmF 7 168) s m args below meth c D 16 ad (celM cI ad) okM 4 (MQ below (QI D (tysC cI cR) 16 ad (celM cI ad) okM r σo) args s 0 0 (inA 16 ad)) 58 [(0, .ref (ad 0)), (1, .int a1), (3, .int x3)] [.int t0_58] σj58 := by
        intro t0_58 σj58 h
        rw [ek58] at h
        refine J_istore_n (q := 59) C dX6_many_58 rfl rfl (by decide) rfl ?_
        refine jn_elim h (fun y2 ey2 h => ?_)
        refine J_iinc (v := y2) (q := 62) C dX6_many_59 rfl 3 rfl (by rw [ey2]; rfl) (by decide) rfl ?_
        refine J_goto (tgt := 19) C dX6_many_62 (by decide) ?_
        refine J_sub [2, 3, 1, 0] rfl ?_
        exact ih _ _ _ h
      refine jn_elim h (fun k57 ek57 h => ?_)
      have hk57 : ∀ (σj57 : Sg), k57 σj57 = some (r, σo) → Jd p l e (rmF 7 168) s m args below meth c D 16 ad (celM cI ad) okM 4 (MQ below (QI D (tysC cI cR) 16 ad (celM cI ad) okM r σo) args s 0 0 (inA 16 ad)) 57 [(0, .ref (ad 0)), (1, .int a1), (2, .int x2), (3, .int x3)] [] σj57 := by
        intro σj57 h
        rw [ek57] at h
        refine J_iload_n (q := 58) C dX6_many_57 rfl rfl 2 rfl ?_
        refine J_sub [0, 1, 3] rfl ?_
        exact hk58 _ _ h
      refine J_if_ne (tgt := 57) (q := 32) C dX6_many_29 rfl (by decide) h (fun _ h => ?_) (fun _ h => ?_)
      · refine J_iload_n (q := 33) C dX6_many_32 rfl rfl 3 rfl ?_
        obtain ⟨r3, ec3, h⟩ := bnd_of h
        refine J_callIS (q := 36) (As := [.int x3]) C (c_X6_bits hap  ec3) ok_X6_bits kM_X6_166 rfl rfl rfl ⟨Nat.le_of_ble_eq_true rfl, Nat.le_of_ble_eq_true rfl⟩ (Nat.le_of_ble_eq_true rfl) dX6_many_33 rfl ?_
        refine J_iload_n (q := 37) C dX6_many_36 rfl rfl 2 rfl ?_
        obtain ⟨r4, ec4, h⟩ := bnd_of h
        refine J_callIS (q := 40) (As := [.int x2]) C (c_X6_bits hap  ec4) ok_X6_bits kM_X6_166 rfl rfl rfl ⟨Nat.le_of_ble_eq_true rfl, Nat.le_of_ble_eq_true rfl⟩ (Nat.le_of_ble_eq_true rfl) dX6_many_37 rfl ?_
        refine J_icmp_le (tgt := 57) (q := 43) C dX6_many_40 rfl (by decide) h (fun _ h => ?_) (fun _ h => ?_)
        · exact hk57 _ h
        · refine J_aload_n (q := 44) C dX6_many_43 rfl rfl 0 rfl ?_
          refine J_iload_n (q := 45) C dX6_many_44 rfl rfl 3 rfl ?_
          obtain ⟨r5, σ5, ec5, h⟩ := bnd2_of h
          refine J_callIV (q := 48) (As := [.int x3]) C (c_X6_bestOf hap  ec5) ok_X6_bestOf kM_X6_211 (by decide) rfl rfl rfl rfl rfl rfl ⟨Nat.le_of_ble_eq_true rfl, Nat.le_of_ble_eq_true rfl⟩ (Nat.le_of_ble_eq_true rfl) dX6_many_45 rfl ?_
          refine J_bipush (v := -9) (q := 50) C dX6_many_48 rfl rfl ?_
          refine J_icmp_eq (tgt := 57) (q := 53) C dX6_many_50 rfl (by decide) h (fun _ h => ?_) (fun _ h => ?_)
          · exact hk57 _ h
          · refine J_iload_n (q := 54) C dX6_many_53 rfl rfl 3 rfl ?_
            refine J_goto (tgt := 58) C dX6_many_54 (by decide) ?_
            refine J_sub [0, 1, 3] rfl ?_
            exact hk58 _ _ h
      · exact hk57 _ h
set_option maxHeartbeats 4000000 in
set_option maxRecDepth 100000 in
theorem c_X6_many {l : Launch} {D : va_G} {cI cR : ClassId} {ad : Nat → Nat} (hap : apN 16 ad)  {σ : Sg} {r : Int32} {σo : Sg}  (h : f_X6_many σ = some (r, σo)) : MI l D (tysC cI cR) 16 ad (celM cI ad) okM yX6_many cX6_many 4 .int 7 168 [.ref (ad 0)] σ r σo := by
  unfold f_X6_many at h
  refine entI "WokenYearsModel" hap (by decide +kernel) rfl (Nat.le_of_ble_eq_true rfl) (fun p e s m args below meth c C => ?_)
  refine J_sub (lv' := [(0, .ref (ad 0))]) [0] rfl ?_
  refine J_aload_n (q := 1) C dX6_many_0 rfl rfl 0 rfl ?_
  refine JM_g_X6_houses (q := 4) C kF_X6_66 dX6_many_1 rfl ?_
  refine J_if_ne (tgt := 10) (q := 7) C dX6_many_4 rfl (by decide) h (fun _ h => ?_) (fun _ h => ?_)
  · refine J_bipush (v := -4) (q := 9) C dX6_many_7 rfl rfl ?_
    obtain ⟨rfl, rfl⟩ := Prod.mk.inj (Option.some.inj h)
    exact J_iret C dX6_many_9
  · refine J_aload_n (q := 11) C dX6_many_10 rfl rfl 0 rfl ?_
    obtain ⟨r1, ec1, h⟩ := bnd_of h
    refine J_callIV (q := 14) (As := []) C (c_X6_wakable hap  ec1) ok_X6_wakable kM_X6_196 (by decide) rfl rfl rfl rfl rfl rfl ⟨Nat.le_of_ble_eq_true rfl, Nat.le_of_ble_eq_true rfl⟩ (Nat.le_of_ble_eq_true rfl) dX6_many_11 rfl ?_
    refine J_istore_n (q := 15) C dX6_many_14 rfl rfl (by decide) rfl ?_
    refine J_iconst (v := 0 ) (q := 16) C dX6_many_15 rfl rfl ?_
    refine J_istore_n (q := 17) C dX6_many_16 rfl rfl (by decide) rfl ?_
    refine J_iconst (v := 1 ) (q := 18) C dX6_many_17 rfl rfl ?_
    refine J_istore_n (q := 19) C dX6_many_18 rfl rfl (by decide) rfl ?_
    refine J_sub [3, 2, 1, 0] rfl ?_
    refine cl_X6_many_19 hap C r σo  (fun v2_65 σv65 h => ?_) FU _ _ _ h
    · refine J_aload_n (q := 66) C dX6_many_65 rfl rfl 0 rfl ?_
      refine J_iload_n (q := 67) C dX6_many_66 rfl rfl 1 rfl ?_
      obtain ⟨r6, σ6, ec6, h⟩ := bnd2_of h
      refine J_callIV (q := 70) (As := [.int v2_65]) C (c_X6_tells hap  ec6) ok_X6_tells kM_X6_81 (by decide) rfl rfl rfl rfl rfl rfl ⟨Nat.le_of_ble_eq_true rfl, Nat.le_of_ble_eq_true rfl⟩ (Nat.le_of_ble_eq_true rfl) dX6_many_67 rfl ?_
      refine J_pop (q := 71) C dX6_many_70 rfl rfl ?_
      refine J_iload_n (q := 72) C dX6_many_71 rfl rfl 1 rfl ?_
      obtain ⟨r7, ec7, h⟩ := bnd_of h
      refine J_callIS (q := 75) (As := [.int v2_65]) C (c_X6_bits hap  ec7) ok_X6_bits kM_X6_166 rfl rfl rfl ⟨Nat.le_of_ble_eq_true rfl, Nat.le_of_ble_eq_true rfl⟩ (Nat.le_of_ble_eq_true rfl) dX6_many_72 rfl ?_
      obtain ⟨rfl, rfl⟩ := Prod.mk.inj (Option.some.inj h)
      exact J_iret C dX6_many_75
set_option maxHeartbeats 4000000 in
set_option maxRecDepth 100000 in
theorem cl_X6_dates_63 {p : Program} {l : Launch} {e : Env} {s : State} {m : MethodId} {args : Array Value} {below : List Frame} {meth : Method} {c : Code} {D : va_G} {cI cR : ClassId} {ad : Nat → Nat} (hap : apN 16 ad) (C : Cx p s m args meth c cX6_dates 6 "WokenYearsModel" D (tysC cI cR) 16 ad (some .int)) {a1 : Int32} {a2 : Int32} {a3 : Int32} {k116 : Int32 → Option (Int32 × Sg)} {σ : Sg} (r : Int32) (σo : Sg)  (hk116 : ∀ (u4 : Int32), k116 u4 = some (r, σo) → Jd p l e (rmF 2 56) s m args below meth c D 16 ad (celM cI ad) okM 6 (MQ below (QI D (tysC cI cR) 16 ad (celM cI ad) okM r σo) args s 0 0 (inA 16 ad)) 116 [(0, .ref (ad 0)), (1, .int a1), (2, .int a2), (3, .int a3), (4, .int u4)] [] σ) : ∀ (n : Nat) (x4 : Int32) (x5 : Int32), l_X6_dates_63 a1 a2 a3 σ k116 n x4 x5 = some (r, σo) → Jd p l e (rmF 2 56) s m args below meth c D 16 ad (celM cI ad) okM 6 (MQ below (QI D (tysC cI cR) 16 ad (celM cI ad) okM r σo) args s 0 0 (inA 16 ad)) 63 [(0, .ref (ad 0)), (1, .int a1), (2, .int a2), (3, .int a3), (4, .int x4), (5, .int x5)] [] σ := by
  intro n
  induction n with
  | zero => intro x4 x5 h; cases h
  | succ n ih =>
    intro x4 x5 h
    unfold l_X6_dates_63 at h
    refine J_iload (q := 65) C dX6_dates_63 rfl 5 rfl ?_
    refine J_aload_n (q := 66) C dX6_dates_65 rfl rfl 0 rfl ?_
    refine JM_g_X6_houses (q := 69) C kF_X6_66 dX6_dates_66 rfl ?_
    refine J_icmp_ge (tgt := 116) (q := 72) C dX6_dates_69 rfl (by decide) h (fun _ h => ?_) (fun _ h => ?_)
    · refine J_sub [0, 1, 2, 3, 4] rfl ?_
      exact hk116 _ h
    · refine J_iload (q := 74) C dX6_dates_72 rfl 4 rfl ?_
      refine J_aload_n (q := 75) C dX6_dates_74 rfl rfl 0 rfl ?_
      refine JM_g_X6_now (q := 78) C kF_X6_38 dX6_dates_75 rfl ?_
      refine J_iconst (v := 5 ) (q := 79) C dX6_dates_78 rfl rfl ?_
      refine J_aload_n (q := 80) C dX6_dates_79 rfl rfl 0 rfl ?_
      refine JM_g_X6_row (q := 83) C kF_X6_53 dX6_dates_80 rfl ?_
      refine J_iload (q := 85) C dX6_dates_83 rfl 5 rfl ?_
      refine JM_iald (q := 86) C isMA_14 h dX6_dates_85 rfl (fun h => ?_)
      refine J_iadd (q := 87) C dX6_dates_86 rfl ?_
      refine JM_iald (q := 88) C isMA_9 h dX6_dates_87 rfl (fun h => ?_)
      refine J_aload_n (q := 89) C dX6_dates_88 rfl rfl 0 rfl ?_
      refine JM_g_X6_now (q := 92) C kF_X6_38 dX6_dates_89 rfl ?_
      refine J_iconst (v := 5 ) (q := 93) C dX6_dates_92 rfl rfl ?_
      refine J_aload_n (q := 94) C dX6_dates_93 rfl rfl 0 rfl ?_
      refine JM_g_X6_row (q := 97) C kF_X6_53 dX6_dates_94 rfl ?_
      refine J_iload (q := 99) C dX6_dates_97 rfl 5 rfl ?_
      refine J_iconst (v := 1 ) (q := 100) C dX6_dates_99 rfl rfl ?_
      refine J_isub (q := 101) C dX6_dates_100 rfl ?_
      refine JM_iald (q := 102) C isMA_14 h dX6_dates_101 rfl (fun h => ?_)
      refine J_iadd (q := 103) C dX6_dates_102 rfl ?_
      refine JM_iald (q := 104) C isMA_9 h dX6_dates_103 rfl (fun h => ?_)
      obtain ⟨r5, ec5, h⟩ := bnd_of h
      refine J_callIS (q := 107) (As := [.int (gA σ 9 ((5 : Int32) + (gA σ 14 x5.toNatClampNeg)).toNatClampNeg), .int (gA σ 9 ((5 : Int32) + (gA σ 14 (x5 - (1 : Int32)).toNatClampNeg)).toNatClampNeg)]) C (c_X6_far hap  ec5) ok_X6_far kM_X6_176 rfl rfl rfl ⟨Nat.le_of_ble_eq_true rfl, Nat.le_of_ble_eq_true rfl⟩ (Nat.le_of_ble_eq_true rfl) dX6_dates_104 rfl ?_
      refine J_iadd (q := 108) C dX6_dates_107 rfl ?_
      refine J_nmi h (fun y6 ey6 h => ?_)
      refine J_istore (q := 110) C dX6_dates_108 rfl (by decide) rfl ?_
      refine jn_elim h (fun y7 ey7 h => ?_)
      refine J_iinc (v := y7) (q := 113) C dX6_dates_110 rfl 5 rfl (by rw [ey7]; rfl) (by decide) rfl ?_
      refine J_goto (tgt := 63) C dX6_dates_113 (by decide) ?_
      refine J_sub [2, 3, 4, 5, 1, 0] rfl ?_
      exact ih _ _ h
set_option maxHeartbeats 4000000 in
set_option maxRecDepth 100000 in
theorem cl_X6_dates_26 {p : Program} {l : Launch} {e : Env} {s : State} {m : MethodId} {args : Array Value} {below : List Frame} {meth : Method} {c : Code} {D : va_G} {cI cR : ClassId} {ad : Nat → Nat} (hap : apN 16 ad) (C : Cx p s m args meth c cX6_dates 6 "WokenYearsModel" D (tysC cI cR) 16 ad (some .int)) {a1 : Int32} {k146 : Int32 → Sg → Option (Int32 × Sg)} (r : Int32) (σo : Sg)  (hk146 : ∀ (u2 : Int32) (σ1 : Sg), k146 u2 σ1 = some (r, σo) → Jd p l e (rmF 2 56) s m args below meth c D 16 ad (celM cI ad) okM 6 (MQ below (QI D (tysC cI cR) 16 ad (celM cI ad) okM r σo) args s 0 0 (inA 16 ad)) 146 [(0, .ref (ad 0)), (1, .int a1), (2, .int u2)] [] σ1) : ∀ (n : Nat) (x2 : Int32) (x3 : Int32) (σx : Sg), l_X6_dates_26 a1 k146 n x2 x3 σx = some (r, σo) → Jd p l e (rmF 2 56) s m args below meth c D 16 ad (celM cI ad) okM 6 (MQ below (QI D (tysC cI cR) 16 ad (celM cI ad) okM r σo) args s 0 0 (inA 16 ad)) 26 [(0, .ref (ad 0)), (1, .int a1), (2, .int x2), (3, .int x3)] [] σx := by
  intro n
  induction n with
  | zero => intro x2 x3 σx h; cases h
  | succ n ih =>
    intro x2 x3 σx h
    unfold l_X6_dates_26 at h
    refine J_iload_n (q := 27) C dX6_dates_26 rfl rfl 3 rfl ?_
    refine J_aload_n (q := 28) C dX6_dates_27 rfl rfl 0 rfl ?_
    refine JM_g_X6_houses (q := 31) C kF_X6_66 dX6_dates_28 rfl ?_
    obtain ⟨r2, ec2, h⟩ := bnd_of h
    refine J_callIS (q := 34) (As := [.int (gS σx 17)]) C (c_X6_rowsOf hap  ec2) ok_X6_rowsOf kM_X6_202 rfl rfl rfl ⟨Nat.le_of_ble_eq_true rfl, Nat.le_of_ble_eq_true rfl⟩ (Nat.le_of_ble_eq_true rfl) dX6_dates_31 rfl ?_
    refine J_icmp_ge (tgt := 146) (q := 37) C dX6_dates_34 rfl (by decide) h (fun _ h => ?_) (fun _ h => ?_)
    · refine J_sub [0, 1, 2] rfl ?_
      exact hk146 _ _ h
    · refine J_aload_n (q := 38) C dX6_dates_37 rfl rfl 0 rfl ?_
      refine J_iload_n (q := 39) C dX6_dates_38 rfl rfl 3 rfl ?_
      refine J_aload_n (q := 40) C dX6_dates_39 rfl rfl 0 rfl ?_
      refine JM_g_X6_houses (q := 43) C kF_X6_66 dX6_dates_40 rfl ?_
      refine J_iconst (v := 1 ) (q := 44) C dX6_dates_43 rfl rfl ?_
      refine J_aload_n (q := 45) C dX6_dates_44 rfl rfl 0 rfl ?_
      refine JM_g_X6_houses (q := 48) C kF_X6_66 dX6_dates_45 rfl ?_
      refine J_ishl (q := 49) C dX6_dates_48 rfl ?_
      refine J_iconst (v := 1 ) (q := 50) C dX6_dates_49 rfl rfl ?_
      refine J_isub (q := 51) C dX6_dates_50 rfl ?_
      obtain ⟨r3, σ3, ec3, h⟩ := bnd2_of h
      refine J_callIV (q := 54) (As := [.int x3, .int (gS σx 17), .int (((1 : Int32) <<< ((gS σx 17) &&& 31)) - (1 : Int32))]) C (c_X6_layRow hap  ec3) ok_X6_layRow kM_X6_205 (by decide) rfl rfl rfl rfl rfl rfl ⟨Nat.le_of_ble_eq_true rfl, Nat.le_of_ble_eq_true rfl⟩ (Nat.le_of_ble_eq_true rfl) dX6_dates_51 rfl ?_
      refine jn_elim h (fun k140 ek140 h => ?_)
      have hk140 : ∀ (u2_140 : Int32) (σj140 : Sg), k140 u2_140 σj140 = some (r, σo) → Jd p l e (rmF 2 56) s m args below meth c D 16 ad (celM cI ad) okM 6 (MQ below (QI D (tysC cI cR) 16 ad (celM cI ad) okM r σo) args s 0 0 (inA 16 ad)) 140 [(0, .ref (ad 0)), (1, .int a1), (2, .int u2_140), (3, .int x3)] [] σj140 := by
        intro u2_140 σj140 h
        rw [ek140] at h
        refine jn_elim h (fun y4 ey4 h => ?_)
        refine J_iinc (v := y4) (q := 143) C dX6_dates_140 rfl 3 rfl (by rw [ey4]; rfl) (by decide) rfl ?_
        refine J_goto (tgt := 26) C dX6_dates_143 (by decide) ?_
        refine J_sub [1, 2, 3, 0] rfl ?_
        exact ih _ _ _ h
      refine J_ifeq_b (tgt := 140) (q := 57) C dX6_dates_54 rfl (by decide) h (fun _ h => ?_) (fun _ h => ?_)
      · refine J_iconst (v := 0 ) (q := 58) C dX6_dates_57 rfl rfl ?_
        refine J_istore (q := 60) C dX6_dates_58 rfl (by decide) rfl ?_
        refine J_iconst (v := 1 ) (q := 61) C dX6_dates_60 rfl rfl ?_
        refine J_istore (q := 63) C dX6_dates_61 rfl (by decide) rfl ?_
        refine J_sub [2, 3, 4, 5, 1, 0] rfl ?_
        refine cl_X6_dates_63 hap C r σo  (fun v4_116 h => ?_) FU _ _ h
        · refine J_iload (q := 118) C dX6_dates_116 rfl 4 rfl ?_
          refine J_iload_n (q := 119) C dX6_dates_118 rfl rfl 2 rfl ?_
          refine J_icmp_ge (tgt := 140) (q := 122) C dX6_dates_119 rfl (by decide) h (fun _ h => ?_) (fun _ h => ?_)
          · refine J_sub [0, 1, 2, 3] rfl ?_
            exact hk140 _ _ h
          · refine J_iload (q := 124) C dX6_dates_122 rfl 4 rfl ?_
            refine J_istore_n (q := 125) C dX6_dates_124 rfl rfl (by decide) rfl ?_
            refine J_aload_n (q := 126) C dX6_dates_125 rfl rfl 1 rfl ?_
            refine JM_g_X6_row (q := 129) C kF_X6_53 dX6_dates_126 rfl ?_
            refine J_iconst (v := 0 ) (q := 130) C dX6_dates_129 rfl rfl ?_
            refine J_aload_n (q := 131) C dX6_dates_130 rfl rfl 1 rfl ?_
            refine JM_g_X6_bestRow (q := 134) C kF_X6_56 dX6_dates_131 rfl ?_
            refine J_iconst (v := 0 ) (q := 135) C dX6_dates_134 rfl rfl ?_
            refine J_bipush (v := 6) (q := 137) C dX6_dates_135 rfl rfl ?_
            obtain ⟨σ8, ec8, h⟩ := bnd_of h
            refine J_callXS (q := 140) (As := [.ref (ad 14), .int (0 : Int32), .ref (ad 15), .int (0 : Int32), .int (6 : Int32)]) C (c_X6_bring hap isMA_14 isMA_15 ec8) ok_X6_bring kM_X6_172 rfl rfl rfl ⟨Nat.le_of_ble_eq_true rfl, Nat.le_of_ble_eq_true rfl⟩ (Nat.le_of_ble_eq_true rfl) dX6_dates_137 rfl ?_
            refine J_sub [1, 2, 0, 3] rfl ?_
            exact hk140 _ _ h
      · exact hk140 _ _ h
set_option maxHeartbeats 4000000 in
set_option maxRecDepth 100000 in
theorem c_X6_dates {l : Launch} {D : va_G} {cI cR : ClassId} {ad : Nat → Nat} (hap : apN 16 ad) {i1 : Int32} {σ : Sg} {r : Int32} {σo : Sg}  (h : f_X6_dates i1 σ = some (r, σo)) : MI l D (tysC cI cR) 16 ad (celM cI ad) okM yX6_dates cX6_dates 6 .int 2 56 [.ref (ad 0), .int i1] σ r σo := by
  unfold f_X6_dates at h
  refine entI "WokenYearsModel" hap (by decide +kernel) rfl (Nat.le_of_ble_eq_true rfl) (fun p e s m args below meth c C => ?_)
  refine J_sub (lv' := [(0, .ref (ad 0)), (1, .int i1)]) [0, 1] rfl ?_
  refine J_iload_n (q := 1) C dX6_dates_0 rfl rfl 1 rfl ?_
  refine J_iconst (v := 0 ) (q := 2) C dX6_dates_1 rfl rfl ?_
  refine J_iconst (v := 5 ) (q := 3) C dX6_dates_2 rfl rfl ?_
  obtain ⟨r1, ec1, h⟩ := bnd_of h
  refine J_callIS (q := 6) (As := [.int i1, .int (0 : Int32), .int (5 : Int32)]) C (c_X6_in hap  ec1) ok_X6_in kM_X6_69 rfl rfl rfl ⟨Nat.le_of_ble_eq_true rfl, Nat.le_of_ble_eq_true rfl⟩ (Nat.le_of_ble_eq_true rfl) dX6_dates_3 rfl ?_
  refine J_ifne_b (tgt := 11) (q := 9) C dX6_dates_6 rfl (by decide) h (fun _ h => ?_) (fun _ h => ?_)
  · refine J_aload_n (q := 12) C dX6_dates_11 rfl rfl 0 rfl ?_
    refine JM_g_X6_houses (q := 15) C kF_X6_66 dX6_dates_12 rfl ?_
    refine J_if_ne (tgt := 21) (q := 18) C dX6_dates_15 rfl (by decide) h (fun _ h => ?_) (fun _ h => ?_)
    · refine J_bipush (v := -4) (q := 20) C dX6_dates_18 rfl rfl ?_
      obtain ⟨rfl, rfl⟩ := Prod.mk.inj (Option.some.inj h)
      exact J_iret C dX6_dates_20
    · refine J_ldc (q := 23) C kK_X6_217 dX6_dates_21 rfl ?_
      refine J_istore_n (q := 24) C dX6_dates_23 rfl rfl (by decide) rfl ?_
      refine J_iconst (v := 0 ) (q := 25) C dX6_dates_24 rfl rfl ?_
      refine J_istore_n (q := 26) C dX6_dates_25 rfl rfl (by decide) rfl ?_
      refine J_sub [2, 3, 1, 0] rfl ?_
      refine cl_X6_dates_26 hap C r σo  (fun v2_146 σv146 h => ?_) FU _ _ _ h
      · refine J_aload_n (q := 147) C dX6_dates_146 rfl rfl 0 rfl ?_
        refine J_iload_n (q := 148) C dX6_dates_147 rfl rfl 1 rfl ?_
        refine J_aload_n (q := 149) C dX6_dates_148 rfl rfl 0 rfl ?_
        refine JM_g_X6_houses (q := 152) C kF_X6_66 dX6_dates_149 rfl ?_
        obtain ⟨σ9, ec9, h⟩ := bnd_of h
        refine J_callXV (q := 155) (As := [.int i1, .int (gS σv146 17)]) C (c_X6_anew hap  ec9) ok_X6_anew kM_X6_214 (by decide) rfl rfl rfl rfl rfl rfl ⟨Nat.le_of_ble_eq_true rfl, Nat.le_of_ble_eq_true rfl⟩ (Nat.le_of_ble_eq_true rfl) dX6_dates_152 rfl ?_
        refine J_iload_n (q := 156) C dX6_dates_155 rfl rfl 2 rfl ?_
        obtain ⟨rfl, rfl⟩ := Prod.mk.inj (Option.some.inj h)
        exact J_iret C dX6_dates_156
  · refine J_iconst (v := -1 ) (q := 10) C dX6_dates_9 rfl rfl ?_
    obtain ⟨rfl, rfl⟩ := Prod.mk.inj (Option.some.inj h)
    exact J_iret C dX6_dates_10
set_option maxHeartbeats 4000000 in
set_option maxRecDepth 100000 in
theorem cl_X6_wrongPairs_48 {p : Program} {l : Launch} {e : Env} {s : State} {m : MethodId} {args : Array Value} {below : List Frame} {meth : Method} {c : Code} {D : va_G} {cI cR : ClassId} {ad : Nat → Nat} (hap : apN 16 ad) (C : Cx p s m args meth c cX6_wrongPairs 4 "WokenYearsModel" D (tysC cI cR) 16 ad (some .int)) {a1 : Int32} {k105 : Bool → Option (Int32 × Sg)} {σ : Sg} (r : Int32) (σo : Sg)  (hk105 : ∀ (u2 : Bool), k105 u2 = some (r, σo) → Jd p l e (rmF 2 52) s m args below meth c D 16 ad (celM cI ad) okM 4 (MQ below (QI D (tysC cI cR) 16 ad (celM cI ad) okM r σo) args s 0 0 (inA 16 ad)) 105 [(0, .ref (ad 0)), (2, .int (b2i u2))] [] σ) : ∀ (n : Nat) (x2 : Bool) (x3 : Int32), l_X6_wrongPairs_48 a1 σ k105 n x2 x3 = some (r, σo) → Jd p l e (rmF 2 52) s m args below meth c D 16 ad (celM cI ad) okM 4 (MQ below (QI D (tysC cI cR) 16 ad (celM cI ad) okM r σo) args s 0 0 (inA 16 ad)) 48 [(0, .ref (ad 0)), (1, .int a1), (2, .int (b2i x2)), (3, .int x3)] [] σ := by
  intro n
  induction n with
  | zero => intro x2 x3 h; cases h
  | succ n ih =>
    intro x2 x3 h
    unfold l_X6_wrongPairs_48 at h
    refine J_iload_n (q := 49) C dX6_wrongPairs_48 rfl rfl 3 rfl ?_
    refine J_aload_n (q := 50) C dX6_wrongPairs_49 rfl rfl 0 rfl ?_
    refine JM_g_X6_rowSize (q := 53) C kF_X6_7 dX6_wrongPairs_50 rfl ?_
    refine J_iload_n (q := 54) C dX6_wrongPairs_53 rfl rfl 1 rfl ?_
    refine JM_iald (q := 55) C isMA_1 h dX6_wrongPairs_54 rfl (fun h => ?_)
    refine J_icmp_ge (tgt := 105) (q := 58) C dX6_wrongPairs_55 rfl (by decide) h (fun _ h => ?_) (fun _ h => ?_)
    · refine J_sub [0, 2] rfl ?_
      exact hk105 _ h
    · refine J_iload_n (q := 59) C dX6_wrongPairs_58 rfl rfl 2 rfl ?_
      refine jn_elim h (fun k98 ek98 h => ?_)
      have hk98 : ∀ (t0_98 : Bool), k98 t0_98 = some (r, σo) → Jd p l e (rmF 2 52) s m args below meth c D 16 ad (celM cI ad) okM 4 (MQ below (QI D (tysC cI cR) 16 ad (celM cI ad) okM r σo) args s 0 0 (inA 16 ad)) 98 [(0, .ref (ad 0)), (1, .int a1), (3, .int x3)] [.int (b2i t0_98)] σ := by
        intro t0_98 h
        rw [ek98] at h
        refine J_istore_n (q := 99) C dX6_wrongPairs_98 rfl rfl (by decide) rfl ?_
        refine jn_elim h (fun y2 ey2 h => ?_)
        refine J_iinc (v := y2) (q := 102) C dX6_wrongPairs_99 rfl 3 rfl (by rw [ey2]; rfl) (by decide) rfl ?_
        refine J_goto (tgt := 48) C dX6_wrongPairs_102 (by decide) ?_
        refine J_sub [2, 3, 1, 0] rfl ?_
        exact ih _ _ h
      refine jn_elim h (fun k97 ek97 h => ?_)
      have hk97 : k97 = some (r, σo) → Jd p l e (rmF 2 52) s m args below meth c D 16 ad (celM cI ad) okM 4 (MQ below (QI D (tysC cI cR) 16 ad (celM cI ad) okM r σo) args s 0 0 (inA 16 ad)) 97 [(0, .ref (ad 0)), (1, .int a1), (3, .int x3)] [] σ := by
        intro  h
        rw [ek97] at h
        refine J_iconst (v := 0 ) (q := 98) C dX6_wrongPairs_97 rfl rfl ?_
        exact hk98 _ h
      refine J_ifeq_b (tgt := 97) (q := 62) C dX6_wrongPairs_59 rfl (by decide) h (fun _ h => ?_) (fun _ h => ?_)
      · refine J_aload_n (q := 63) C dX6_wrongPairs_62 rfl rfl 0 rfl ?_
        refine JM_g_X6_rowItem (q := 66) C kF_X6_13 dX6_wrongPairs_63 rfl ?_
        refine J_bipush (v := 40) (q := 68) C dX6_wrongPairs_66 rfl rfl ?_
        refine J_iload_n (q := 69) C dX6_wrongPairs_68 rfl rfl 1 rfl ?_
        refine J_imul (q := 70) C dX6_wrongPairs_69 rfl ?_
        refine J_iload_n (q := 71) C dX6_wrongPairs_70 rfl rfl 3 rfl ?_
        refine J_iadd (q := 72) C dX6_wrongPairs_71 rfl ?_
        refine JM_iald (q := 73) C isMA_2 h dX6_wrongPairs_72 rfl (fun h => ?_)
        refine J_iconst (v := 0 ) (q := 74) C dX6_wrongPairs_73 rfl rfl ?_
        refine J_iload_n (q := 75) C dX6_wrongPairs_74 rfl rfl 3 rfl ?_
        refine J_iconst (v := 2 ) (q := 76) C dX6_wrongPairs_75 rfl rfl ?_
        refine J_irem (q := 77) C dX6_wrongPairs_76 rfl (by decide) ?_
        refine jn_elim h (fun k87 ek87 h => ?_)
        have hk87 : ∀ (t0_87 : Int32), k87 t0_87 = some (r, σo) → Jd p l e (rmF 2 52) s m args below meth c D 16 ad (celM cI ad) okM 4 (MQ below (QI D (tysC cI cR) 16 ad (celM cI ad) okM r σo) args s 0 0 (inA 16 ad)) 87 [(0, .ref (ad 0)), (1, .int a1), (3, .int x3)] [.int t0_87, .int (0 : Int32), .int (gA σ 2 (((40 : Int32) * a1) + x3).toNatClampNeg)] σ := by
          intro t0_87 h
          rw [ek87] at h
          obtain ⟨r3, ec3, h⟩ := bnd_of h
          refine J_callIS (q := 90) (As := [.int (gA σ 2 (((40 : Int32) * a1) + x3).toNatClampNeg), .int (0 : Int32), .int t0_87]) C (c_X6_in hap  ec3) ok_X6_in kM_X6_69 rfl rfl rfl ⟨Nat.le_of_ble_eq_true rfl, Nat.le_of_ble_eq_true rfl⟩ (Nat.le_of_ble_eq_true rfl) dX6_wrongPairs_87 rfl ?_
          refine J_ifeq_b (tgt := 97) (q := 93) C dX6_wrongPairs_90 rfl (by decide) h (fun _ h => ?_) (fun _ h => ?_)
          · refine J_iconst (v := 1 ) (q := 94) C dX6_wrongPairs_93 rfl rfl ?_
            refine J_goto (tgt := 98) C dX6_wrongPairs_94 (by decide) ?_
            exact hk98 _ h
          · exact hk97 h
        refine J_if_ne (tgt := 85) (q := 80) C dX6_wrongPairs_77 rfl (by decide) h (fun _ h => ?_) (fun _ h => ?_)
        · refine J_bipush (v := 99) (q := 82) C dX6_wrongPairs_80 rfl rfl ?_
          refine J_goto (tgt := 87) C dX6_wrongPairs_82 (by decide) ?_
          refine J_sub [0, 1, 3] rfl ?_
          exact hk87 _ h
        · refine J_bipush (v := 9) (q := 87) C dX6_wrongPairs_85 rfl rfl ?_
          refine J_sub [0, 1, 3] rfl ?_
          exact hk87 _ h
      · refine J_sub [0, 1, 3] rfl ?_
        exact hk97 h
set_option maxHeartbeats 4000000 in
set_option maxRecDepth 100000 in
theorem c_X6_wrongPairs {l : Launch} {D : va_G} {cI cR : ClassId} {ad : Nat → Nat} (hap : apN 16 ad) {i1 : Int32} {σ : Sg} {r : Int32} {σo : Sg}  (h : f_X6_wrongPairs i1 σ = some (r, σo)) : MI l D (tysC cI cR) 16 ad (celM cI ad) okM yX6_wrongPairs cX6_wrongPairs 4 .int 2 52 [.ref (ad 0), .int i1] σ r σo := by
  unfold f_X6_wrongPairs at h
  refine entI "WokenYearsModel" hap (by decide +kernel) rfl (Nat.le_of_ble_eq_true rfl) (fun p e s m args below meth c C => ?_)
  refine J_sub (lv' := [(0, .ref (ad 0)), (1, .int i1)]) [0, 1] rfl ?_
  refine J_aload_n (q := 1) C dX6_wrongPairs_0 rfl rfl 0 rfl ?_
  refine JM_g_X6_rowSize (q := 4) C kF_X6_7 dX6_wrongPairs_1 rfl ?_
  refine J_iload_n (q := 5) C dX6_wrongPairs_4 rfl rfl 1 rfl ?_
  refine JM_iald (q := 6) C isMA_1 h dX6_wrongPairs_5 rfl (fun h => ?_)
  refine J_if_ge (tgt := 15) (q := 9) C dX6_wrongPairs_6 rfl (by decide) h (fun _ h => ?_) (fun _ h => ?_)
  · refine J_aload_n (q := 16) C dX6_wrongPairs_15 rfl rfl 0 rfl ?_
    refine JM_g_X6_rowSize (q := 19) C kF_X6_7 dX6_wrongPairs_16 rfl ?_
    refine J_iload_n (q := 20) C dX6_wrongPairs_19 rfl rfl 1 rfl ?_
    refine JM_iald (q := 21) C isMA_1 h dX6_wrongPairs_20 rfl (fun h => ?_)
    refine J_iconst (v := 2 ) (q := 22) C dX6_wrongPairs_21 rfl rfl ?_
    refine J_irem (q := 23) C dX6_wrongPairs_22 rfl (by decide) ?_
    refine J_iconst (v := 1 ) (q := 24) C dX6_wrongPairs_23 rfl rfl ?_
    refine jn_elim h (fun k38 ek38 h => ?_)
    have hk38 : k38 = some (r, σo) → Jd p l e (rmF 2 52) s m args below meth c D 16 ad (celM cI ad) okM 4 (MQ below (QI D (tysC cI cR) 16 ad (celM cI ad) okM r σo) args s 0 0 (inA 16 ad)) 38 [(0, .ref (ad 0))] [] σ := by
      intro  h
      rw [ek38] at h
      refine J_aload_n (q := 39) C dX6_wrongPairs_38 rfl rfl 0 rfl ?_
      refine J_iconst (v := 5 ) (q := 40) C dX6_wrongPairs_39 rfl rfl ?_
      obtain ⟨r1, σ1, ec1, h⟩ := bnd2_of h
      refine J_callIV (q := 43) (As := [.int (5 : Int32)]) C (c_X6_finds hap  ec1) ok_X6_finds kM_X6_73 (by decide) rfl rfl rfl rfl rfl rfl ⟨Nat.le_of_ble_eq_true rfl, Nat.le_of_ble_eq_true rfl⟩ (Nat.le_of_ble_eq_true rfl) dX6_wrongPairs_40 rfl ?_
      obtain ⟨rfl, rfl⟩ := Prod.mk.inj (Option.some.inj h)
      exact J_iret C dX6_wrongPairs_43
    refine J_icmp_eq (tgt := 38) (q := 27) C dX6_wrongPairs_24 rfl (by decide) h (fun _ h => ?_) (fun _ h => ?_)
    · refine J_sub [0] rfl ?_
      exact hk38 h
    · refine J_aload_n (q := 28) C dX6_wrongPairs_27 rfl rfl 0 rfl ?_
      refine JM_g_X6_rowSize (q := 31) C kF_X6_7 dX6_wrongPairs_28 rfl ?_
      refine J_iload_n (q := 32) C dX6_wrongPairs_31 rfl rfl 1 rfl ?_
      refine JM_iald (q := 33) C isMA_1 h dX6_wrongPairs_32 rfl (fun h => ?_)
      refine J_bipush (v := 16) (q := 35) C dX6_wrongPairs_33 rfl rfl ?_
      refine J_icmp_le (tgt := 44) (q := 38) C dX6_wrongPairs_35 rfl (by decide) h (fun _ h => ?_) (fun _ h => ?_)
      · refine J_iconst (v := 1 ) (q := 45) C dX6_wrongPairs_44 rfl rfl ?_
        refine J_istore_n (q := 46) C dX6_wrongPairs_45 rfl rfl (by decide) rfl ?_
        refine J_iconst (v := 0 ) (q := 47) C dX6_wrongPairs_46 rfl rfl ?_
        refine J_istore_n (q := 48) C dX6_wrongPairs_47 rfl rfl (by decide) rfl ?_
        refine J_sub [2, 3, 1, 0] rfl ?_
        refine cl_X6_wrongPairs_48 hap C r σo  (fun v2_105 h => ?_) FU _ _ h
        · refine J_iload_n (q := 106) C dX6_wrongPairs_105 rfl rfl 1 rfl ?_
          refine J_ifeq_b (tgt := 113) (q := 109) C dX6_wrongPairs_106 rfl (by decide) h (fun _ h => ?_) (fun _ h => ?_)
          · refine J_iconst (v := 0 ) (q := 110) C dX6_wrongPairs_109 rfl rfl ?_
            refine J_goto (tgt := 118) C dX6_wrongPairs_110 (by decide) ?_
            obtain ⟨rfl, rfl⟩ := Prod.mk.inj (Option.some.inj h)
            exact J_iret C dX6_wrongPairs_118
          · refine J_aload_n (q := 114) C dX6_wrongPairs_113 rfl rfl 0 rfl ?_
            refine J_iconst (v := 3 ) (q := 115) C dX6_wrongPairs_114 rfl rfl ?_
            obtain ⟨r4, σ4, ec4, h⟩ := bnd2_of h
            refine J_callIV (q := 118) (As := [.int (3 : Int32)]) C (c_X6_finds hap  ec4) ok_X6_finds kM_X6_73 (by decide) rfl rfl rfl rfl rfl rfl ⟨Nat.le_of_ble_eq_true rfl, Nat.le_of_ble_eq_true rfl⟩ (Nat.le_of_ble_eq_true rfl) dX6_wrongPairs_115 rfl ?_
            obtain ⟨rfl, rfl⟩ := Prod.mk.inj (Option.some.inj h)
            exact J_iret C dX6_wrongPairs_118
      · refine J_sub [0] rfl ?_
        exact hk38 h
  · refine J_aload_n (q := 10) C dX6_wrongPairs_9 rfl rfl 0 rfl ?_
    refine J_iconst (v := 1 ) (q := 11) C dX6_wrongPairs_10 rfl rfl ?_
    obtain ⟨r5, σ5, ec5, h⟩ := bnd2_of h
    refine J_callIV (q := 14) (As := [.int (1 : Int32)]) C (c_X6_finds hap  ec5) ok_X6_finds kM_X6_73 (by decide) rfl rfl rfl rfl rfl rfl ⟨Nat.le_of_ble_eq_true rfl, Nat.le_of_ble_eq_true rfl⟩ (Nat.le_of_ble_eq_true rfl) dX6_wrongPairs_11 rfl ?_
    obtain ⟨rfl, rfl⟩ := Prod.mk.inj (Option.some.inj h)
    exact J_iret C dX6_wrongPairs_14
set_option maxHeartbeats 4000000 in
set_option maxRecDepth 100000 in
theorem c_X6_tookBy {l : Launch} {D : va_G} {cI cR : ClassId} {ad : Nat → Nat} (hap : apN 16 ad) {i1 : Int32} {i2 : Int32} {σ : Sg} {r : Int32}  (h : f_X6_tookBy i1 i2 σ = some r) : MI l D (tysC cI cR) 16 ad (celM cI ad) okM yX6_tookBy cX6_tookBy 4 .int 3 76 [.ref (ad 0), .int i1, .int i2] σ r σ := by
  unfold f_X6_tookBy at h
  refine entI "WokenYearsModel" hap (by decide +kernel) rfl (Nat.le_of_ble_eq_true rfl) (fun p e s m args below meth c C => ?_)
  refine J_sub (lv' := [(0, .ref (ad 0)), (1, .int i1), (2, .int i2)]) [0, 1, 2] rfl ?_
  refine J_aload_n (q := 1) C dX6_tookBy_0 rfl rfl 0 rfl ?_
  refine J_iload_n (q := 2) C dX6_tookBy_1 rfl rfl 1 rfl ?_
  refine J_iload_n (q := 3) C dX6_tookBy_2 rfl rfl 2 rfl ?_
  obtain ⟨r1, ec1, h⟩ := bnd_of h
  refine J_callIV (q := 6) (As := [.int i1, .int i2]) C (c_X6_takesBy hap  ec1) ok_X6_takesBy kM_X6_137 (by decide) rfl rfl rfl rfl rfl rfl ⟨Nat.le_of_ble_eq_true rfl, Nat.le_of_ble_eq_true rfl⟩ (Nat.le_of_ble_eq_true rfl) dX6_tookBy_3 rfl ?_
  refine J_istore_n (q := 7) C dX6_tookBy_6 rfl rfl (by decide) rfl ?_
  refine J_iload_n (q := 8) C dX6_tookBy_7 rfl rfl 0 rfl ?_
  refine J_bipush (v := -9) (q := 10) C dX6_tookBy_8 rfl rfl ?_
  refine J_icmp_ne (tgt := 17) (q := 13) C dX6_tookBy_10 rfl (by decide) h (fun _ h => ?_) (fun _ h => ?_)
  · refine J_iconst (v := 0 ) (q := 14) C dX6_tookBy_13 rfl rfl ?_
    refine J_goto (tgt := 18) C dX6_tookBy_14 (by decide) ?_
    obtain rfl := Option.some.inj h
    exact J_iret C dX6_tookBy_18
  · refine J_iload_n (q := 18) C dX6_tookBy_17 rfl rfl 0 rfl ?_
    obtain rfl := Option.some.inj h
    exact J_iret C dX6_tookBy_18
set_option maxHeartbeats 4000000 in
set_option maxRecDepth 100000 in
theorem cl_X6_tookSo_5 {p : Program} {l : Launch} {e : Env} {s : State} {m : MethodId} {args : Array Value} {below : List Frame} {meth : Method} {c : Code} {D : va_G} {cI cR : ClassId} {ad : Nat → Nat} (hap : apN 16 ad) (C : Cx p s m args meth c cX6_tookSo 5 "WokenYearsModel" D (tysC cI cR) 16 ad (some .boolean)) {a1 : Int32} {a2 : Int32} {k66 : Bool → Option Bool} {σ : Sg} (r : Bool)  (hk66 : ∀ (u3 : Bool), k66 u3 = some r → Jd p l e (rmF 4 99) s m args below meth c D 16 ad (celM cI ad) okM 5 (MQ below (QI D (tysC cI cR) 16 ad (celM cI ad) okM (b2i r) σ) args s 0 0 (inA 16 ad)) 66 [(3, .int (b2i u3))] [] σ) : ∀ (n : Nat) (x3 : Bool) (x4 : Int32), l_X6_tookSo_5 a1 a2 σ k66 n x3 x4 = some r → Jd p l e (rmF 4 99) s m args below meth c D 16 ad (celM cI ad) okM 5 (MQ below (QI D (tysC cI cR) 16 ad (celM cI ad) okM (b2i r) σ) args s 0 0 (inA 16 ad)) 5 [(0, .ref (ad 0)), (1, .int a1), (2, .int a2), (3, .int (b2i x3)), (4, .int x4)] [] σ := by
  intro n
  induction n with
  | zero => intro x3 x4 h; cases h
  | succ n ih =>
    intro x3 x4 h
    unfold l_X6_tookSo_5 at h
    refine J_iload (q := 7) C dX6_tookSo_5 rfl 4 rfl ?_
    refine J_aload_n (q := 8) C dX6_tookSo_7 rfl rfl 0 rfl ?_
    refine JM_g_X6_rowSize (q := 11) C kF_X6_7 dX6_tookSo_8 rfl ?_
    refine J_iload_n (q := 12) C dX6_tookSo_11 rfl rfl 1 rfl ?_
    refine JM_iald (q := 13) C isMA_1 h dX6_tookSo_12 rfl (fun h => ?_)
    refine J_icmp_ge (tgt := 66) (q := 16) C dX6_tookSo_13 rfl (by decide) h (fun _ h => ?_) (fun _ h => ?_)
    · refine J_sub [3] rfl ?_
      exact hk66 _ h
    · refine J_iload_n (q := 17) C dX6_tookSo_16 rfl rfl 3 rfl ?_
      refine jn_elim h (fun k59 ek59 h => ?_)
      have hk59 : ∀ (t0_59 : Bool), k59 t0_59 = some r → Jd p l e (rmF 4 99) s m args below meth c D 16 ad (celM cI ad) okM 5 (MQ below (QI D (tysC cI cR) 16 ad (celM cI ad) okM (b2i r) σ) args s 0 0 (inA 16 ad)) 59 [(0, .ref (ad 0)), (1, .int a1), (2, .int a2), (4, .int x4)] [.int (b2i t0_59)] σ := by
        intro t0_59 h
        rw [ek59] at h
        refine J_istore_n (q := 60) C dX6_tookSo_59 rfl rfl (by decide) rfl ?_
        refine jn_elim h (fun y1 ey1 h => ?_)
        refine J_iinc (v := y1) (q := 63) C dX6_tookSo_60 rfl 4 rfl (by rw [ey1]; rfl) (by decide) rfl ?_
        refine J_goto (tgt := 5) C dX6_tookSo_63 (by decide) ?_
        refine J_sub [2, 3, 4, 1, 0] rfl ?_
        exact ih _ _ h
      refine jn_elim h (fun k58 ek58 h => ?_)
      have hk58 : k58 = some r → Jd p l e (rmF 4 99) s m args below meth c D 16 ad (celM cI ad) okM 5 (MQ below (QI D (tysC cI cR) 16 ad (celM cI ad) okM (b2i r) σ) args s 0 0 (inA 16 ad)) 58 [(0, .ref (ad 0)), (1, .int a1), (2, .int a2), (4, .int x4)] [] σ := by
        intro  h
        rw [ek58] at h
        refine J_iconst (v := 0 ) (q := 59) C dX6_tookSo_58 rfl rfl ?_
        exact hk59 _ h
      refine J_ifeq_b (tgt := 58) (q := 20) C dX6_tookSo_17 rfl (by decide) h (fun _ h => ?_) (fun _ h => ?_)
      · refine J_aload_n (q := 21) C dX6_tookSo_20 rfl rfl 0 rfl ?_
        refine J_iload_n (q := 22) C dX6_tookSo_21 rfl rfl 2 rfl ?_
        refine J_aload_n (q := 23) C dX6_tookSo_22 rfl rfl 0 rfl ?_
        refine JM_g_X6_rowItem (q := 26) C kF_X6_13 dX6_tookSo_23 rfl ?_
        refine J_bipush (v := 40) (q := 28) C dX6_tookSo_26 rfl rfl ?_
        refine J_iload_n (q := 29) C dX6_tookSo_28 rfl rfl 1 rfl ?_
        refine J_imul (q := 30) C dX6_tookSo_29 rfl ?_
        refine J_iload (q := 32) C dX6_tookSo_30 rfl 4 rfl ?_
        refine J_iadd (q := 33) C dX6_tookSo_32 rfl ?_
        refine JM_iald (q := 34) C isMA_2 h dX6_tookSo_33 rfl (fun h => ?_)
        obtain ⟨r2, ec2, h⟩ := bnd_of h
        refine J_callIV (q := 37) (As := [.int a2, .int (gA σ 2 (((40 : Int32) * a1) + x4).toNatClampNeg)]) C (c_X6_tookBy hap  ec2) ok_X6_tookBy kM_X6_218 (by decide) rfl rfl rfl rfl rfl rfl ⟨Nat.le_of_ble_eq_true rfl, Nat.le_of_ble_eq_true rfl⟩ (Nat.le_of_ble_eq_true rfl) dX6_tookSo_34 rfl ?_
        refine J_aload_n (q := 38) C dX6_tookSo_37 rfl rfl 0 rfl ?_
        refine JM_g_X6_rowItem (q := 41) C kF_X6_13 dX6_tookSo_38 rfl ?_
        refine J_bipush (v := 40) (q := 43) C dX6_tookSo_41 rfl rfl ?_
        refine J_iload_n (q := 44) C dX6_tookSo_43 rfl rfl 1 rfl ?_
        refine J_imul (q := 45) C dX6_tookSo_44 rfl ?_
        refine J_iload (q := 47) C dX6_tookSo_45 rfl 4 rfl ?_
        refine J_iadd (q := 48) C dX6_tookSo_47 rfl ?_
        refine J_iconst (v := 1 ) (q := 49) C dX6_tookSo_48 rfl rfl ?_
        refine J_iadd (q := 50) C dX6_tookSo_49 rfl ?_
        refine JM_iald (q := 51) C isMA_2 h dX6_tookSo_50 rfl (fun h => ?_)
        refine J_icmp_ne (tgt := 58) (q := 54) C dX6_tookSo_51 rfl (by decide) h (fun _ h => ?_) (fun _ h => ?_)
        · refine J_iconst (v := 1 ) (q := 55) C dX6_tookSo_54 rfl rfl ?_
          refine J_goto (tgt := 59) C dX6_tookSo_55 (by decide) ?_
          refine J_sub [0, 1, 2, 4] rfl ?_
          exact hk59 _ h
        · refine J_sub [0, 1, 2, 4] rfl ?_
          exact hk58 h
      · refine J_sub [0, 1, 2, 4] rfl ?_
        exact hk58 h
set_option maxHeartbeats 4000000 in
set_option maxRecDepth 100000 in
theorem c_X6_tookSo {l : Launch} {D : va_G} {cI cR : ClassId} {ad : Nat → Nat} (hap : apN 16 ad) {i1 : Int32} {i2 : Int32} {σ : Sg} {r : Bool}  (h : f_X6_tookSo i1 i2 σ = some r) : MI l D (tysC cI cR) 16 ad (celM cI ad) okM yX6_tookSo cX6_tookSo 5 .boolean 4 99 [.ref (ad 0), .int i1, .int i2] σ (b2i r) σ := by
  unfold f_X6_tookSo at h
  refine entI "WokenYearsModel" hap (by decide +kernel) rfl (Nat.le_of_ble_eq_true rfl) (fun p e s m args below meth c C => ?_)
  refine J_sub (lv' := [(0, .ref (ad 0)), (1, .int i1), (2, .int i2)]) [0, 1, 2] rfl ?_
  refine J_iconst (v := 1 ) (q := 1) C dX6_tookSo_0 rfl rfl ?_
  refine J_istore_n (q := 2) C dX6_tookSo_1 rfl rfl (by decide) rfl ?_
  refine J_iconst (v := 0 ) (q := 3) C dX6_tookSo_2 rfl rfl ?_
  refine J_istore (q := 5) C dX6_tookSo_3 rfl (by decide) rfl ?_
  refine J_sub [2, 3, 4, 1, 0] rfl ?_
  refine cl_X6_tookSo_5 hap C r  (fun v3_66 h => ?_) FU _ _ h
  · refine J_iload_n (q := 67) C dX6_tookSo_66 rfl rfl 0 rfl ?_
    obtain rfl := Option.some.inj h
    exact J_zret (b := _) C dX6_tookSo_67
set_option maxHeartbeats 4000000 in
set_option maxRecDepth 100000 in
theorem cl_X6_kindsBy_4 {p : Program} {l : Launch} {e : Env} {s : State} {m : MethodId} {args : Array Value} {below : List Frame} {meth : Method} {c : Code} {D : va_G} {cI cR : ClassId} {ad : Nat → Nat} (hap : apN 16 ad) (C : Cx p s m args meth c cX6_kindsBy 4 "WokenYearsModel" D (tysC cI cR) 16 ad (some .int)) {a1 : Int32} {k35 : Int32 → Option Int32} {σ : Sg} (r : Int32)  (hk35 : ∀ (u2 : Int32), k35 u2 = some r → Jd p l e (rmF 5 123) s m args below meth c D 16 ad (celM cI ad) okM 4 (MQ below (QI D (tysC cI cR) 16 ad (celM cI ad) okM r σ) args s 0 0 (inA 16 ad)) 35 [(2, .int u2)] [] σ) : ∀ (n : Nat) (x2 : Int32) (x3 : Int32), l_X6_kindsBy_4 a1 σ k35 n x2 x3 = some r → Jd p l e (rmF 5 123) s m args below meth c D 16 ad (celM cI ad) okM 4 (MQ below (QI D (tysC cI cR) 16 ad (celM cI ad) okM r σ) args s 0 0 (inA 16 ad)) 4 [(0, .ref (ad 0)), (1, .int a1), (2, .int x2), (3, .int x3)] [] σ := by
  intro n
  induction n with
  | zero => intro x2 x3 h; cases h
  | succ n ih =>
    intro x2 x3 h
    unfold l_X6_kindsBy_4 at h
    refine J_iload_n (q := 5) C dX6_kindsBy_4 rfl rfl 3 rfl ?_
    refine J_bipush (v := 6) (q := 7) C dX6_kindsBy_5 rfl rfl ?_
    refine J_icmp_ge (tgt := 35) (q := 10) C dX6_kindsBy_7 rfl (by decide) h (fun _ h => ?_) (fun _ h => ?_)
    · refine J_sub [2] rfl ?_
      exact hk35 _ h
    · refine J_iload_n (q := 11) C dX6_kindsBy_10 rfl rfl 2 rfl ?_
      refine J_aload_n (q := 12) C dX6_kindsBy_11 rfl rfl 0 rfl ?_
      refine J_iload_n (q := 13) C dX6_kindsBy_12 rfl rfl 1 rfl ?_
      refine J_iload_n (q := 14) C dX6_kindsBy_13 rfl rfl 3 rfl ?_
      obtain ⟨r1, ec1, h⟩ := bnd_of h
      refine J_callIV (q := 17) (As := [.int a1, .int x3]) C (c_X6_tookSo hap  ec1) ok_X6_tookSo kM_X6_221 (by decide) rfl rfl rfl rfl rfl rfl ⟨Nat.le_of_ble_eq_true rfl, Nat.le_of_ble_eq_true rfl⟩ (Nat.le_of_ble_eq_true rfl) dX6_kindsBy_14 rfl ?_
      refine jn_elim h (fun k27 ek27 h => ?_)
      have hk27 : ∀ (t0_27 : Int32), k27 t0_27 = some r → Jd p l e (rmF 5 123) s m args below meth c D 16 ad (celM cI ad) okM 4 (MQ below (QI D (tysC cI cR) 16 ad (celM cI ad) okM r σ) args s 0 0 (inA 16 ad)) 27 [(0, .ref (ad 0)), (1, .int a1), (3, .int x3)] [.int t0_27, .int x2] σ := by
        intro t0_27 h
        rw [ek27] at h
        refine J_ior (q := 28) C dX6_kindsBy_27 rfl ?_
        refine J_nmi h (fun y2 ey2 h => ?_)
        refine J_istore_n (q := 29) C dX6_kindsBy_28 rfl rfl (by decide) rfl ?_
        refine jn_elim h (fun y3 ey3 h => ?_)
        refine J_iinc (v := y3) (q := 32) C dX6_kindsBy_29 rfl 3 rfl (by rw [ey3]; rfl) (by decide) rfl ?_
        refine J_goto (tgt := 4) C dX6_kindsBy_32 (by decide) ?_
        refine J_sub [2, 3, 1, 0] rfl ?_
        exact ih _ _ h
      refine J_ifeq_b (tgt := 26) (q := 20) C dX6_kindsBy_17 rfl (by decide) h (fun _ h => ?_) (fun _ h => ?_)
      · refine J_iconst (v := 1 ) (q := 21) C dX6_kindsBy_20 rfl rfl ?_
        refine J_iload_n (q := 22) C dX6_kindsBy_21 rfl rfl 3 rfl ?_
        refine J_ishl (q := 23) C dX6_kindsBy_22 rfl ?_
        refine J_goto (tgt := 27) C dX6_kindsBy_23 (by decide) ?_
        refine J_sub [0, 1, 3] rfl ?_
        exact hk27 _ h
      · refine J_iconst (v := 0 ) (q := 27) C dX6_kindsBy_26 rfl rfl ?_
        refine J_sub [0, 1, 3] rfl ?_
        exact hk27 _ h
set_option maxHeartbeats 4000000 in
set_option maxRecDepth 100000 in
theorem c_X6_kindsBy {l : Launch} {D : va_G} {cI cR : ClassId} {ad : Nat → Nat} (hap : apN 16 ad) {i1 : Int32} {σ : Sg} {r : Int32}  (h : f_X6_kindsBy i1 σ = some r) : MI l D (tysC cI cR) 16 ad (celM cI ad) okM yX6_kindsBy cX6_kindsBy 4 .int 5 123 [.ref (ad 0), .int i1] σ r σ := by
  unfold f_X6_kindsBy at h
  refine entI "WokenYearsModel" hap (by decide +kernel) rfl (Nat.le_of_ble_eq_true rfl) (fun p e s m args below meth c C => ?_)
  refine J_sub (lv' := [(0, .ref (ad 0)), (1, .int i1)]) [0, 1] rfl ?_
  refine J_iconst (v := 0 ) (q := 1) C dX6_kindsBy_0 rfl rfl ?_
  refine J_istore_n (q := 2) C dX6_kindsBy_1 rfl rfl (by decide) rfl ?_
  refine J_iconst (v := 0 ) (q := 3) C dX6_kindsBy_2 rfl rfl ?_
  refine J_istore_n (q := 4) C dX6_kindsBy_3 rfl rfl (by decide) rfl ?_
  refine J_sub [2, 3, 1, 0] rfl ?_
  refine cl_X6_kindsBy_4 hap C r  (fun v2_35 h => ?_) FU _ _ h
  · refine J_iload_n (q := 36) C dX6_kindsBy_35 rfl rfl 0 rfl ?_
    obtain rfl := Option.some.inj h
    exact J_iret C dX6_kindsBy_36
set_option maxHeartbeats 4000000 in
set_option maxRecDepth 100000 in
theorem cl_X6_whose_26 {p : Program} {l : Launch} {e : Env} {s : State} {m : MethodId} {args : Array Value} {below : List Frame} {meth : Method} {c : Code} {D : va_G} {cI cR : ClassId} {ad : Nat → Nat} (hap : apN 16 ad) (C : Cx p s m args meth c cX6_whose 4 "WokenYearsModel" D (tysC cI cR) 16 ad (some .int)) {a1 : Int32} {k64 : Int32 → Option (Int32 × Sg)} {σ : Sg} (r : Int32) (σo : Sg)  (hk64 : ∀ (u2 : Int32), k64 u2 = some (r, σo) → Jd p l e (rmF 5 123) s m args below meth c D 16 ad (celM cI ad) okM 4 (MQ below (QI D (tysC cI cR) 16 ad (celM cI ad) okM r σo) args s 0 0 (inA 16 ad)) 64 [(2, .int u2)] [] σ) : ∀ (n : Nat) (x2 : Int32) (x3 : Int32), l_X6_whose_26 a1 σ k64 n x2 x3 = some (r, σo) → Jd p l e (rmF 5 123) s m args below meth c D 16 ad (celM cI ad) okM 4 (MQ below (QI D (tysC cI cR) 16 ad (celM cI ad) okM r σo) args s 0 0 (inA 16 ad)) 26 [(0, .ref (ad 0)), (1, .int a1), (2, .int x2), (3, .int x3)] [] σ := by
  intro n
  induction n with
  | zero => intro x2 x3 h; cases h
  | succ n ih =>
    intro x2 x3 h
    unfold l_X6_whose_26 at h
    refine J_iload_n (q := 27) C dX6_whose_26 rfl rfl 3 rfl ?_
    refine J_aload_n (q := 28) C dX6_whose_27 rfl rfl 0 rfl ?_
    refine JM_g_X6_houses (q := 31) C kF_X6_66 dX6_whose_28 rfl ?_
    refine J_icmp_ge (tgt := 64) (q := 34) C dX6_whose_31 rfl (by decide) h (fun _ h => ?_) (fun _ h => ?_)
    · refine J_sub [2] rfl ?_
      exact hk64 _ h
    · refine J_iload_n (q := 35) C dX6_whose_34 rfl rfl 2 rfl ?_
      refine J_aload_n (q := 36) C dX6_whose_35 rfl rfl 0 rfl ?_
      refine J_iload_n (q := 37) C dX6_whose_36 rfl rfl 1 rfl ?_
      refine J_aload_n (q := 38) C dX6_whose_37 rfl rfl 0 rfl ?_
      refine JM_g_X6_sort (q := 41) C kF_X6_32 dX6_whose_38 rfl ?_
      refine J_iload_n (q := 42) C dX6_whose_41 rfl rfl 3 rfl ?_
      refine JM_iald (q := 43) C isMA_7 h dX6_whose_42 rfl (fun h => ?_)
      obtain ⟨r3, ec3, h⟩ := bnd_of h
      refine J_callIV (q := 46) (As := [.int a1, .int (gA σ 7 x3.toNatClampNeg)]) C (c_X6_tookSo hap  ec3) ok_X6_tookSo kM_X6_221 (by decide) rfl rfl rfl rfl rfl rfl ⟨Nat.le_of_ble_eq_true rfl, Nat.le_of_ble_eq_true rfl⟩ (Nat.le_of_ble_eq_true rfl) dX6_whose_43 rfl ?_
      refine jn_elim h (fun k56 ek56 h => ?_)
      have hk56 : ∀ (t0_56 : Int32), k56 t0_56 = some (r, σo) → Jd p l e (rmF 5 123) s m args below meth c D 16 ad (celM cI ad) okM 4 (MQ below (QI D (tysC cI cR) 16 ad (celM cI ad) okM r σo) args s 0 0 (inA 16 ad)) 56 [(0, .ref (ad 0)), (1, .int a1), (3, .int x3)] [.int t0_56, .int x2] σ := by
        intro t0_56 h
        rw [ek56] at h
        refine J_ior (q := 57) C dX6_whose_56 rfl ?_
        refine J_nmi h (fun y4 ey4 h => ?_)
        refine J_istore_n (q := 58) C dX6_whose_57 rfl rfl (by decide) rfl ?_
        refine jn_elim h (fun y5 ey5 h => ?_)
        refine J_iinc (v := y5) (q := 61) C dX6_whose_58 rfl 3 rfl (by rw [ey5]; rfl) (by decide) rfl ?_
        refine J_goto (tgt := 26) C dX6_whose_61 (by decide) ?_
        refine J_sub [2, 3, 1, 0] rfl ?_
        exact ih _ _ h
      refine J_ifeq_b (tgt := 55) (q := 49) C dX6_whose_46 rfl (by decide) h (fun _ h => ?_) (fun _ h => ?_)
      · refine J_iconst (v := 1 ) (q := 50) C dX6_whose_49 rfl rfl ?_
        refine J_iload_n (q := 51) C dX6_whose_50 rfl rfl 3 rfl ?_
        refine J_ishl (q := 52) C dX6_whose_51 rfl ?_
        refine J_goto (tgt := 56) C dX6_whose_52 (by decide) ?_
        refine J_sub [0, 1, 3] rfl ?_
        exact hk56 _ h
      · refine J_iconst (v := 0 ) (q := 56) C dX6_whose_55 rfl rfl ?_
        refine J_sub [0, 1, 3] rfl ?_
        exact hk56 _ h
set_option maxHeartbeats 4000000 in
set_option maxRecDepth 100000 in
theorem c_X6_whose {l : Launch} {D : va_G} {cI cR : ClassId} {ad : Nat → Nat} (hap : apN 16 ad) {i1 : Int32} {σ : Sg} {r : Int32} {σo : Sg}  (h : f_X6_whose i1 σ = some (r, σo)) : MI l D (tysC cI cR) 16 ad (celM cI ad) okM yX6_whose cX6_whose 4 .int 5 123 [.ref (ad 0), .int i1] σ r σo := by
  unfold f_X6_whose at h
  refine entI "WokenYearsModel" hap (by decide +kernel) rfl (Nat.le_of_ble_eq_true rfl) (fun p e s m args below meth c C => ?_)
  refine J_sub (lv' := [(0, .ref (ad 0)), (1, .int i1)]) [0, 1] rfl ?_
  refine J_iload_n (q := 1) C dX6_whose_0 rfl rfl 1 rfl ?_
  refine J_iconst (v := 0 ) (q := 2) C dX6_whose_1 rfl rfl ?_
  refine J_iconst (v := 5 ) (q := 3) C dX6_whose_2 rfl rfl ?_
  obtain ⟨r1, ec1, h⟩ := bnd_of h
  refine J_callIS (q := 6) (As := [.int i1, .int (0 : Int32), .int (5 : Int32)]) C (c_X6_in hap  ec1) ok_X6_in kM_X6_69 rfl rfl rfl ⟨Nat.le_of_ble_eq_true rfl, Nat.le_of_ble_eq_true rfl⟩ (Nat.le_of_ble_eq_true rfl) dX6_whose_3 rfl ?_
  refine J_ifne_b (tgt := 11) (q := 9) C dX6_whose_6 rfl (by decide) h (fun _ h => ?_) (fun _ h => ?_)
  · refine J_aload_n (q := 12) C dX6_whose_11 rfl rfl 0 rfl ?_
    refine J_iload_n (q := 13) C dX6_whose_12 rfl rfl 1 rfl ?_
    obtain ⟨r2, σ2, ec2, h⟩ := bnd2_of h
    refine J_callIV (q := 16) (As := [.int i1]) C (c_X6_wrongPairs hap  ec2) ok_X6_wrongPairs kM_X6_224 (by decide) rfl rfl rfl rfl rfl rfl ⟨Nat.le_of_ble_eq_true rfl, Nat.le_of_ble_eq_true rfl⟩ (Nat.le_of_ble_eq_true rfl) dX6_whose_13 rfl ?_
    refine J_if_eq (tgt := 22) (q := 19) C dX6_whose_16 rfl (by decide) h (fun _ h => ?_) (fun _ h => ?_)
    · refine J_iconst (v := 0 ) (q := 23) C dX6_whose_22 rfl rfl ?_
      refine J_istore_n (q := 24) C dX6_whose_23 rfl rfl (by decide) rfl ?_
      refine J_iconst (v := 0 ) (q := 25) C dX6_whose_24 rfl rfl ?_
      refine J_istore_n (q := 26) C dX6_whose_25 rfl rfl (by decide) rfl ?_
      refine J_sub [2, 3, 1, 0] rfl ?_
      refine cl_X6_whose_26 hap C r σo  (fun v2_64 h => ?_) FU _ _ h
      · refine J_iload_n (q := 65) C dX6_whose_64 rfl rfl 0 rfl ?_
        obtain ⟨rfl, rfl⟩ := Prod.mk.inj (Option.some.inj h)
        exact J_iret C dX6_whose_65
    · refine J_bipush (v := -3) (q := 21) C dX6_whose_19 rfl rfl ?_
      obtain ⟨rfl, rfl⟩ := Prod.mk.inj (Option.some.inj h)
      exact J_iret C dX6_whose_21
  · refine J_iconst (v := -1 ) (q := 10) C dX6_whose_9 rfl rfl ?_
    obtain ⟨rfl, rfl⟩ := Prod.mk.inj (Option.some.inj h)
    exact J_iret C dX6_whose_10
set_option maxHeartbeats 4000000 in
set_option maxRecDepth 100000 in
theorem c_X6_kinds {l : Launch} {D : va_G} {cI cR : ClassId} {ad : Nat → Nat} (hap : apN 16 ad) {i1 : Int32} {σ : Sg} {r : Int32} {σo : Sg}  (h : f_X6_kinds i1 σ = some (r, σo)) : MI l D (tysC cI cR) 16 ad (celM cI ad) okM yX6_kinds cX6_kinds 2 .int 6 146 [.ref (ad 0), .int i1] σ r σo := by
  unfold f_X6_kinds at h
  refine entI "WokenYearsModel" hap (by decide +kernel) rfl (Nat.le_of_ble_eq_true rfl) (fun p e s m args below meth c C => ?_)
  refine J_sub (lv' := [(0, .ref (ad 0)), (1, .int i1)]) [0, 1] rfl ?_
  refine J_iload_n (q := 1) C dX6_kinds_0 rfl rfl 1 rfl ?_
  refine J_iconst (v := 0 ) (q := 2) C dX6_kinds_1 rfl rfl ?_
  refine J_iconst (v := 5 ) (q := 3) C dX6_kinds_2 rfl rfl ?_
  obtain ⟨r1, ec1, h⟩ := bnd_of h
  refine J_callIS (q := 6) (As := [.int i1, .int (0 : Int32), .int (5 : Int32)]) C (c_X6_in hap  ec1) ok_X6_in kM_X6_69 rfl rfl rfl ⟨Nat.le_of_ble_eq_true rfl, Nat.le_of_ble_eq_true rfl⟩ (Nat.le_of_ble_eq_true rfl) dX6_kinds_3 rfl ?_
  refine J_ifne_b (tgt := 11) (q := 9) C dX6_kinds_6 rfl (by decide) h (fun _ h => ?_) (fun _ h => ?_)
  · refine J_aload_n (q := 12) C dX6_kinds_11 rfl rfl 0 rfl ?_
    refine J_iload_n (q := 13) C dX6_kinds_12 rfl rfl 1 rfl ?_
    obtain ⟨r2, σ2, ec2, h⟩ := bnd2_of h
    refine J_callIV (q := 16) (As := [.int i1]) C (c_X6_wrongPairs hap  ec2) ok_X6_wrongPairs kM_X6_224 (by decide) rfl rfl rfl rfl rfl rfl ⟨Nat.le_of_ble_eq_true rfl, Nat.le_of_ble_eq_true rfl⟩ (Nat.le_of_ble_eq_true rfl) dX6_kinds_13 rfl ?_
    refine J_if_eq (tgt := 24) (q := 19) C dX6_kinds_16 rfl (by decide) h (fun _ h => ?_) (fun _ h => ?_)
    · refine J_aload_n (q := 25) C dX6_kinds_24 rfl rfl 0 rfl ?_
      refine J_iload_n (q := 26) C dX6_kinds_25 rfl rfl 1 rfl ?_
      obtain ⟨r3, ec3, h⟩ := bnd_of h
      refine J_callIV (q := 29) (As := [.int i1]) C (c_X6_kindsBy hap  ec3) ok_X6_kindsBy kM_X6_227 (by decide) rfl rfl rfl rfl rfl rfl ⟨Nat.le_of_ble_eq_true rfl, Nat.le_of_ble_eq_true rfl⟩ (Nat.le_of_ble_eq_true rfl) dX6_kinds_26 rfl ?_
      obtain ⟨rfl, rfl⟩ := Prod.mk.inj (Option.some.inj h)
      exact J_iret C dX6_kinds_29
    · refine J_bipush (v := -3) (q := 21) C dX6_kinds_19 rfl rfl ?_
      refine J_goto (tgt := 29) C dX6_kinds_21 (by decide) ?_
      obtain ⟨rfl, rfl⟩ := Prod.mk.inj (Option.some.inj h)
      exact J_iret C dX6_kinds_29
  · refine J_iconst (v := -1 ) (q := 10) C dX6_kinds_9 rfl rfl ?_
    obtain ⟨rfl, rfl⟩ := Prod.mk.inj (Option.some.inj h)
    exact J_iret C dX6_kinds_10
set_option maxHeartbeats 4000000 in
set_option maxRecDepth 100000 in
theorem cl_X6_test_70 {p : Program} {l : Launch} {e : Env} {s : State} {m : MethodId} {args : Array Value} {below : List Frame} {meth : Method} {c : Code} {D : va_G} {cI cR : ClassId} {ad : Nat → Nat} (hap : apN 16 ad) (C : Cx p s m args meth c cX6_test 10 "WokenYearsModel" D (tysC cI cR) 16 ad (some .int)) {a2 : Int32} {a3 : Int32} {a4 : Int32} {a5 : Int32} {a6 : Int32} {a7 : Int32} {k130 : Int32 → Option (Int32 × Sg)} {σ : Sg} (r : Int32) (σo : Sg)  (hk130 : ∀ (u8 : Int32), k130 u8 = some (r, σo) → Jd p l e (rmF 6 146) s m args below meth c D 16 ad (celM cI ad) okM 10 (MQ below (QI D (tysC cI cR) 16 ad (celM cI ad) okM r σo) args s 0 0 (inA 16 ad)) 130 [(0, .ref (ad 0)), (2, .int a2), (3, .int a3), (4, .int a4), (5, .int a5), (6, .int a6), (7, .int a7), (8, .int u8)] [] σ) : ∀ (n : Nat) (x8 : Int32) (x9 : Int32), l_X6_test_70 a2 a3 a4 a5 a6 a7 σ k130 n x8 x9 = some (r, σo) → Jd p l e (rmF 6 146) s m args below meth c D 16 ad (celM cI ad) okM 10 (MQ below (QI D (tysC cI cR) 16 ad (celM cI ad) okM r σo) args s 0 0 (inA 16 ad)) 70 [(0, .ref (ad 0)), (2, .int a2), (3, .int a3), (4, .int a4), (5, .int a5), (6, .int a6), (7, .int a7), (8, .int x8), (9, .int x9)] [] σ := by
  intro n
  induction n with
  | zero => intro x8 x9 h; cases h
  | succ n ih =>
    intro x8 x9 h
    unfold l_X6_test_70 at h
    refine J_iload (q := 72) C dX6_test_70 rfl 8 rfl ?_
    refine J_bipush (v := 6) (q := 74) C dX6_test_72 rfl rfl ?_
    refine J_icmp_ge (tgt := 130) (q := 77) C dX6_test_74 rfl (by decide) h (fun _ h => ?_) (fun _ h => ?_)
    · refine J_sub [0, 1, 2, 3, 4, 5, 6, 7] rfl ?_
      exact hk130 _ h
    · refine J_iload (q := 79) C dX6_test_77 rfl 7 rfl ?_
      refine J_iload_n (q := 80) C dX6_test_79 rfl rfl 1 rfl ?_
      refine J_iload (q := 82) C dX6_test_80 rfl 6 rfl ?_
      obtain ⟨r4, ec4, h⟩ := bnd_of h
      refine J_callIS (q := 85) (As := [.int a2, .int a7]) C (c_X6_has hap  ec4) ok_X6_has kM_X6_199 rfl rfl rfl ⟨Nat.le_of_ble_eq_true rfl, Nat.le_of_ble_eq_true rfl⟩ (Nat.le_of_ble_eq_true rfl) dX6_test_82 rfl ?_
      refine jn_elim h (fun k121 ek121 h => ?_)
      have hk121 : ∀ (t0_121 : Bool), k121 t0_121 = some (r, σo) → Jd p l e (rmF 6 146) s m args below meth c D 16 ad (celM cI ad) okM 10 (MQ below (QI D (tysC cI cR) 16 ad (celM cI ad) okM r σo) args s 0 0 (inA 16 ad)) 121 [(0, .ref (ad 0)), (2, .int a2), (3, .int a3), (4, .int a4), (5, .int a5), (6, .int a6), (7, .int a7), (9, .int x9)] [.int (b2i t0_121), .int x8] σ := by
        intro t0_121 h
        rw [ek121] at h
        refine J_iadd (q := 122) C dX6_test_121 rfl ?_
        refine J_nmi h (fun y5 ey5 h => ?_)
        refine J_istore (q := 124) C dX6_test_122 rfl (by decide) rfl ?_
        refine jn_elim h (fun y6 ey6 h => ?_)
        refine J_iinc (v := y6) (q := 127) C dX6_test_124 rfl 8 rfl (by rw [ey6]; rfl) (by decide) rfl ?_
        refine J_goto (tgt := 70) C dX6_test_127 (by decide) ?_
        refine J_sub [2, 3, 4, 5, 6, 7, 8, 1, 0] rfl ?_
        exact ih _ _ h
      refine jn_elim h (fun k120 ek120 h => ?_)
      have hk120 : k120 = some (r, σo) → Jd p l e (rmF 6 146) s m args below meth c D 16 ad (celM cI ad) okM 10 (MQ below (QI D (tysC cI cR) 16 ad (celM cI ad) okM r σo) args s 0 0 (inA 16 ad)) 120 [(0, .ref (ad 0)), (2, .int a2), (3, .int a3), (4, .int a4), (5, .int a5), (6, .int a6), (7, .int a7), (9, .int x9)] [.int x8] σ := by
        intro  h
        rw [ek120] at h
        refine J_iconst (v := 0 ) (q := 121) C dX6_test_120 rfl rfl ?_
        exact hk121 _ h
      refine J_ifeq_b (tgt := 120) (q := 88) C dX6_test_85 rfl (by decide) h (fun _ h => ?_) (fun _ h => ?_)
      · refine J_iload_n (q := 89) C dX6_test_88 rfl rfl 1 rfl ?_
        refine J_iload (q := 91) C dX6_test_89 rfl 8 rfl ?_
        obtain ⟨r7, ec7, h⟩ := bnd_of h
        refine J_callIS (q := 94) (As := [.int a2, .int x9]) C (c_X6_has hap  ec7) ok_X6_has kM_X6_199 rfl rfl rfl ⟨Nat.le_of_ble_eq_true rfl, Nat.le_of_ble_eq_true rfl⟩ (Nat.le_of_ble_eq_true rfl) dX6_test_91 rfl ?_
        refine J_ifeq_b (tgt := 120) (q := 97) C dX6_test_94 rfl (by decide) h (fun _ h => ?_) (fun _ h => ?_)
        · refine J_aload_n (q := 98) C dX6_test_97 rfl rfl 0 rfl ?_
          refine J_iload (q := 100) C dX6_test_98 rfl 6 rfl ?_
          refine J_iload (q := 102) C dX6_test_100 rfl 4 rfl ?_
          obtain ⟨r8, ec8, h⟩ := bnd_of h
          refine J_callIV (q := 105) (As := [.int a7, .int a5]) C (c_X6_tookBy hap  ec8) ok_X6_tookBy kM_X6_218 (by decide) rfl rfl rfl rfl rfl rfl ⟨Nat.le_of_ble_eq_true rfl, Nat.le_of_ble_eq_true rfl⟩ (Nat.le_of_ble_eq_true rfl) dX6_test_102 rfl ?_
          refine J_aload_n (q := 106) C dX6_test_105 rfl rfl 0 rfl ?_
          refine J_iload (q := 108) C dX6_test_106 rfl 8 rfl ?_
          refine J_iload (q := 110) C dX6_test_108 rfl 4 rfl ?_
          obtain ⟨r9, ec9, h⟩ := bnd_of h
          refine J_callIV (q := 113) (As := [.int x9, .int a5]) C (c_X6_tookBy hap  ec9) ok_X6_tookBy kM_X6_218 (by decide) rfl rfl rfl rfl rfl rfl ⟨Nat.le_of_ble_eq_true rfl, Nat.le_of_ble_eq_true rfl⟩ (Nat.le_of_ble_eq_true rfl) dX6_test_110 rfl ?_
          refine J_icmp_ne (tgt := 120) (q := 116) C dX6_test_113 rfl (by decide) h (fun _ h => ?_) (fun _ h => ?_)
          · refine J_iconst (v := 1 ) (q := 117) C dX6_test_116 rfl rfl ?_
            refine J_goto (tgt := 121) C dX6_test_117 (by decide) ?_
            refine J_sub [0, 1, 2, 3, 4, 5, 6, 8] rfl ?_
            exact hk121 _ h
          · refine J_sub [0, 1, 2, 3, 4, 5, 6, 8] rfl ?_
            exact hk120 h
        · refine J_sub [0, 1, 2, 3, 4, 5, 6, 8] rfl ?_
          exact hk120 h
      · refine J_sub [0, 1, 2, 3, 4, 5, 6, 8] rfl ?_
        exact hk120 h
set_option maxHeartbeats 4000000 in
set_option maxRecDepth 100000 in
theorem cl_X6_test_57 {p : Program} {l : Launch} {e : Env} {s : State} {m : MethodId} {args : Array Value} {below : List Frame} {meth : Method} {c : Code} {D : va_G} {cI cR : ClassId} {ad : Nat → Nat} (hap : apN 16 ad) (C : Cx p s m args meth c cX6_test 10 "WokenYearsModel" D (tysC cI cR) 16 ad (some .int)) {a2 : Int32} {a3 : Int32} {a4 : Int32} {a5 : Int32} {k152 : Int32 → Option (Int32 × Sg)} {σ : Sg} (r : Int32) (σo : Sg)  (hk152 : ∀ (u6 : Int32), k152 u6 = some (r, σo) → Jd p l e (rmF 6 146) s m args below meth c D 16 ad (celM cI ad) okM 10 (MQ below (QI D (tysC cI cR) 16 ad (celM cI ad) okM r σo) args s 0 0 (inA 16 ad)) 152 [(0, .ref (ad 0)), (2, .int a2), (3, .int a3), (4, .int a4), (5, .int a5), (6, .int u6)] [] σ) : ∀ (n : Nat) (x6 : Int32) (x7 : Int32), l_X6_test_57 a2 a3 a4 a5 σ k152 n x6 x7 = some (r, σo) → Jd p l e (rmF 6 146) s m args below meth c D 16 ad (celM cI ad) okM 10 (MQ below (QI D (tysC cI cR) 16 ad (celM cI ad) okM r σo) args s 0 0 (inA 16 ad)) 57 [(0, .ref (ad 0)), (2, .int a2), (3, .int a3), (4, .int a4), (5, .int a5), (6, .int x6), (7, .int x7)] [] σ := by
  intro n
  induction n with
  | zero => intro x6 x7 h; cases h
  | succ n ih =>
    intro x6 x7 h
    unfold l_X6_test_57 at h
    refine J_iload (q := 59) C dX6_test_57 rfl 6 rfl ?_
    refine J_bipush (v := 6) (q := 61) C dX6_test_59 rfl rfl ?_
    refine J_icmp_ge (tgt := 152) (q := 64) C dX6_test_61 rfl (by decide) h (fun _ h => ?_) (fun _ h => ?_)
    · refine J_sub [0, 1, 2, 3, 4, 5] rfl ?_
      exact hk152 _ h
    · refine J_iconst (v := 0 ) (q := 65) C dX6_test_64 rfl rfl ?_
      refine J_istore (q := 67) C dX6_test_65 rfl (by decide) rfl ?_
      refine J_iconst (v := 0 ) (q := 68) C dX6_test_67 rfl rfl ?_
      refine J_istore (q := 70) C dX6_test_68 rfl (by decide) rfl ?_
      refine J_sub [2, 3, 4, 5, 6, 7, 8, 1, 0] rfl ?_
      refine cl_X6_test_70 hap C r σo  (fun v8_130 h => ?_) FU _ _ h
      · refine J_iload (q := 132) C dX6_test_130 rfl 7 rfl ?_
        refine J_iload (q := 134) C dX6_test_132 rfl 5 rfl ?_
        refine jn_elim h (fun k144 ek144 h => ?_)
        have hk144 : ∀ (t0_144 : Int32), k144 t0_144 = some (r, σo) → Jd p l e (rmF 6 146) s m args below meth c D 16 ad (celM cI ad) okM 10 (MQ below (QI D (tysC cI cR) 16 ad (celM cI ad) okM r σo) args s 0 0 (inA 16 ad)) 144 [(0, .ref (ad 0)), (2, .int a2), (3, .int a3), (4, .int a4), (5, .int a5), (7, .int x7)] [.int t0_144] σ := by
          intro t0_144 h
          rw [ek144] at h
          refine J_istore (q := 146) C dX6_test_144 rfl (by decide) rfl ?_
          refine jn_elim h (fun y10 ey10 h => ?_)
          refine J_iinc (v := y10) (q := 149) C dX6_test_146 rfl 6 rfl (by rw [ey10]; rfl) (by decide) rfl ?_
          refine J_goto (tgt := 57) C dX6_test_149 (by decide) ?_
          refine J_sub [2, 3, 4, 5, 6, 1, 0] rfl ?_
          exact ih _ _ h
        refine J_icmp_le (tgt := 142) (q := 137) C dX6_test_134 rfl (by decide) h (fun _ h => ?_) (fun _ h => ?_)
        · refine J_iload (q := 144) C dX6_test_142 rfl 5 rfl ?_
          refine J_sub [0, 1, 2, 3, 4, 6] rfl ?_
          exact hk144 _ h
        · refine J_iload (q := 139) C dX6_test_137 rfl 7 rfl ?_
          refine J_goto (tgt := 144) C dX6_test_139 (by decide) ?_
          refine J_sub [0, 1, 2, 3, 4, 6] rfl ?_
          exact hk144 _ h
set_option maxHeartbeats 4000000 in
set_option maxRecDepth 100000 in
theorem cl_X6_test_44 {p : Program} {l : Launch} {e : Env} {s : State} {m : MethodId} {args : Array Value} {below : List Frame} {meth : Method} {c : Code} {D : va_G} {cI cR : ClassId} {ad : Nat → Nat} (hap : apN 16 ad) (C : Cx p s m args meth c cX6_test 10 "WokenYearsModel" D (tysC cI cR) 16 ad (some .int)) {a2 : Int32} {k204 : Int32 → Int32 → Option (Int32 × Sg)} {σ : Sg} (r : Int32) (σo : Sg)  (hk204 : ∀ (u3 : Int32) (u4 : Int32), k204 u3 u4 = some (r, σo) → Jd p l e (rmF 6 146) s m args below meth c D 16 ad (celM cI ad) okM 10 (MQ below (QI D (tysC cI cR) 16 ad (celM cI ad) okM r σo) args s 0 0 (inA 16 ad)) 204 [(0, .ref (ad 0)), (3, .int u3), (4, .int u4)] [] σ) : ∀ (n : Nat) (x3 : Int32) (x4 : Int32) (x5 : Int32), l_X6_test_44 a2 σ k204 n x3 x4 x5 = some (r, σo) → Jd p l e (rmF 6 146) s m args below meth c D 16 ad (celM cI ad) okM 10 (MQ below (QI D (tysC cI cR) 16 ad (celM cI ad) okM r σo) args s 0 0 (inA 16 ad)) 44 [(0, .ref (ad 0)), (2, .int a2), (3, .int x3), (4, .int x4), (5, .int x5)] [] σ := by
  intro n
  induction n with
  | zero => intro x3 x4 x5 h; cases h
  | succ n ih =>
    intro x3 x4 x5 h
    unfold l_X6_test_44 at h
    refine J_iload (q := 46) C dX6_test_44 rfl 4 rfl ?_
    refine J_bipush (v := 100) (q := 48) C dX6_test_46 rfl rfl ?_
    refine J_icmp_ge (tgt := 204) (q := 51) C dX6_test_48 rfl (by decide) h (fun _ h => ?_) (fun _ h => ?_)
    · refine J_sub [0, 2, 3] rfl ?_
      exact hk204 _ _ h
    · refine J_iconst (v := 0 ) (q := 52) C dX6_test_51 rfl rfl ?_
      refine J_istore (q := 54) C dX6_test_52 rfl (by decide) rfl ?_
      refine J_iconst (v := 0 ) (q := 55) C dX6_test_54 rfl rfl ?_
      refine J_istore (q := 57) C dX6_test_55 rfl (by decide) rfl ?_
      refine J_sub [2, 3, 4, 5, 6, 1, 0] rfl ?_
      refine cl_X6_test_57 hap C r σo  (fun v6_152 h => ?_) FU _ _ h
      · refine J_iload_n (q := 153) C dX6_test_152 rfl rfl 2 rfl ?_
        refine J_bipush (v := -9) (q := 155) C dX6_test_153 rfl rfl ?_
        refine jn_elim h (fun k170 ek170 h => ?_)
        have hk170 : ∀ (t0_170 : Bool), k170 t0_170 = some (r, σo) → Jd p l e (rmF 6 146) s m args below meth c D 16 ad (celM cI ad) okM 10 (MQ below (QI D (tysC cI cR) 16 ad (celM cI ad) okM r σo) args s 0 0 (inA 16 ad)) 170 [(0, .ref (ad 0)), (2, .int a2), (3, .int x3), (4, .int x4), (5, .int x5), (6, .int v6_152)] [.int (b2i t0_170)] σ := by
          intro t0_170 h
          rw [ek170] at h
          refine J_istore (q := 172) C dX6_test_170 rfl (by decide) rfl ?_
          refine J_iload (q := 174) C dX6_test_172 rfl 0 rfl ?_
          refine jn_elim h (fun k183 ek183 h => ?_)
          have hk183 : ∀ (t0_183 : Int32), k183 t0_183 = some (r, σo) → Jd p l e (rmF 6 146) s m args below meth c D 16 ad (celM cI ad) okM 10 (MQ below (QI D (tysC cI cR) 16 ad (celM cI ad) okM r σo) args s 0 0 (inA 16 ad)) 183 [(0, .ref (ad 0)), (2, .int a2), (4, .int x4), (5, .int x5), (6, .int v6_152), (7, .int (b2i t0_170))] [.int t0_183] σ := by
            intro t0_183 h
            rw [ek183] at h
            refine J_istore_n (q := 184) C dX6_test_183 rfl rfl (by decide) rfl ?_
            refine J_iload (q := 186) C dX6_test_184 rfl 6 rfl ?_
            refine jn_elim h (fun k196 ek196 h => ?_)
            have hk196 : ∀ (t0_196 : Int32), k196 t0_196 = some (r, σo) → Jd p l e (rmF 6 146) s m args below meth c D 16 ad (celM cI ad) okM 10 (MQ below (QI D (tysC cI cR) 16 ad (celM cI ad) okM r σo) args s 0 0 (inA 16 ad)) 196 [(0, .ref (ad 0)), (2, .int a2), (3, .int t0_183), (5, .int x5)] [.int t0_196] σ := by
              intro t0_196 h
              rw [ek196] at h
              refine J_istore (q := 198) C dX6_test_196 rfl (by decide) rfl ?_
              refine jn_elim h (fun y11 ey11 h => ?_)
              refine J_iinc (v := y11) (q := 201) C dX6_test_198 rfl 4 rfl (by rw [ey11]; rfl) (by decide) rfl ?_
              refine J_goto (tgt := 44) C dX6_test_201 (by decide) ?_
              refine J_sub [2, 3, 4, 1, 0] rfl ?_
              exact ih _ _ _ h
            refine J_ifeq_b (tgt := 194) (q := 189) C dX6_test_186 rfl (by decide) h (fun _ h => ?_) (fun _ h => ?_)
            · refine J_iload (q := 191) C dX6_test_189 rfl 5 rfl ?_
              refine J_goto (tgt := 196) C dX6_test_191 (by decide) ?_
              refine J_sub [1, 2, 0, 4] rfl ?_
              exact hk196 _ h
            · refine J_iload (q := 196) C dX6_test_194 rfl 3 rfl ?_
              refine J_sub [1, 2, 0, 4] rfl ?_
              exact hk196 _ h
          refine J_ifeq_b (tgt := 182) (q := 177) C dX6_test_174 rfl (by decide) h (fun _ h => ?_) (fun _ h => ?_)
          · refine J_iload (q := 179) C dX6_test_177 rfl 5 rfl ?_
            refine J_goto (tgt := 183) C dX6_test_179 (by decide) ?_
            refine J_sub [1, 2, 4, 5, 6, 0] rfl ?_
            exact hk183 _ h
          · refine J_iload_n (q := 183) C dX6_test_182 rfl rfl 3 rfl ?_
            refine J_sub [1, 2, 4, 5, 6, 0] rfl ?_
            exact hk183 _ h
        refine jn_elim h (fun k165 ek165 h => ?_)
        have hk165 : k165 = some (r, σo) → Jd p l e (rmF 6 146) s m args below meth c D 16 ad (celM cI ad) okM 10 (MQ below (QI D (tysC cI cR) 16 ad (celM cI ad) okM r σo) args s 0 0 (inA 16 ad)) 165 [(0, .ref (ad 0)), (2, .int a2), (3, .int x3), (4, .int x4), (5, .int x5), (6, .int v6_152)] [] σ := by
          intro  h
          rw [ek165] at h
          refine J_iconst (v := 1 ) (q := 166) C dX6_test_165 rfl rfl ?_
          refine J_goto (tgt := 170) C dX6_test_166 (by decide) ?_
          exact hk170 _ h
        refine J_icmp_eq (tgt := 165) (q := 158) C dX6_test_155 rfl (by decide) h (fun _ h => ?_) (fun _ h => ?_)
        · exact hk165 h
        · refine J_iload (q := 160) C dX6_test_158 rfl 5 rfl ?_
          refine J_iload (q := 162) C dX6_test_160 rfl 3 rfl ?_
          refine J_icmp_ge (tgt := 169) (q := 165) C dX6_test_162 rfl (by decide) h (fun _ h => ?_) (fun _ h => ?_)
          · refine J_iconst (v := 0 ) (q := 170) C dX6_test_169 rfl rfl ?_
            exact hk170 _ h
          · exact hk165 h
set_option maxHeartbeats 4000000 in
set_option maxRecDepth 100000 in
theorem c_X6_test {l : Launch} {D : va_G} {cI cR : ClassId} {ad : Nat → Nat} (hap : apN 16 ad) {i1 : Int32} {σ : Sg} {r : Int32} {σo : Sg}  (h : f_X6_test i1 σ = some (r, σo)) : MI l D (tysC cI cR) 16 ad (celM cI ad) okM yX6_test cX6_test 10 .int 6 146 [.ref (ad 0), .int i1] σ r σo := by
  unfold f_X6_test at h
  refine entI "WokenYearsModel" hap (by decide +kernel) rfl (Nat.le_of_ble_eq_true rfl) (fun p e s m args below meth c C => ?_)
  refine J_sub (lv' := [(0, .ref (ad 0)), (1, .int i1)]) [0, 1] rfl ?_
  refine J_iload_n (q := 1) C dX6_test_0 rfl rfl 1 rfl ?_
  refine J_iconst (v := 0 ) (q := 2) C dX6_test_1 rfl rfl ?_
  refine J_iconst (v := 5 ) (q := 3) C dX6_test_2 rfl rfl ?_
  obtain ⟨r1, ec1, h⟩ := bnd_of h
  refine J_callIS (q := 6) (As := [.int i1, .int (0 : Int32), .int (5 : Int32)]) C (c_X6_in hap  ec1) ok_X6_in kM_X6_69 rfl rfl rfl ⟨Nat.le_of_ble_eq_true rfl, Nat.le_of_ble_eq_true rfl⟩ (Nat.le_of_ble_eq_true rfl) dX6_test_3 rfl ?_
  refine J_ifne_b (tgt := 11) (q := 9) C dX6_test_6 rfl (by decide) h (fun _ h => ?_) (fun _ h => ?_)
  · refine J_aload_n (q := 12) C dX6_test_11 rfl rfl 0 rfl ?_
    refine J_iload_n (q := 13) C dX6_test_12 rfl rfl 1 rfl ?_
    obtain ⟨r2, σ2, ec2, h⟩ := bnd2_of h
    refine J_callIV (q := 16) (As := [.int i1]) C (c_X6_wrongPairs hap  ec2) ok_X6_wrongPairs kM_X6_224 (by decide) rfl rfl rfl rfl rfl rfl ⟨Nat.le_of_ble_eq_true rfl, Nat.le_of_ble_eq_true rfl⟩ (Nat.le_of_ble_eq_true rfl) dX6_test_13 rfl ?_
    refine J_if_eq (tgt := 22) (q := 19) C dX6_test_16 rfl (by decide) h (fun _ h => ?_) (fun _ h => ?_)
    · refine J_aload_n (q := 23) C dX6_test_22 rfl rfl 0 rfl ?_
      refine J_iload_n (q := 24) C dX6_test_23 rfl rfl 1 rfl ?_
      obtain ⟨r3, ec3, h⟩ := bnd_of h
      refine J_callIV (q := 27) (As := [.int i1]) C (c_X6_kindsBy hap  ec3) ok_X6_kindsBy kM_X6_227 (by decide) rfl rfl rfl rfl rfl rfl ⟨Nat.le_of_ble_eq_true rfl, Nat.le_of_ble_eq_true rfl⟩ (Nat.le_of_ble_eq_true rfl) dX6_test_24 rfl ?_
      refine J_istore_n (q := 28) C dX6_test_27 rfl rfl (by decide) rfl ?_
      refine J_iload_n (q := 29) C dX6_test_28 rfl rfl 0 rfl ?_
      refine J_if_ne (tgt := 35) (q := 32) C dX6_test_29 rfl (by decide) h (fun _ h => ?_) (fun _ h => ?_)
      · refine J_bipush (v := -9) (q := 34) C dX6_test_32 rfl rfl ?_
        obtain ⟨rfl, rfl⟩ := Prod.mk.inj (Option.some.inj h)
        exact J_iret C dX6_test_34
      · refine J_bipush (v := -9) (q := 37) C dX6_test_35 rfl rfl ?_
        refine J_istore_n (q := 38) C dX6_test_37 rfl rfl (by decide) rfl ?_
        refine J_iconst (v := 0 ) (q := 39) C dX6_test_38 rfl rfl ?_
        refine J_istore (q := 41) C dX6_test_39 rfl (by decide) rfl ?_
        refine J_iconst (v := 0 ) (q := 42) C dX6_test_41 rfl rfl ?_
        refine J_istore (q := 44) C dX6_test_42 rfl (by decide) rfl ?_
        refine J_sub [4, 3, 2, 1, 0] rfl ?_
        refine cl_X6_test_44 hap C r σo  (fun v3_204 v4_204 h => ?_) FU _ _ _ h
        · refine J_aload_n (q := 205) C dX6_test_204 rfl rfl 0 rfl ?_
          refine J_iload (q := 207) C dX6_test_205 rfl 2 rfl ?_
          obtain ⟨r12, σ12, ec12, h⟩ := bnd2_of h
          refine J_callIV (q := 210) (As := [.int v4_204]) C (c_X6_tells hap  ec12) ok_X6_tells kM_X6_81 (by decide) rfl rfl rfl rfl rfl rfl ⟨Nat.le_of_ble_eq_true rfl, Nat.le_of_ble_eq_true rfl⟩ (Nat.le_of_ble_eq_true rfl) dX6_test_207 rfl ?_
          refine J_pop (q := 211) C dX6_test_210 rfl rfl ?_
          refine J_iload_n (q := 212) C dX6_test_211 rfl rfl 1 rfl ?_
          obtain ⟨rfl, rfl⟩ := Prod.mk.inj (Option.some.inj h)
          exact J_iret C dX6_test_212
    · refine J_bipush (v := -3) (q := 21) C dX6_test_19 rfl rfl ?_
      obtain ⟨rfl, rfl⟩ := Prod.mk.inj (Option.some.inj h)
      exact J_iret C dX6_test_21
  · refine J_iconst (v := -1 ) (q := 10) C dX6_test_9 rfl rfl ?_
    obtain ⟨rfl, rfl⟩ := Prod.mk.inj (Option.some.inj h)
    exact J_iret C dX6_test_10
set_option maxHeartbeats 4000000 in
set_option maxRecDepth 100000 in
theorem cl_X6_pay_5 {p : Program} {l : Launch} {e : Env} {s : State} {m : MethodId} {args : Array Value} {below : List Frame} {meth : Method} {c : Code} {D : va_G} {cI cR : ClassId} {ad : Nat → Nat} (hap : apN 16 ad) (C : Cx p s m args meth c cX6_pay 5 "WokenYearsModel" D (tysC cI cR) 16 ad (some .boolean)) {a1 : Int32} {a2 : Int32} {k46 : Int32 → Option Bool} {σ : Sg} (r : Bool)  (hk46 : ∀ (u3 : Int32), k46 u3 = some r → Jd p l e (rmF 2 51) s m args below meth c D 16 ad (celM cI ad) okM 5 (MQ below (QI D (tysC cI cR) 16 ad (celM cI ad) okM (b2i r) σ) args s 0 0 (inA 16 ad)) 46 [(2, .int a2), (3, .int u3)] [] σ) : ∀ (n : Nat) (x3 : Int32) (x4 : Int32), l_X6_pay_5 a1 a2 σ k46 n x3 x4 = some r → Jd p l e (rmF 2 51) s m args below meth c D 16 ad (celM cI ad) okM 5 (MQ below (QI D (tysC cI cR) 16 ad (celM cI ad) okM (b2i r) σ) args s 0 0 (inA 16 ad)) 5 [(0, .ref (ad 0)), (1, .int a1), (2, .int a2), (3, .int x3), (4, .int x4)] [] σ := by
  intro n
  induction n with
  | zero => intro x3 x4 h; cases h
  | succ n ih =>
    intro x3 x4 h
    unfold l_X6_pay_5 at h
    refine J_iload (q := 7) C dX6_pay_5 rfl 4 rfl ?_
    refine J_aload_n (q := 8) C dX6_pay_7 rfl rfl 0 rfl ?_
    refine JM_g_X6_houses (q := 11) C kF_X6_66 dX6_pay_8 rfl ?_
    refine J_icmp_ge (tgt := 46) (q := 14) C dX6_pay_11 rfl (by decide) h (fun _ h => ?_) (fun _ h => ?_)
    · refine J_sub [2, 3] rfl ?_
      exact hk46 _ h
    · refine J_iload_n (q := 15) C dX6_pay_14 rfl rfl 3 rfl ?_
      refine J_iload_n (q := 16) C dX6_pay_15 rfl rfl 1 rfl ?_
      refine J_iload (q := 18) C dX6_pay_16 rfl 4 rfl ?_
      obtain ⟨r1, ec1, h⟩ := bnd_of h
      refine J_callIS (q := 21) (As := [.int a1, .int x4]) C (c_X6_has hap  ec1) ok_X6_has kM_X6_199 rfl rfl rfl ⟨Nat.le_of_ble_eq_true rfl, Nat.le_of_ble_eq_true rfl⟩ (Nat.le_of_ble_eq_true rfl) dX6_pay_18 rfl ?_
      refine jn_elim h (fun k38 ek38 h => ?_)
      have hk38 : ∀ (t0_38 : Int32), k38 t0_38 = some r → Jd p l e (rmF 2 51) s m args below meth c D 16 ad (celM cI ad) okM 5 (MQ below (QI D (tysC cI cR) 16 ad (celM cI ad) okM (b2i r) σ) args s 0 0 (inA 16 ad)) 38 [(0, .ref (ad 0)), (1, .int a1), (2, .int a2), (4, .int x4)] [.int t0_38, .int x3] σ := by
        intro t0_38 h
        rw [ek38] at h
        refine J_iadd (q := 39) C dX6_pay_38 rfl ?_
        refine J_nmi h (fun y2 ey2 h => ?_)
        refine J_istore_n (q := 40) C dX6_pay_39 rfl rfl (by decide) rfl ?_
        refine jn_elim h (fun y3 ey3 h => ?_)
        refine J_iinc (v := y3) (q := 43) C dX6_pay_40 rfl 4 rfl (by rw [ey3]; rfl) (by decide) rfl ?_
        refine J_goto (tgt := 5) C dX6_pay_43 (by decide) ?_
        refine J_sub [2, 3, 4, 1, 0] rfl ?_
        exact ih _ _ h
      refine J_ifeq_b (tgt := 37) (q := 24) C dX6_pay_21 rfl (by decide) h (fun _ h => ?_) (fun _ h => ?_)
      · refine J_aload_n (q := 25) C dX6_pay_24 rfl rfl 0 rfl ?_
        refine JM_g_X6_sort (q := 28) C kF_X6_32 dX6_pay_25 rfl ?_
        refine J_iload (q := 30) C dX6_pay_28 rfl 4 rfl ?_
        refine JM_iald (q := 31) C isMA_7 h dX6_pay_30 rfl (fun h => ?_)
        obtain ⟨r4, ec4, h⟩ := bnd_of h
        refine J_callIS (q := 34) (As := [.int (gA σ 7 x4.toNatClampNeg)]) C (c_X6_paysBy hap  ec4) ok_X6_paysBy kM_X6_160 rfl rfl rfl ⟨Nat.le_of_ble_eq_true rfl, Nat.le_of_ble_eq_true rfl⟩ (Nat.le_of_ble_eq_true rfl) dX6_pay_31 rfl ?_
        refine J_goto (tgt := 38) C dX6_pay_34 (by decide) ?_
        refine J_sub [0, 1, 2, 4] rfl ?_
        exact hk38 _ h
      · refine J_iconst (v := 0 ) (q := 38) C dX6_pay_37 rfl rfl ?_
        refine J_sub [0, 1, 2, 4] rfl ?_
        exact hk38 _ h
set_option maxHeartbeats 4000000 in
set_option maxRecDepth 100000 in
theorem c_X6_pay {l : Launch} {D : va_G} {cI cR : ClassId} {ad : Nat → Nat} (hap : apN 16 ad) {i1 : Int32} {i2 : Int32} {σ : Sg} {r : Bool}  (h : f_X6_pay i1 i2 σ = some r) : MI l D (tysC cI cR) 16 ad (celM cI ad) okM yX6_pay cX6_pay 5 .boolean 2 51 [.ref (ad 0), .int i1, .int i2] σ (b2i r) σ := by
  unfold f_X6_pay at h
  refine entI "WokenYearsModel" hap (by decide +kernel) rfl (Nat.le_of_ble_eq_true rfl) (fun p e s m args below meth c C => ?_)
  refine J_sub (lv' := [(0, .ref (ad 0)), (1, .int i1), (2, .int i2)]) [0, 1, 2] rfl ?_
  refine J_iconst (v := 0 ) (q := 1) C dX6_pay_0 rfl rfl ?_
  refine J_istore_n (q := 2) C dX6_pay_1 rfl rfl (by decide) rfl ?_
  refine J_iconst (v := 0 ) (q := 3) C dX6_pay_2 rfl rfl ?_
  refine J_istore (q := 5) C dX6_pay_3 rfl (by decide) rfl ?_
  refine J_sub [2, 3, 4, 1, 0] rfl ?_
  refine cl_X6_pay_5 hap C r  (fun v3_46 h => ?_) FU _ _ h
  · refine J_iload_n (q := 47) C dX6_pay_46 rfl rfl 1 rfl ?_
    refine J_iload_n (q := 48) C dX6_pay_47 rfl rfl 0 rfl ?_
    refine J_icmp_ne (tgt := 55) (q := 51) C dX6_pay_48 rfl (by decide) h (fun _ h => ?_) (fun _ h => ?_)
    · refine J_iconst (v := 1 ) (q := 52) C dX6_pay_51 rfl rfl ?_
      refine J_goto (tgt := 56) C dX6_pay_52 (by decide) ?_
      obtain rfl := Option.some.inj h
      exact J_zret (b := true) C dX6_pay_56
    · refine J_iconst (v := 0 ) (q := 56) C dX6_pay_55 rfl rfl ?_
      obtain rfl := Option.some.inj h
      exact J_zret (b := false) C dX6_pay_56
set_option maxHeartbeats 4000000 in
set_option maxRecDepth 100000 in
theorem cl_X6_sets_37 {p : Program} {l : Launch} {e : Env} {s : State} {m : MethodId} {args : Array Value} {below : List Frame} {meth : Method} {c : Code} {D : va_G} {cI cR : ClassId} {ad : Nat → Nat} (hap : apN 16 ad) (C : Cx p s m args meth c cX6_sets 5 "WokenYearsModel" D (tysC cI cR) 16 ad (some .int)) {a1 : Int32} {k83 : Int32 → Int32 → Option (Int32 × Sg)} {σ : Sg} (r : Int32) (σo : Sg)  (hk83 : ∀ (u2 : Int32) (u3 : Int32), k83 u2 u3 = some (r, σo) → Jd p l e (rmF 3 75) s m args below meth c D 16 ad (celM cI ad) okM 5 (MQ below (QI D (tysC cI cR) 16 ad (celM cI ad) okM r σo) args s 0 0 (inA 16 ad)) 83 [(0, .ref (ad 0)), (2, .int u2), (3, .int u3)] [] σ) : ∀ (n : Nat) (x2 : Int32) (x3 : Int32) (x4 : Int32), l_X6_sets_37 a1 σ k83 n x2 x3 x4 = some (r, σo) → Jd p l e (rmF 3 75) s m args below meth c D 16 ad (celM cI ad) okM 5 (MQ below (QI D (tysC cI cR) 16 ad (celM cI ad) okM r σo) args s 0 0 (inA 16 ad)) 37 [(0, .ref (ad 0)), (1, .int a1), (2, .int x2), (3, .int x3), (4, .int x4)] [] σ := by
  intro n
  induction n with
  | zero => intro x2 x3 x4 h; cases h
  | succ n ih =>
    intro x2 x3 x4 h
    unfold l_X6_sets_37 at h
    refine J_iload (q := 39) C dX6_sets_37 rfl 4 rfl ?_
    refine J_if_lt (tgt := 83) (q := 42) C dX6_sets_39 rfl (by decide) h (fun _ h => ?_) (fun _ h => ?_)
    · refine J_sub [0, 2, 3] rfl ?_
      exact hk83 _ _ h
    · refine J_iload_n (q := 43) C dX6_sets_42 rfl rfl 2 rfl ?_
      refine J_aload_n (q := 44) C dX6_sets_43 rfl rfl 0 rfl ?_
      refine J_iload (q := 46) C dX6_sets_44 rfl 4 rfl ?_
      refine J_iload_n (q := 47) C dX6_sets_46 rfl rfl 1 rfl ?_
      obtain ⟨r3, ec3, h⟩ := bnd_of h
      refine J_callIV (q := 50) (As := [.int x4, .int a1]) C (c_X6_pay hap  ec3) ok_X6_pay kM_X6_230 (by decide) rfl rfl rfl rfl rfl rfl ⟨Nat.le_of_ble_eq_true rfl, Nat.le_of_ble_eq_true rfl⟩ (Nat.le_of_ble_eq_true rfl) dX6_sets_47 rfl ?_
      refine jn_elim h (fun k58 ek58 h => ?_)
      have hk58 : ∀ (t0_58 : Bool), k58 t0_58 = some (r, σo) → Jd p l e (rmF 3 75) s m args below meth c D 16 ad (celM cI ad) okM 5 (MQ below (QI D (tysC cI cR) 16 ad (celM cI ad) okM r σo) args s 0 0 (inA 16 ad)) 58 [(0, .ref (ad 0)), (1, .int a1), (3, .int x3), (4, .int x4)] [.int (b2i t0_58), .int x2] σ := by
        intro t0_58 h
        rw [ek58] at h
        refine J_iadd (q := 59) C dX6_sets_58 rfl ?_
        refine J_nmi h (fun y4 ey4 h => ?_)
        refine J_istore_n (q := 60) C dX6_sets_59 rfl rfl (by decide) rfl ?_
        refine J_aload_n (q := 61) C dX6_sets_60 rfl rfl 1 rfl ?_
        refine J_iload (q := 63) C dX6_sets_61 rfl 4 rfl ?_
        refine J_iload_n (q := 64) C dX6_sets_63 rfl rfl 2 rfl ?_
        obtain ⟨r5, ec5, h⟩ := bnd_of h
        refine J_callIV (q := 67) (As := [.int x4, .int a1]) C (c_X6_pay hap  ec5) ok_X6_pay kM_X6_230 (by decide) rfl rfl rfl rfl rfl rfl ⟨Nat.le_of_ble_eq_true rfl, Nat.le_of_ble_eq_true rfl⟩ (Nat.le_of_ble_eq_true rfl) dX6_sets_64 rfl ?_
        refine jn_elim h (fun k76 ek76 h => ?_)
        have hk76 : ∀ (t0_76 : Int32), k76 t0_76 = some (r, σo) → Jd p l e (rmF 3 75) s m args below meth c D 16 ad (celM cI ad) okM 5 (MQ below (QI D (tysC cI cR) 16 ad (celM cI ad) okM r σo) args s 0 0 (inA 16 ad)) 76 [(0, .ref (ad 0)), (1, .int a1), (2, .int y4), (4, .int x4)] [.int t0_76] σ := by
          intro t0_76 h
          rw [ek76] at h
          refine J_istore_n (q := 77) C dX6_sets_76 rfl rfl (by decide) rfl ?_
          refine jn_elim h (fun y6 ey6 h => ?_)
          refine J_iinc (v := y6) (q := 80) C dX6_sets_77 rfl 4 rfl (by rw [ey6]; rfl) (by decide) rfl ?_
          refine J_goto (tgt := 37) C dX6_sets_80 (by decide) ?_
          refine J_sub [2, 3, 4, 1, 0] rfl ?_
          exact ih _ _ _ h
        refine J_ifeq_b (tgt := 75) (q := 70) C dX6_sets_67 rfl (by decide) h (fun _ h => ?_) (fun _ h => ?_)
        · refine J_iload (q := 72) C dX6_sets_70 rfl 4 rfl ?_
          refine J_goto (tgt := 76) C dX6_sets_72 (by decide) ?_
          refine J_sub [1, 2, 0, 4] rfl ?_
          exact hk76 _ h
        · refine J_iload_n (q := 76) C dX6_sets_75 rfl rfl 3 rfl ?_
          refine J_sub [1, 2, 0, 4] rfl ?_
          exact hk76 _ h
      refine J_ifeq_b (tgt := 57) (q := 53) C dX6_sets_50 rfl (by decide) h (fun _ h => ?_) (fun _ h => ?_)
      · refine J_iconst (v := 1 ) (q := 54) C dX6_sets_53 rfl rfl ?_
        refine J_goto (tgt := 58) C dX6_sets_54 (by decide) ?_
        refine J_sub [0, 1, 3, 4] rfl ?_
        exact hk58 _ h
      · refine J_iconst (v := 0 ) (q := 58) C dX6_sets_57 rfl rfl ?_
        refine J_sub [0, 1, 3, 4] rfl ?_
        exact hk58 _ h
set_option maxHeartbeats 4000000 in
set_option maxRecDepth 100000 in
theorem c_X6_sets {l : Launch} {D : va_G} {cI cR : ClassId} {ad : Nat → Nat} (hap : apN 16 ad) {i1 : Int32} {σ : Sg} {r : Int32} {σo : Sg}  (h : f_X6_sets i1 σ = some (r, σo)) : MI l D (tysC cI cR) 16 ad (celM cI ad) okM yX6_sets cX6_sets 5 .int 3 75 [.ref (ad 0), .int i1] σ r σo := by
  unfold f_X6_sets at h
  refine entI "WokenYearsModel" hap (by decide +kernel) rfl (Nat.le_of_ble_eq_true rfl) (fun p e s m args below meth c C => ?_)
  refine J_sub (lv' := [(0, .ref (ad 0)), (1, .int i1)]) [0, 1] rfl ?_
  refine J_iload_n (q := 1) C dX6_sets_0 rfl rfl 1 rfl ?_
  refine J_iconst (v := 0 ) (q := 2) C dX6_sets_1 rfl rfl ?_
  refine J_bipush (v := 99) (q := 4) C dX6_sets_2 rfl rfl ?_
  obtain ⟨r1, ec1, h⟩ := bnd_of h
  refine J_callIS (q := 7) (As := [.int i1, .int (0 : Int32), .int (99 : Int32)]) C (c_X6_in hap  ec1) ok_X6_in kM_X6_69 rfl rfl rfl ⟨Nat.le_of_ble_eq_true rfl, Nat.le_of_ble_eq_true rfl⟩ (Nat.le_of_ble_eq_true rfl) dX6_sets_4 rfl ?_
  refine J_ifne_b (tgt := 12) (q := 10) C dX6_sets_7 rfl (by decide) h (fun _ h => ?_) (fun _ h => ?_)
  · refine J_aload_n (q := 13) C dX6_sets_12 rfl rfl 0 rfl ?_
    refine JM_g_X6_houses (q := 16) C kF_X6_66 dX6_sets_13 rfl ?_
    refine J_if_ne (tgt := 22) (q := 19) C dX6_sets_16 rfl (by decide) h (fun _ h => ?_) (fun _ h => ?_)
    · refine J_bipush (v := -4) (q := 21) C dX6_sets_19 rfl rfl ?_
      obtain ⟨rfl, rfl⟩ := Prod.mk.inj (Option.some.inj h)
      exact J_iret C dX6_sets_21
    · refine J_iconst (v := 0 ) (q := 23) C dX6_sets_22 rfl rfl ?_
      refine J_istore_n (q := 24) C dX6_sets_23 rfl rfl (by decide) rfl ?_
      refine J_bipush (v := -9) (q := 26) C dX6_sets_24 rfl rfl ?_
      refine J_istore_n (q := 27) C dX6_sets_26 rfl rfl (by decide) rfl ?_
      refine J_iconst (v := 1 ) (q := 28) C dX6_sets_27 rfl rfl ?_
      refine J_aload_n (q := 29) C dX6_sets_28 rfl rfl 2 rfl ?_
      refine JM_g_X6_houses (q := 32) C kF_X6_66 dX6_sets_29 rfl ?_
      refine J_ishl (q := 33) C dX6_sets_32 rfl ?_
      refine J_iconst (v := 1 ) (q := 34) C dX6_sets_33 rfl rfl ?_
      refine J_isub (q := 35) C dX6_sets_34 rfl ?_
      refine J_nmi h (fun y2 ey2 h => ?_)
      refine J_istore (q := 37) C dX6_sets_35 rfl (by decide) rfl ?_
      refine J_sub [3, 4, 2, 1, 0] rfl ?_
      refine cl_X6_sets_37 hap C r σo  (fun v2_83 v3_83 h => ?_) FU _ _ _ h
      · refine J_aload_n (q := 84) C dX6_sets_83 rfl rfl 0 rfl ?_
        refine J_iload_n (q := 85) C dX6_sets_84 rfl rfl 1 rfl ?_
        refine J_i2l (q := 86) C dX6_sets_85 rfl ?_
        refine JM_p_X6_upperNow (q := 89) C kF_X6_233 dX6_sets_86 rfl ?_
        refine jn_elim h (fun σ7 eσ7 h => ?_)
        rw [← eσ7]
        refine J_aload_n (q := 90) C dX6_sets_89 rfl rfl 0 rfl ?_
        refine J_lconst (v := 1) (q := 91) C dX6_sets_90 rfl rfl ?_
        refine JM_p_X6_lowerNow (q := 94) C kF_X6_25 dX6_sets_91 rfl ?_
        refine jn_elim h (fun σ8 eσ8 h => ?_)
        rw [← eσ8]
        refine J_aload_n (q := 95) C dX6_sets_94 rfl rfl 0 rfl ?_
        refine J_iload_n (q := 96) C dX6_sets_95 rfl rfl 2 rfl ?_
        obtain ⟨r9, σ9, ec9, h⟩ := bnd2_of h
        refine J_callIV (q := 99) (As := [.int v3_83]) C (c_X6_tells hap  ec9) ok_X6_tells kM_X6_81 (by decide) rfl rfl rfl rfl rfl rfl ⟨Nat.le_of_ble_eq_true rfl, Nat.le_of_ble_eq_true rfl⟩ (Nat.le_of_ble_eq_true rfl) dX6_sets_96 rfl ?_
        obtain ⟨rfl, rfl⟩ := Prod.mk.inj (Option.some.inj h)
        exact J_iret C dX6_sets_99
  · refine J_iconst (v := -1 ) (q := 11) C dX6_sets_10 rfl rfl ?_
    obtain ⟨rfl, rfl⟩ := Prod.mk.inj (Option.some.inj h)
    exact J_iret C dX6_sets_11
set_option maxHeartbeats 4000000 in
set_option maxRecDepth 100000 in
theorem cl_X6_sure_39 {p : Program} {l : Launch} {e : Env} {s : State} {m : MethodId} {args : Array Value} {below : List Frame} {meth : Method} {c : Code} {D : va_G} {cI cR : ClassId} {ad : Nat → Nat} (hap : apN 16 ad) (C : Cx p s m args meth c cX6_sure 6 "WokenYearsModel" D (tysC cI cR) 16 ad (some .int)) {a1 : Int32} {k79 : Int32 → Int32 → Int32 → Option (Int32 × Sg)} {σ : Sg} (r : Int32) (σo : Sg)  (hk79 : ∀ (u2 : Int32) (u3 : Int32) (u4 : Int32), k79 u2 u3 u4 = some (r, σo) → Jd p l e (rmF 3 75) s m args below meth c D 16 ad (celM cI ad) okM 6 (MQ below (QI D (tysC cI cR) 16 ad (celM cI ad) okM r σo) args s 0 0 (inA 16 ad)) 79 [(0, .ref (ad 0)), (2, .int u2), (3, .int u3), (4, .int u4)] [] σ) : ∀ (n : Nat) (x2 : Int32) (x3 : Int32) (x4 : Int32) (x5 : Int32), l_X6_sure_39 a1 σ k79 n x2 x3 x4 x5 = some (r, σo) → Jd p l e (rmF 3 75) s m args below meth c D 16 ad (celM cI ad) okM 6 (MQ below (QI D (tysC cI cR) 16 ad (celM cI ad) okM r σo) args s 0 0 (inA 16 ad)) 39 [(0, .ref (ad 0)), (1, .int a1), (2, .int x2), (3, .int x3), (4, .int x4), (5, .int x5)] [] σ := by
  intro n
  induction n with
  | zero => intro x2 x3 x4 x5 h; cases h
  | succ n ih =>
    intro x2 x3 x4 x5 h
    unfold l_X6_sure_39 at h
    refine J_iload (q := 41) C dX6_sure_39 rfl 5 rfl ?_
    refine J_iconst (v := 1 ) (q := 42) C dX6_sure_41 rfl rfl ?_
    refine J_aload_n (q := 43) C dX6_sure_42 rfl rfl 0 rfl ?_
    refine JM_g_X6_houses (q := 46) C kF_X6_66 dX6_sure_43 rfl ?_
    refine J_ishl (q := 47) C dX6_sure_46 rfl ?_
    refine J_icmp_ge (tgt := 79) (q := 50) C dX6_sure_47 rfl (by decide) h (fun _ h => ?_) (fun _ h => ?_)
    · refine J_sub [0, 2, 3, 4] rfl ?_
      exact hk79 _ _ _ h
    · refine J_aload_n (q := 51) C dX6_sure_50 rfl rfl 0 rfl ?_
      refine J_iload (q := 53) C dX6_sure_51 rfl 5 rfl ?_
      refine J_iload_n (q := 54) C dX6_sure_53 rfl rfl 1 rfl ?_
      obtain ⟨r3, ec3, h⟩ := bnd_of h
      refine J_callIV (q := 57) (As := [.int x5, .int a1]) C (c_X6_pay hap  ec3) ok_X6_pay kM_X6_230 (by decide) rfl rfl rfl rfl rfl rfl ⟨Nat.le_of_ble_eq_true rfl, Nat.le_of_ble_eq_true rfl⟩ (Nat.le_of_ble_eq_true rfl) dX6_sure_54 rfl ?_
      refine jn_elim h (fun k73 ek73 h => ?_)
      have hk73 : ∀ (u2_73 : Int32) (u3_73 : Int32) (u4_73 : Int32), k73 u2_73 u3_73 u4_73 = some (r, σo) → Jd p l e (rmF 3 75) s m args below meth c D 16 ad (celM cI ad) okM 6 (MQ below (QI D (tysC cI cR) 16 ad (celM cI ad) okM r σo) args s 0 0 (inA 16 ad)) 73 [(0, .ref (ad 0)), (1, .int a1), (2, .int u2_73), (3, .int u3_73), (4, .int u4_73), (5, .int x5)] [] σ := by
        intro u2_73 u3_73 u4_73 h
        rw [ek73] at h
        refine jn_elim h (fun y4 ey4 h => ?_)
        refine J_iinc (v := y4) (q := 76) C dX6_sure_73 rfl 5 rfl (by rw [ey4]; rfl) (by decide) rfl ?_
        refine J_goto (tgt := 39) C dX6_sure_76 (by decide) ?_
        refine J_sub [1, 2, 3, 4, 5, 0] rfl ?_
        exact ih _ _ _ _ h
      refine J_ifeq_b (tgt := 73) (q := 60) C dX6_sure_57 rfl (by decide) h (fun _ h => ?_) (fun _ h => ?_)
      · refine J_iload_n (q := 61) C dX6_sure_60 rfl rfl 2 rfl ?_
        refine J_iload (q := 63) C dX6_sure_61 rfl 5 rfl ?_
        refine J_iand (q := 64) C dX6_sure_63 rfl ?_
        refine J_nmi h (fun y5 ey5 h => ?_)
        refine J_istore_n (q := 65) C dX6_sure_64 rfl rfl (by decide) rfl ?_
        refine J_iload_n (q := 66) C dX6_sure_65 rfl rfl 3 rfl ?_
        refine J_iload (q := 68) C dX6_sure_66 rfl 5 rfl ?_
        refine J_ior (q := 69) C dX6_sure_68 rfl ?_
        refine J_nmi h (fun y6 ey6 h => ?_)
        refine J_istore_n (q := 70) C dX6_sure_69 rfl rfl (by decide) rfl ?_
        refine jn_elim h (fun y7 ey7 h => ?_)
        refine J_iinc (v := y7) (q := 73) C dX6_sure_70 rfl 4 rfl (by rw [ey7]; rfl) (by decide) rfl ?_
        refine J_sub [3, 4, 2, 1, 0, 5] rfl ?_
        exact hk73 _ _ _ h
      · exact hk73 _ _ _ h
set_option maxHeartbeats 4000000 in
set_option maxRecDepth 100000 in
theorem c_X6_sure {l : Launch} {D : va_G} {cI cR : ClassId} {ad : Nat → Nat} (hap : apN 16 ad) {i1 : Int32} {σ : Sg} {r : Int32} {σo : Sg}  (h : f_X6_sure i1 σ = some (r, σo)) : MI l D (tysC cI cR) 16 ad (celM cI ad) okM yX6_sure cX6_sure 6 .int 3 75 [.ref (ad 0), .int i1] σ r σo := by
  unfold f_X6_sure at h
  refine entI "WokenYearsModel" hap (by decide +kernel) rfl (Nat.le_of_ble_eq_true rfl) (fun p e s m args below meth c C => ?_)
  refine J_sub (lv' := [(0, .ref (ad 0)), (1, .int i1)]) [0, 1] rfl ?_
  refine J_iload_n (q := 1) C dX6_sure_0 rfl rfl 1 rfl ?_
  refine J_iconst (v := 0 ) (q := 2) C dX6_sure_1 rfl rfl ?_
  refine J_bipush (v := 99) (q := 4) C dX6_sure_2 rfl rfl ?_
  obtain ⟨r1, ec1, h⟩ := bnd_of h
  refine J_callIS (q := 7) (As := [.int i1, .int (0 : Int32), .int (99 : Int32)]) C (c_X6_in hap  ec1) ok_X6_in kM_X6_69 rfl rfl rfl ⟨Nat.le_of_ble_eq_true rfl, Nat.le_of_ble_eq_true rfl⟩ (Nat.le_of_ble_eq_true rfl) dX6_sure_4 rfl ?_
  refine J_ifne_b (tgt := 12) (q := 10) C dX6_sure_7 rfl (by decide) h (fun _ h => ?_) (fun _ h => ?_)
  · refine J_aload_n (q := 13) C dX6_sure_12 rfl rfl 0 rfl ?_
    refine JM_g_X6_houses (q := 16) C kF_X6_66 dX6_sure_13 rfl ?_
    refine J_if_ne (tgt := 22) (q := 19) C dX6_sure_16 rfl (by decide) h (fun _ h => ?_) (fun _ h => ?_)
    · refine J_bipush (v := -4) (q := 21) C dX6_sure_19 rfl rfl ?_
      obtain ⟨rfl, rfl⟩ := Prod.mk.inj (Option.some.inj h)
      exact J_iret C dX6_sure_21
    · refine J_iconst (v := 1 ) (q := 23) C dX6_sure_22 rfl rfl ?_
      refine J_aload_n (q := 24) C dX6_sure_23 rfl rfl 0 rfl ?_
      refine JM_g_X6_houses (q := 27) C kF_X6_66 dX6_sure_24 rfl ?_
      refine J_ishl (q := 28) C dX6_sure_27 rfl ?_
      refine J_iconst (v := 1 ) (q := 29) C dX6_sure_28 rfl rfl ?_
      refine J_isub (q := 30) C dX6_sure_29 rfl ?_
      refine J_nmi h (fun y2 ey2 h => ?_)
      refine J_istore_n (q := 31) C dX6_sure_30 rfl rfl (by decide) rfl ?_
      refine J_iconst (v := 0 ) (q := 32) C dX6_sure_31 rfl rfl ?_
      refine J_istore_n (q := 33) C dX6_sure_32 rfl rfl (by decide) rfl ?_
      refine J_iconst (v := 0 ) (q := 34) C dX6_sure_33 rfl rfl ?_
      refine J_istore (q := 36) C dX6_sure_34 rfl (by decide) rfl ?_
      refine J_iconst (v := 0 ) (q := 37) C dX6_sure_36 rfl rfl ?_
      refine J_istore (q := 39) C dX6_sure_37 rfl (by decide) rfl ?_
      refine J_sub [4, 5, 3, 2, 1, 0] rfl ?_
      refine cl_X6_sure_39 hap C r σo  (fun v2_79 v3_79 v4_79 h => ?_) FU _ _ _ _ h
      · refine J_iload (q := 81) C dX6_sure_79 rfl 3 rfl ?_
        refine J_if_ne (tgt := 90) (q := 84) C dX6_sure_81 rfl (by decide) h (fun _ h => ?_) (fun _ h => ?_)
        · refine J_aload_n (q := 85) C dX6_sure_84 rfl rfl 0 rfl ?_
          refine J_iconst (v := 4 ) (q := 86) C dX6_sure_85 rfl rfl ?_
          obtain ⟨r8, σ8, ec8, h⟩ := bnd2_of h
          refine J_callIV (q := 89) (As := [.int (4 : Int32)]) C (c_X6_finds hap  ec8) ok_X6_finds kM_X6_73 (by decide) rfl rfl rfl rfl rfl rfl ⟨Nat.le_of_ble_eq_true rfl, Nat.le_of_ble_eq_true rfl⟩ (Nat.le_of_ble_eq_true rfl) dX6_sure_86 rfl ?_
          obtain ⟨rfl, rfl⟩ := Prod.mk.inj (Option.some.inj h)
          exact J_iret C dX6_sure_89
        · refine J_aload_n (q := 91) C dX6_sure_90 rfl rfl 0 rfl ?_
          refine J_iconst (v := 1 ) (q := 92) C dX6_sure_91 rfl rfl ?_
          refine J_aload_n (q := 93) C dX6_sure_92 rfl rfl 0 rfl ?_
          refine JM_g_X6_houses (q := 96) C kF_X6_66 dX6_sure_93 rfl ?_
          refine J_ishl (q := 97) C dX6_sure_96 rfl ?_
          refine J_iconst (v := 1 ) (q := 98) C dX6_sure_97 rfl rfl ?_
          refine J_isub (q := 99) C dX6_sure_98 rfl ?_
          refine J_iload_n (q := 100) C dX6_sure_99 rfl rfl 2 rfl ?_
          refine J_iconst (v := -1 ) (q := 101) C dX6_sure_100 rfl rfl ?_
          refine J_ixor (q := 102) C dX6_sure_101 rfl ?_
          refine J_iand (q := 103) C dX6_sure_102 rfl ?_
          obtain ⟨r9, σ9, ec9, h⟩ := bnd2_of h
          refine J_callIV (q := 106) (As := [.int ((((1 : Int32) <<< ((gS σ 17) &&& 31)) - (1 : Int32)) &&& (v3_79 ^^^ (-1 : Int32)))]) C (c_X6_tells hap  ec9) ok_X6_tells kM_X6_81 (by decide) rfl rfl rfl rfl rfl rfl ⟨Nat.le_of_ble_eq_true rfl, Nat.le_of_ble_eq_true rfl⟩ (Nat.le_of_ble_eq_true rfl) dX6_sure_103 rfl ?_
          refine J_pop (q := 107) C dX6_sure_106 rfl rfl ?_
          refine J_iload_n (q := 108) C dX6_sure_107 rfl rfl 1 rfl ?_
          obtain ⟨rfl, rfl⟩ := Prod.mk.inj (Option.some.inj h)
          exact J_iret C dX6_sure_108
  · refine J_iconst (v := -1 ) (q := 11) C dX6_sure_10 rfl rfl ?_
    obtain ⟨rfl, rfl⟩ := Prod.mk.inj (Option.some.inj h)
    exact J_iret C dX6_sure_11
