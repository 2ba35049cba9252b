set_option maxHeartbeats 4000000 in
set_option maxRecDepth 100000 in
theorem c_X6_walk {l : Launch} {D : va_G} {cI cR : ClassId} {ad : Nat → Nat} (hap : apN 16 ad) {i1 : Int32} {σ : Sg} {r : Int32} {σo : Sg}  (h : f_X6_walk i1 σ = some (r, σo)) : MI l D (tysC cI cR) 16 ad (celM cI ad) okM yX6_walk cX6_walk 2 .int 3 75 [.ref (ad 0), .int i1] σ r σo := by
  unfold f_X6_walk at h
  refine entI "WokenYearsModel" hap (by decide +kernel) rfl (Nat.le_of_ble_eq_true rfl) (fun p e s m args below meth c C => ?_)
  refine J_sub (lv' := [(0, .ref (ad 0)), (1, .int i1)]) [0, 1] rfl ?_
  refine J_aload_n (q := 1) C dX6_walk_0 rfl rfl 0 rfl ?_
  refine J_iload_n (q := 2) C dX6_walk_1 rfl rfl 1 rfl ?_
  obtain ⟨r1, ec1, h⟩ := bnd_of h
  refine J_callIV (q := 5) (As := [.int i1]) C (c_X6_isOne hap  ec1) ok_X6_isOne kM_X6_150 (by decide) rfl rfl rfl rfl rfl rfl ⟨Nat.le_of_ble_eq_true rfl, Nat.le_of_ble_eq_true rfl⟩ (Nat.le_of_ble_eq_true rfl) dX6_walk_2 rfl ?_
  refine J_ifne_b (tgt := 10) (q := 8) C dX6_walk_5 rfl (by decide) h (fun _ h => ?_) (fun _ h => ?_)
  · refine J_iload_n (q := 11) C dX6_walk_10 rfl rfl 1 rfl ?_
    refine J_aload_n (q := 12) C dX6_walk_11 rfl rfl 0 rfl ?_
    refine JM_g_X6_now (q := 15) C kF_X6_38 dX6_walk_12 rfl ?_
    refine J_iconst (v := 2 ) (q := 16) C dX6_walk_15 rfl rfl ?_
    refine JM_iald (q := 17) C isMA_9 h dX6_walk_16 rfl (fun h => ?_)
    refine J_icmp_ne (tgt := 23) (q := 20) C dX6_walk_17 rfl (by decide) h (fun _ h => ?_) (fun _ h => ?_)
    · refine J_bipush (v := -4) (q := 22) C dX6_walk_20 rfl rfl ?_
      obtain ⟨rfl, rfl⟩ := Prod.mk.inj (Option.some.inj h)
      exact J_iret C dX6_walk_22
    · refine J_aload_n (q := 24) C dX6_walk_23 rfl rfl 0 rfl ?_
      refine JM_g_X6_deeds (q := 27) C kF_X6_134 dX6_walk_24 rfl ?_
      refine J_bipush (v := 40) (q := 29) C dX6_walk_27 rfl rfl ?_
      refine J_icmp_ne (tgt := 35) (q := 32) C dX6_walk_29 rfl (by decide) h (fun _ h => ?_) (fun _ h => ?_)
      · refine J_bipush (v := -2) (q := 34) C dX6_walk_32 rfl rfl ?_
        obtain ⟨rfl, rfl⟩ := Prod.mk.inj (Option.some.inj h)
        exact J_iret C dX6_walk_34
      · refine J_aload_n (q := 36) C dX6_walk_35 rfl rfl 0 rfl ?_
        obtain ⟨σ2, ec2, h⟩ := bnd_of h
        refine J_callXV (q := 39) (As := []) C (c_X6_note hap  ec2) ok_X6_note kM_X6_179 (by decide) rfl rfl rfl rfl rfl rfl ⟨Nat.le_of_ble_eq_true rfl, Nat.le_of_ble_eq_true rfl⟩ (Nat.le_of_ble_eq_true rfl) dX6_walk_36 rfl ?_
        refine J_aload_n (q := 40) C dX6_walk_39 rfl rfl 0 rfl ?_
        refine J_iload_n (q := 41) C dX6_walk_40 rfl rfl 1 rfl ?_
        obtain ⟨σ3, ec3, h⟩ := bnd_of h
        refine J_callXV (q := 44) (As := [.int i1]) C (c_X6_goes hap  ec3) ok_X6_goes kM_X6_182 (by decide) rfl rfl rfl rfl rfl rfl ⟨Nat.le_of_ble_eq_true rfl, Nat.le_of_ble_eq_true rfl⟩ (Nat.le_of_ble_eq_true rfl) dX6_walk_41 rfl ?_
        refine J_aload_n (q := 45) C dX6_walk_44 rfl rfl 0 rfl ?_
        refine JM_g_X6_now (q := 48) C kF_X6_38 dX6_walk_45 rfl ?_
        refine J_iconst (v := 0 ) (q := 49) C dX6_walk_48 rfl rfl ?_
        refine JM_iald (q := 50) C isMA_9 h dX6_walk_49 rfl (fun h => ?_)
        obtain ⟨rfl, rfl⟩ := Prod.mk.inj (Option.some.inj h)
        exact J_iret C dX6_walk_50
  · refine J_iconst (v := -1 ) (q := 9) C dX6_walk_8 rfl rfl ?_
    obtain ⟨rfl, rfl⟩ := Prod.mk.inj (Option.some.inj h)
    exact J_iret C dX6_walk_9
set_option maxHeartbeats 4000000 in
set_option maxRecDepth 100000 in
theorem c_X6_tap {l : Launch} {D : va_G} {cI cR : ClassId} {ad : Nat → Nat} (hap : apN 16 ad)  {σ : Sg} {r : Int32} {σo : Sg}  (h : f_X6_tap σ = some (r, σo)) : MI l D (tysC cI cR) 16 ad (celM cI ad) okM yX6_tap cX6_tap 1 .int 5 120 [.ref (ad 0)] σ r σo := by
  unfold f_X6_tap at h
  refine entI "WokenYearsModel" hap (by decide +kernel) rfl (Nat.le_of_ble_eq_true rfl) (fun p e s m args below meth c C => ?_)
  refine J_sub (lv' := [(0, .ref (ad 0))]) [0] rfl ?_
  refine J_aload_n (q := 1) C dX6_tap_0 rfl rfl 0 rfl ?_
  refine JM_g_X6_houses (q := 4) C kF_X6_66 dX6_tap_1 rfl ?_
  refine J_if_ne (tgt := 10) (q := 7) C dX6_tap_4 rfl (by decide) h (fun _ h => ?_) (fun _ h => ?_)
  · refine J_bipush (v := -4) (q := 9) C dX6_tap_7 rfl rfl ?_
    obtain ⟨rfl, rfl⟩ := Prod.mk.inj (Option.some.inj h)
    exact J_iret C dX6_tap_9
  · refine J_aload_n (q := 11) C dX6_tap_10 rfl rfl 0 rfl ?_
    refine JM_g_X6_deeds (q := 14) C kF_X6_134 dX6_tap_11 rfl ?_
    refine J_bipush (v := 40) (q := 16) C dX6_tap_14 rfl rfl ?_
    refine J_icmp_ne (tgt := 22) (q := 19) C dX6_tap_16 rfl (by decide) h (fun _ h => ?_) (fun _ h => ?_)
    · refine J_bipush (v := -2) (q := 21) C dX6_tap_19 rfl rfl ?_
      obtain ⟨rfl, rfl⟩ := Prod.mk.inj (Option.some.inj h)
      exact J_iret C dX6_tap_21
    · refine J_aload_n (q := 23) C dX6_tap_22 rfl rfl 0 rfl ?_
      obtain ⟨σ1, ec1, h⟩ := bnd_of h
      refine J_callXV (q := 26) (As := []) C (c_X6_note hap  ec1) ok_X6_note kM_X6_179 (by decide) rfl rfl rfl rfl rfl rfl ⟨Nat.le_of_ble_eq_true rfl, Nat.le_of_ble_eq_true rfl⟩ (Nat.le_of_ble_eq_true rfl) dX6_tap_23 rfl ?_
      refine J_aload_n (q := 27) C dX6_tap_26 rfl rfl 0 rfl ?_
      obtain ⟨σ2, ec2, h⟩ := bnd_of h
      refine J_callXV (q := 30) (As := []) C (c_X6_taps hap  ec2) ok_X6_taps kM_X6_186 (by decide) rfl rfl rfl rfl rfl rfl ⟨Nat.le_of_ble_eq_true rfl, Nat.le_of_ble_eq_true rfl⟩ (Nat.le_of_ble_eq_true rfl) dX6_tap_27 rfl ?_
      refine J_aload_n (q := 31) C dX6_tap_30 rfl rfl 0 rfl ?_
      refine J_aload_n (q := 32) C dX6_tap_31 rfl rfl 0 rfl ?_
      refine JM_g_X6_now (q := 35) C kF_X6_38 dX6_tap_32 rfl ?_
      refine J_iconst (v := 2 ) (q := 36) C dX6_tap_35 rfl rfl ?_
      refine JM_iald (q := 37) C isMA_9 h dX6_tap_36 rfl (fun h => ?_)
      obtain ⟨r3, ec3, h⟩ := bnd_of h
      refine J_callIV (q := 40) (As := [.int (gA σ2 9 (2 : Int32).toNatClampNeg)]) C (c_X6_isAwake hap  ec3) ok_X6_isAwake kM_X6_140 (by decide) rfl rfl rfl rfl rfl rfl ⟨Nat.le_of_ble_eq_true rfl, Nat.le_of_ble_eq_true rfl⟩ (Nat.le_of_ble_eq_true rfl) dX6_tap_37 rfl ?_
      refine J_ifeq_b (tgt := 47) (q := 43) C dX6_tap_40 rfl (by decide) h (fun _ h => ?_) (fun _ h => ?_)
      · refine J_iconst (v := 1 ) (q := 44) C dX6_tap_43 rfl rfl ?_
        refine J_goto (tgt := 48) C dX6_tap_44 (by decide) ?_
        obtain ⟨rfl, rfl⟩ := Prod.mk.inj (Option.some.inj h)
        exact J_iret C dX6_tap_48
      · refine J_iconst (v := 0 ) (q := 48) C dX6_tap_47 rfl rfl ?_
        obtain ⟨rfl, rfl⟩ := Prod.mk.inj (Option.some.inj h)
        exact J_iret C dX6_tap_48
set_option maxHeartbeats 4000000 in
set_option maxRecDepth 100000 in
theorem c_X6_slate {l : Launch} {D : va_G} {cI cR : ClassId} {ad : Nat → Nat} (hap : apN 16 ad) {i1 : Int32} {i2 : Int32} {σ : Sg} {r : Int32} {σo : Sg}  (h : f_X6_slate i1 i2 σ = some (r, σo)) : MI l D (tysC cI cR) 16 ad (celM cI ad) okM yX6_slate cX6_slate 4 .int 3 75 [.ref (ad 0), .int i1, .int i2] σ r σo := by
  unfold f_X6_slate at h
  refine entI "WokenYearsModel" hap (by decide +kernel) rfl (Nat.le_of_ble_eq_true rfl) (fun p e s m args below meth c C => ?_)
  refine J_sub (lv' := [(0, .ref (ad 0)), (1, .int i1), (2, .int i2)]) [0, 1, 2] rfl ?_
  refine J_aload_n (q := 1) C dX6_slate_0 rfl rfl 0 rfl ?_
  refine J_iload_n (q := 2) C dX6_slate_1 rfl rfl 1 rfl ?_
  obtain ⟨r1, ec1, h⟩ := bnd_of h
  refine J_callIV (q := 5) (As := [.int i1]) C (c_X6_isOne hap  ec1) ok_X6_isOne kM_X6_150 (by decide) rfl rfl rfl rfl rfl rfl ⟨Nat.le_of_ble_eq_true rfl, Nat.le_of_ble_eq_true rfl⟩ (Nat.le_of_ble_eq_true rfl) dX6_slate_2 rfl ?_
  refine J_ifeq_b (tgt := 18) (q := 8) C dX6_slate_5 rfl (by decide) h (fun _ h => ?_) (fun _ h => ?_)
  · refine J_iload_n (q := 9) C dX6_slate_8 rfl rfl 2 rfl ?_
    refine J_iconst (v := 0 ) (q := 10) C dX6_slate_9 rfl rfl ?_
    refine J_bipush (v := 99) (q := 12) C dX6_slate_10 rfl rfl ?_
    obtain ⟨r2, ec2, h⟩ := bnd_of h
    refine J_callIS (q := 15) (As := [.int i2, .int (0 : Int32), .int (99 : Int32)]) C (c_X6_in hap  ec2) ok_X6_in kM_X6_69 rfl rfl rfl ⟨Nat.le_of_ble_eq_true rfl, Nat.le_of_ble_eq_true rfl⟩ (Nat.le_of_ble_eq_true rfl) dX6_slate_12 rfl ?_
    refine J_ifne_b (tgt := 20) (q := 18) C dX6_slate_15 rfl (by decide) h (fun _ h => ?_) (fun _ h => ?_)
    · refine J_aload_n (q := 21) C dX6_slate_20 rfl rfl 0 rfl ?_
      refine JM_g_X6_now (q := 24) C kF_X6_38 dX6_slate_21 rfl ?_
      refine J_iconst (v := 5 ) (q := 25) C dX6_slate_24 rfl rfl ?_
      refine J_iload_n (q := 26) C dX6_slate_25 rfl rfl 1 rfl ?_
      refine J_iadd (q := 27) C dX6_slate_26 rfl ?_
      refine JM_iald (q := 28) C isMA_9 h dX6_slate_27 rfl (fun h => ?_)
      refine J_nmi h (fun y3 ey3 h => ?_)
      refine J_istore_n (q := 29) C dX6_slate_28 rfl rfl (by decide) rfl ?_
      refine J_iload_n (q := 30) C dX6_slate_29 rfl rfl 0 rfl ?_
      refine J_iload_n (q := 31) C dX6_slate_30 rfl rfl 3 rfl ?_
      refine J_icmp_ne (tgt := 37) (q := 34) C dX6_slate_31 rfl (by decide) h (fun _ h => ?_) (fun _ h => ?_)
      · refine J_bipush (v := -4) (q := 36) C dX6_slate_34 rfl rfl ?_
        obtain ⟨rfl, rfl⟩ := Prod.mk.inj (Option.some.inj h)
        exact J_iret C dX6_slate_36
      · refine J_aload_n (q := 38) C dX6_slate_37 rfl rfl 1 rfl ?_
        refine JM_g_X6_deeds (q := 41) C kF_X6_134 dX6_slate_38 rfl ?_
        refine J_bipush (v := 40) (q := 43) C dX6_slate_41 rfl rfl ?_
        refine J_icmp_ne (tgt := 49) (q := 46) C dX6_slate_43 rfl (by decide) h (fun _ h => ?_) (fun _ h => ?_)
        · refine J_bipush (v := -2) (q := 48) C dX6_slate_46 rfl rfl ?_
          obtain ⟨rfl, rfl⟩ := Prod.mk.inj (Option.some.inj h)
          exact J_iret C dX6_slate_48
        · refine J_aload_n (q := 50) C dX6_slate_49 rfl rfl 1 rfl ?_
          obtain ⟨σ4, ec4, h⟩ := bnd_of h
          refine J_callXV (q := 53) (As := []) C (c_X6_note hap  ec4) ok_X6_note kM_X6_179 (by decide) rfl rfl rfl rfl rfl rfl ⟨Nat.le_of_ble_eq_true rfl, Nat.le_of_ble_eq_true rfl⟩ (Nat.le_of_ble_eq_true rfl) dX6_slate_50 rfl ?_
          refine J_aload_n (q := 54) C dX6_slate_53 rfl rfl 1 rfl ?_
          refine J_iload_n (q := 55) C dX6_slate_54 rfl rfl 2 rfl ?_
          refine J_iload_n (q := 56) C dX6_slate_55 rfl rfl 3 rfl ?_
          obtain ⟨σ5, ec5, h⟩ := bnd_of h
          refine J_callXV (q := 59) (As := [.int i1, .int i2]) C (c_X6_changes hap  ec5) ok_X6_changes kM_X6_189 (by decide) rfl rfl rfl rfl rfl rfl ⟨Nat.le_of_ble_eq_true rfl, Nat.le_of_ble_eq_true rfl⟩ (Nat.le_of_ble_eq_true rfl) dX6_slate_56 rfl ?_
          refine J_iload_n (q := 60) C dX6_slate_59 rfl rfl 0 rfl ?_
          obtain ⟨rfl, rfl⟩ := Prod.mk.inj (Option.some.inj h)
          exact J_iret C dX6_slate_60
    · refine J_iconst (v := -1 ) (q := 19) C dX6_slate_18 rfl rfl ?_
      obtain ⟨rfl, rfl⟩ := Prod.mk.inj (Option.some.inj h)
      exact J_iret C dX6_slate_19
  · refine J_iconst (v := -1 ) (q := 19) C dX6_slate_18 rfl rfl ?_
    obtain ⟨rfl, rfl⟩ := Prod.mk.inj (Option.some.inj h)
    exact J_iret C dX6_slate_19
set_option maxHeartbeats 4000000 in
set_option maxRecDepth 100000 in
theorem c_X6_frost {l : Launch} {D : va_G} {cI cR : ClassId} {ad : Nat → Nat} (hap : apN 16 ad) {i1 : Int32} {σ : Sg} {r : Int32} {σo : Sg}  (h : f_X6_frost i1 σ = some (r, σo)) : MI l D (tysC cI cR) 16 ad (celM cI ad) okM yX6_frost cX6_frost 2 .int 3 75 [.ref (ad 0), .int i1] σ r σo := by
  unfold f_X6_frost at h
  refine entI "WokenYearsModel" hap (by decide +kernel) rfl (Nat.le_of_ble_eq_true rfl) (fun p e s m args below meth c C => ?_)
  refine J_sub (lv' := [(0, .ref (ad 0)), (1, .int i1)]) [0, 1] rfl ?_
  refine J_iload_n (q := 1) C dX6_frost_0 rfl rfl 1 rfl ?_
  refine J_iconst (v := 0 ) (q := 2) C dX6_frost_1 rfl rfl ?_
  refine J_iconst (v := 1 ) (q := 3) C dX6_frost_2 rfl rfl ?_
  obtain ⟨r1, ec1, h⟩ := bnd_of h
  refine J_callIS (q := 6) (As := [.int i1, .int (0 : Int32), .int (1 : Int32)]) C (c_X6_in hap  ec1) ok_X6_in kM_X6_69 rfl rfl rfl ⟨Nat.le_of_ble_eq_true rfl, Nat.le_of_ble_eq_true rfl⟩ (Nat.le_of_ble_eq_true rfl) dX6_frost_3 rfl ?_
  refine J_ifne_b (tgt := 11) (q := 9) C dX6_frost_6 rfl (by decide) h (fun _ h => ?_) (fun _ h => ?_)
  · refine J_aload_n (q := 12) C dX6_frost_11 rfl rfl 0 rfl ?_
    refine JM_g_X6_houses (q := 15) C kF_X6_66 dX6_frost_12 rfl ?_
    refine J_if_eq (tgt := 28) (q := 18) C dX6_frost_15 rfl (by decide) h (fun _ h => ?_) (fun _ h => ?_)
    · refine J_bipush (v := -4) (q := 30) C dX6_frost_28 rfl rfl ?_
      obtain ⟨rfl, rfl⟩ := Prod.mk.inj (Option.some.inj h)
      exact J_iret C dX6_frost_30
    · refine J_aload_n (q := 19) C dX6_frost_18 rfl rfl 0 rfl ?_
      refine JM_g_X6_now (q := 22) C kF_X6_38 dX6_frost_19 rfl ?_
      refine J_iconst (v := 3 ) (q := 23) C dX6_frost_22 rfl rfl ?_
      refine JM_iald (q := 24) C isMA_9 h dX6_frost_23 rfl (fun h => ?_)
      refine J_iload_n (q := 25) C dX6_frost_24 rfl rfl 1 rfl ?_
      refine J_icmp_ne (tgt := 31) (q := 28) C dX6_frost_25 rfl (by decide) h (fun _ h => ?_) (fun _ h => ?_)
      · refine J_bipush (v := -4) (q := 30) C dX6_frost_28 rfl rfl ?_
        obtain ⟨rfl, rfl⟩ := Prod.mk.inj (Option.some.inj h)
        exact J_iret C dX6_frost_30
      · refine J_aload_n (q := 32) C dX6_frost_31 rfl rfl 0 rfl ?_
        refine JM_g_X6_deeds (q := 35) C kF_X6_134 dX6_frost_32 rfl ?_
        refine J_bipush (v := 40) (q := 37) C dX6_frost_35 rfl rfl ?_
        refine J_icmp_ne (tgt := 43) (q := 40) C dX6_frost_37 rfl (by decide) h (fun _ h => ?_) (fun _ h => ?_)
        · refine J_bipush (v := -2) (q := 42) C dX6_frost_40 rfl rfl ?_
          obtain ⟨rfl, rfl⟩ := Prod.mk.inj (Option.some.inj h)
          exact J_iret C dX6_frost_42
        · refine J_aload_n (q := 44) C dX6_frost_43 rfl rfl 0 rfl ?_
          obtain ⟨σ2, ec2, h⟩ := bnd_of h
          refine J_callXV (q := 47) (As := []) C (c_X6_note hap  ec2) ok_X6_note kM_X6_179 (by decide) rfl rfl rfl rfl rfl rfl ⟨Nat.le_of_ble_eq_true rfl, Nat.le_of_ble_eq_true rfl⟩ (Nat.le_of_ble_eq_true rfl) dX6_frost_44 rfl ?_
          refine J_aload_n (q := 48) C dX6_frost_47 rfl rfl 0 rfl ?_
          refine JM_g_X6_now (q := 51) C kF_X6_38 dX6_frost_48 rfl ?_
          refine J_iconst (v := 3 ) (q := 52) C dX6_frost_51 rfl rfl ?_
          refine J_iload_n (q := 53) C dX6_frost_52 rfl rfl 1 rfl ?_
          refine JM_iast (q := 54) C isMA_9 h dX6_frost_53 rfl (fun h => ?_)
          refine jn_elim h (fun σ3 eσ3 h => ?_)
          rw [← eσ3]
          refine J_iload_n (q := 55) C dX6_frost_54 rfl rfl 1 rfl ?_
          obtain ⟨rfl, rfl⟩ := Prod.mk.inj (Option.some.inj h)
          exact J_iret C dX6_frost_55
  · refine J_iconst (v := -1 ) (q := 10) C dX6_frost_9 rfl rfl ?_
    obtain ⟨rfl, rfl⟩ := Prod.mk.inj (Option.some.inj h)
    exact J_iret C dX6_frost_10
set_option maxHeartbeats 4000000 in
set_option maxRecDepth 100000 in
theorem cl_X6_night_60 {p : Program} {l : Launch} {e : Env} {s : State} {m : MethodId} {args : Array Value} {below : List Frame} {meth : Method} {c : Code} {D : va_G} {cI cR : ClassId} {ad : Nat → Nat} (hap : apN 16 ad) (C : Cx p s m args meth c cX6_night 3 "WokenYearsModel" D (tysC cI cR) 16 ad (some .int)) {a1 : Int32} {k93 : Sg → Option (Int32 × Sg)} (r : Int32) (σo : Sg)  (hk93 : ∀ (σ1 : Sg), k93 σ1 = some (r, σo) → Jd p l e (rmF 3 75) s m args below meth c D 16 ad (celM cI ad) okM 3 (MQ below (QI D (tysC cI cR) 16 ad (celM cI ad) okM r σo) args s 0 0 (inA 16 ad)) 93 [(1, .int a1)] [] σ1) : ∀ (n : Nat) (x2 : Int32) (σx : Sg), l_X6_night_60 a1 k93 n x2 σx = some (r, σo) → Jd p l e (rmF 3 75) s m args below meth c D 16 ad (celM cI ad) okM 3 (MQ below (QI D (tysC cI cR) 16 ad (celM cI ad) okM r σo) args s 0 0 (inA 16 ad)) 60 [(0, .ref (ad 0)), (1, .int a1), (2, .int x2)] [] σx := by
  intro n
  induction n with
  | zero => intro x2 σx h; cases h
  | succ n ih =>
    intro x2 σx h
    unfold l_X6_night_60 at h
    refine J_iload_n (q := 61) C dX6_night_60 rfl rfl 2 rfl ?_
    refine J_bipush (v := 6) (q := 63) C dX6_night_61 rfl rfl ?_
    refine J_icmp_ge (tgt := 93) (q := 66) C dX6_night_63 rfl (by decide) h (fun _ h => ?_) (fun _ h => ?_)
    · refine J_sub [1] rfl ?_
      exact hk93 _ h
    · refine J_aload_n (q := 67) C dX6_night_66 rfl rfl 0 rfl ?_
      refine JM_g_X6_now (q := 70) C kF_X6_38 dX6_night_67 rfl ?_
      refine J_bipush (v := 11) (q := 72) C dX6_night_70 rfl rfl ?_
      refine J_iload_n (q := 73) C dX6_night_72 rfl rfl 2 rfl ?_
      refine J_iadd (q := 74) C dX6_night_73 rfl ?_
      refine J_iconst (v := 0 ) (q := 75) C dX6_night_74 rfl rfl ?_
      refine JM_iast (q := 76) C isMA_9 h dX6_night_75 rfl (fun h => ?_)
      refine jn_elim h (fun σ7 eσ7 h => ?_)
      rw [← eσ7]
      refine J_aload_n (q := 77) C dX6_night_76 rfl rfl 0 rfl ?_
      refine JM_g_X6_now (q := 80) C kF_X6_38 dX6_night_77 rfl ?_
      refine J_bipush (v := 17) (q := 82) C dX6_night_80 rfl rfl ?_
      refine J_iload_n (q := 83) C dX6_night_82 rfl rfl 2 rfl ?_
      refine J_iadd (q := 84) C dX6_night_83 rfl ?_
      refine J_bipush (v := -9) (q := 86) C dX6_night_84 rfl rfl ?_
      refine JM_iast (q := 87) C isMA_9 h dX6_night_86 rfl (fun h => ?_)
      refine jn_elim h (fun σ8 eσ8 h => ?_)
      rw [← eσ8]
      refine jn_elim h (fun y9 ey9 h => ?_)
      refine J_iinc (v := y9) (q := 90) C dX6_night_87 rfl 2 rfl (by rw [ey9]; rfl) (by decide) rfl ?_
      refine J_goto (tgt := 60) C dX6_night_90 (by decide) ?_
      refine J_sub [1, 2, 0] rfl ?_
      exact ih _ _ h
set_option maxHeartbeats 4000000 in
set_option maxRecDepth 100000 in
theorem c_X6_night {l : Launch} {D : va_G} {cI cR : ClassId} {ad : Nat → Nat} (hap : apN 16 ad)  {σ : Sg} {r : Int32} {σo : Sg}  (h : f_X6_night σ = some (r, σo)) : MI l D (tysC cI cR) 16 ad (celM cI ad) okM yX6_night cX6_night 3 .int 3 75 [.ref (ad 0)] σ r σo := by
  unfold f_X6_night at h
  refine entI "WokenYearsModel" hap (by decide +kernel) rfl (Nat.le_of_ble_eq_true rfl) (fun p e s m args below meth c C => ?_)
  refine J_sub (lv' := [(0, .ref (ad 0))]) [0] rfl ?_
  refine J_aload_n (q := 1) C dX6_night_0 rfl rfl 0 rfl ?_
  refine JM_g_X6_houses (q := 4) C kF_X6_66 dX6_night_1 rfl ?_
  refine J_if_ne (tgt := 10) (q := 7) C dX6_night_4 rfl (by decide) h (fun _ h => ?_) (fun _ h => ?_)
  · refine J_bipush (v := -4) (q := 9) C dX6_night_7 rfl rfl ?_
    obtain ⟨rfl, rfl⟩ := Prod.mk.inj (Option.some.inj h)
    exact J_iret C dX6_night_9
  · refine J_aload_n (q := 11) C dX6_night_10 rfl rfl 0 rfl ?_
    refine JM_g_X6_deeds (q := 14) C kF_X6_134 dX6_night_11 rfl ?_
    refine J_bipush (v := 40) (q := 16) C dX6_night_14 rfl rfl ?_
    refine J_icmp_ne (tgt := 22) (q := 19) C dX6_night_16 rfl (by decide) h (fun _ h => ?_) (fun _ h => ?_)
    · refine J_bipush (v := -2) (q := 21) C dX6_night_19 rfl rfl ?_
      obtain ⟨rfl, rfl⟩ := Prod.mk.inj (Option.some.inj h)
      exact J_iret C dX6_night_21
    · refine J_aload_n (q := 23) C dX6_night_22 rfl rfl 0 rfl ?_
      obtain ⟨σ1, ec1, h⟩ := bnd_of h
      refine J_callXV (q := 26) (As := []) C (c_X6_note hap  ec1) ok_X6_note kM_X6_179 (by decide) rfl rfl rfl rfl rfl rfl ⟨Nat.le_of_ble_eq_true rfl, Nat.le_of_ble_eq_true rfl⟩ (Nat.le_of_ble_eq_true rfl) dX6_night_23 rfl ?_
      refine J_aload_n (q := 27) C dX6_night_26 rfl rfl 0 rfl ?_
      obtain ⟨r2, ec2, h⟩ := bnd_of h
      refine J_callIV (q := 30) (As := []) C (c_X6_awakeOnes hap  ec2) ok_X6_awakeOnes kM_X6_163 (by decide) rfl rfl rfl rfl rfl rfl ⟨Nat.le_of_ble_eq_true rfl, Nat.le_of_ble_eq_true rfl⟩ (Nat.le_of_ble_eq_true rfl) dX6_night_27 rfl ?_
      obtain ⟨r3, ec3, h⟩ := bnd_of h
      refine J_callIS (q := 33) (As := [.int r2]) C (c_X6_bits hap  ec3) ok_X6_bits kM_X6_166 rfl rfl rfl ⟨Nat.le_of_ble_eq_true rfl, Nat.le_of_ble_eq_true rfl⟩ (Nat.le_of_ble_eq_true rfl) dX6_night_30 rfl ?_
      refine J_istore_n (q := 34) C dX6_night_33 rfl rfl (by decide) rfl ?_
      refine J_aload_n (q := 35) C dX6_night_34 rfl rfl 1 rfl ?_
      refine JM_g_X6_now (q := 38) C kF_X6_38 dX6_night_35 rfl ?_
      refine J_iconst (v := 0 ) (q := 39) C dX6_night_38 rfl rfl ?_
      refine J_iconst (v := 0 ) (q := 40) C dX6_night_39 rfl rfl ?_
      refine JM_iast (q := 41) C isMA_9 h dX6_night_40 rfl (fun h => ?_)
      refine jn_elim h (fun σ4 eσ4 h => ?_)
      rw [← eσ4]
      refine J_aload_n (q := 42) C dX6_night_41 rfl rfl 1 rfl ?_
      refine JM_g_X6_now (q := 45) C kF_X6_38 dX6_night_42 rfl ?_
      refine J_iconst (v := 1 ) (q := 46) C dX6_night_45 rfl rfl ?_
      refine J_dup2 (q := 47) C dX6_night_46 rfl rfl rfl ?_
      refine JM_iald (q := 48) C isMA_9 h dX6_night_47 rfl (fun h => ?_)
      refine J_iconst (v := 1 ) (q := 49) C dX6_night_48 rfl rfl ?_
      refine J_iadd (q := 50) C dX6_night_49 rfl ?_
      refine JM_iast (q := 51) C isMA_9 h dX6_night_50 rfl (fun h => ?_)
      refine jn_elim h (fun σ5 eσ5 h => ?_)
      rw [← eσ5]
      refine J_aload_n (q := 52) C dX6_night_51 rfl rfl 1 rfl ?_
      refine JM_g_X6_now (q := 55) C kF_X6_38 dX6_night_52 rfl ?_
      refine J_iconst (v := 2 ) (q := 56) C dX6_night_55 rfl rfl ?_
      refine J_iconst (v := 0 ) (q := 57) C dX6_night_56 rfl rfl ?_
      refine JM_iast (q := 58) C isMA_9 h dX6_night_57 rfl (fun h => ?_)
      refine jn_elim h (fun σ6 eσ6 h => ?_)
      rw [← eσ6]
      refine J_iconst (v := 0 ) (q := 59) C dX6_night_58 rfl rfl ?_
      refine J_istore_n (q := 60) C dX6_night_59 rfl rfl (by decide) rfl ?_
      refine J_sub [2, 1, 0] rfl ?_
      refine cl_X6_night_60 hap C r σo  (fun σv93 h => ?_) FU _ _ h
      · refine J_iload_n (q := 94) C dX6_night_93 rfl rfl 0 rfl ?_
        obtain ⟨rfl, rfl⟩ := Prod.mk.inj (Option.some.inj h)
        exact J_iret C dX6_night_94
set_option maxHeartbeats 4000000 in
set_option maxRecDepth 100000 in
theorem c_X6_undo {l : Launch} {D : va_G} {cI cR : ClassId} {ad : Nat → Nat} (hap : apN 16 ad) {i1 : Int32} {σ : Sg} {r : Int32} {σo : Sg}  (h : f_X6_undo i1 σ = some (r, σo)) : MI l D (tysC cI cR) 16 ad (celM cI ad) okM yX6_undo cX6_undo 3 .int 2 55 [.ref (ad 0), .int i1] σ r σo := by
  unfold f_X6_undo at h
  refine entI "WokenYearsModel" hap (by decide +kernel) rfl (Nat.le_of_ble_eq_true rfl) (fun p e s m args below meth c C => ?_)
  refine J_sub (lv' := [(0, .ref (ad 0)), (1, .int i1)]) [0, 1] rfl ?_
  refine J_iload_n (q := 1) C dX6_undo_0 rfl rfl 1 rfl ?_
  refine J_iconst (v := 0 ) (q := 2) C dX6_undo_1 rfl rfl ?_
  refine J_aload_n (q := 3) C dX6_undo_2 rfl rfl 0 rfl ?_
  refine JM_g_X6_deeds (q := 6) C kF_X6_134 dX6_undo_3 rfl ?_
  obtain ⟨r1, ec1, h⟩ := bnd_of h
  refine J_callIS (q := 9) (As := [.int i1, .int (0 : Int32), .int (gS σ 22)]) C (c_X6_in hap  ec1) ok_X6_in kM_X6_69 rfl rfl rfl ⟨Nat.le_of_ble_eq_true rfl, Nat.le_of_ble_eq_true rfl⟩ (Nat.le_of_ble_eq_true rfl) dX6_undo_6 rfl ?_
  refine J_ifne_b (tgt := 14) (q := 12) C dX6_undo_9 rfl (by decide) h (fun _ h => ?_) (fun _ h => ?_)
  · refine J_aload_n (q := 15) C dX6_undo_14 rfl rfl 0 rfl ?_
    refine JM_g_X6_deeds (q := 18) C kF_X6_134 dX6_undo_15 rfl ?_
    refine J_iload_n (q := 19) C dX6_undo_18 rfl rfl 1 rfl ?_
    refine J_isub (q := 20) C dX6_undo_19 rfl ?_
    refine J_nmi h (fun y2 ey2 h => ?_)
    refine J_istore_n (q := 21) C dX6_undo_20 rfl rfl (by decide) rfl ?_
    refine J_iload_n (q := 22) C dX6_undo_21 rfl rfl 0 rfl ?_
    refine jn_elim h (fun k43 ek43 h => ?_)
    have hk43 : ∀ (σj43 : Sg), k43 σj43 = some (r, σo) → Jd p l e (rmF 2 55) s m args below meth c D 16 ad (celM cI ad) okM 3 (MQ below (QI D (tysC cI cR) 16 ad (celM cI ad) okM r σo) args s 0 0 (inA 16 ad)) 43 [(0, .ref (ad 0)), (1, .int i1), (2, .int y2)] [] σj43 := by
      intro σj43 h
      rw [ek43] at h
      refine J_aload_n (q := 44) C dX6_undo_43 rfl rfl 0 rfl ?_
      refine J_iload_n (q := 45) C dX6_undo_44 rfl rfl 1 rfl ?_
      refine JM_p_X6_deeds (q := 48) C kF_X6_134 dX6_undo_45 rfl ?_
      refine jn_elim h (fun σ3 eσ3 h => ?_)
      rw [← eσ3]
      refine J_iload_n (q := 49) C dX6_undo_48 rfl rfl 2 rfl ?_
      obtain ⟨rfl, rfl⟩ := Prod.mk.inj (Option.some.inj h)
      exact J_iret C dX6_undo_49
    refine J_if_le (tgt := 43) (q := 25) C dX6_undo_22 rfl (by decide) h (fun _ h => ?_) (fun _ h => ?_)
    · refine J_sub [1, 2, 0] rfl ?_
      exact hk43 _ h
    · refine J_aload_n (q := 26) C dX6_undo_25 rfl rfl 1 rfl ?_
      refine JM_g_X6_deed (q := 29) C kF_X6_41 dX6_undo_26 rfl ?_
      refine J_bipush (v := 23) (q := 31) C dX6_undo_29 rfl rfl ?_
      refine J_iload_n (q := 32) C dX6_undo_31 rfl rfl 2 rfl ?_
      refine J_imul (q := 33) C dX6_undo_32 rfl ?_
      refine J_aload_n (q := 34) C dX6_undo_33 rfl rfl 1 rfl ?_
      refine JM_g_X6_now (q := 37) C kF_X6_38 dX6_undo_34 rfl ?_
      refine J_iconst (v := 0 ) (q := 38) C dX6_undo_37 rfl rfl ?_
      refine J_bipush (v := 23) (q := 40) C dX6_undo_38 rfl rfl ?_
      obtain ⟨σ4, ec4, h⟩ := bnd_of h
      refine J_callXS (q := 43) (As := [.ref (ad 10), .int ((23 : Int32) * i1), .ref (ad 9), .int (0 : Int32), .int (23 : Int32)]) C (c_X6_bring hap isMA_10 isMA_9 ec4) ok_X6_bring kM_X6_172 rfl rfl rfl ⟨Nat.le_of_ble_eq_true rfl, Nat.le_of_ble_eq_true rfl⟩ (Nat.le_of_ble_eq_true rfl) dX6_undo_40 rfl ?_
      refine J_sub [1, 2, 0] rfl ?_
      exact hk43 _ h
  · refine J_iconst (v := -1 ) (q := 13) C dX6_undo_12 rfl rfl ?_
    obtain ⟨rfl, rfl⟩ := Prod.mk.inj (Option.some.inj h)
    exact J_iret C dX6_undo_13
set_option maxHeartbeats 4000000 in
set_option maxRecDepth 100000 in
theorem c_X6_keep {l : Launch} {D : va_G} {cI cR : ClassId} {ad : Nat → Nat} (hap : apN 16 ad) {i1 : Int32} {σ : Sg} {r : Int32} {σo : Sg}  (h : f_X6_keep i1 σ = some (r, σo)) : MI l D (tysC cI cR) 16 ad (celM cI ad) okM yX6_keep cX6_keep 2 .int 2 55 [.ref (ad 0), .int i1] σ r σo := by
  unfold f_X6_keep at h
  refine entI "WokenYearsModel" hap (by decide +kernel) rfl (Nat.le_of_ble_eq_true rfl) (fun p e s m args below meth c C => ?_)
  refine J_sub (lv' := [(0, .ref (ad 0)), (1, .int i1)]) [0, 1] rfl ?_
  refine J_iload_n (q := 1) C dX6_keep_0 rfl rfl 1 rfl ?_
  refine J_iconst (v := 0 ) (q := 2) C dX6_keep_1 rfl rfl ?_
  refine J_iconst (v := 2 ) (q := 3) C dX6_keep_2 rfl rfl ?_
  obtain ⟨r1, ec1, h⟩ := bnd_of h
  refine J_callIS (q := 6) (As := [.int i1, .int (0 : Int32), .int (2 : Int32)]) C (c_X6_in hap  ec1) ok_X6_in kM_X6_69 rfl rfl rfl ⟨Nat.le_of_ble_eq_true rfl, Nat.le_of_ble_eq_true rfl⟩ (Nat.le_of_ble_eq_true rfl) dX6_keep_3 rfl ?_
  refine J_ifne_b (tgt := 11) (q := 9) C dX6_keep_6 rfl (by decide) h (fun _ h => ?_) (fun _ h => ?_)
  · refine J_aload_n (q := 12) C dX6_keep_11 rfl rfl 0 rfl ?_
    refine JM_g_X6_houses (q := 15) C kF_X6_66 dX6_keep_12 rfl ?_
    refine J_if_ne (tgt := 21) (q := 18) C dX6_keep_15 rfl (by decide) h (fun _ h => ?_) (fun _ h => ?_)
    · refine J_bipush (v := -4) (q := 20) C dX6_keep_18 rfl rfl ?_
      obtain ⟨rfl, rfl⟩ := Prod.mk.inj (Option.some.inj h)
      exact J_iret C dX6_keep_20
    · refine J_aload_n (q := 22) C dX6_keep_21 rfl rfl 0 rfl ?_
      refine JM_g_X6_now (q := 25) C kF_X6_38 dX6_keep_22 rfl ?_
      refine J_iconst (v := 0 ) (q := 26) C dX6_keep_25 rfl rfl ?_
      refine J_aload_n (q := 27) C dX6_keep_26 rfl rfl 0 rfl ?_
      refine JM_g_X6_keptNow (q := 30) C kF_X6_44 dX6_keep_27 rfl ?_
      refine J_bipush (v := 23) (q := 32) C dX6_keep_30 rfl rfl ?_
      refine J_iload_n (q := 33) C dX6_keep_32 rfl rfl 1 rfl ?_
      refine J_imul (q := 34) C dX6_keep_33 rfl ?_
      refine J_bipush (v := 23) (q := 36) C dX6_keep_34 rfl rfl ?_
      obtain ⟨σ2, ec2, h⟩ := bnd_of h
      refine J_callXS (q := 39) (As := [.ref (ad 9), .int (0 : Int32), .ref (ad 11), .int ((23 : Int32) * i1), .int (23 : Int32)]) C (c_X6_bring hap isMA_9 isMA_11 ec2) ok_X6_bring kM_X6_172 rfl rfl rfl ⟨Nat.le_of_ble_eq_true rfl, Nat.le_of_ble_eq_true rfl⟩ (Nat.le_of_ble_eq_true rfl) dX6_keep_36 rfl ?_
      refine J_aload_n (q := 40) C dX6_keep_39 rfl rfl 0 rfl ?_
      refine JM_g_X6_deed (q := 43) C kF_X6_41 dX6_keep_40 rfl ?_
      refine J_iconst (v := 0 ) (q := 44) C dX6_keep_43 rfl rfl ?_
      refine J_aload_n (q := 45) C dX6_keep_44 rfl rfl 0 rfl ?_
      refine JM_g_X6_keptDeed (q := 48) C kF_X6_47 dX6_keep_45 rfl ?_
      refine J_sipush (v := 920) (q := 51) C dX6_keep_48 rfl rfl ?_
      refine J_iload_n (q := 52) C dX6_keep_51 rfl rfl 1 rfl ?_
      refine J_imul (q := 53) C dX6_keep_52 rfl ?_
      refine J_sipush (v := 920) (q := 56) C dX6_keep_53 rfl rfl ?_
      obtain ⟨σ3, ec3, h⟩ := bnd_of h
      refine J_callXS (q := 59) (As := [.ref (ad 10), .int (0 : Int32), .ref (ad 12), .int ((920 : Int32) * i1), .int (920 : Int32)]) C (c_X6_bring hap isMA_10 isMA_12 ec3) ok_X6_bring kM_X6_172 rfl rfl rfl ⟨Nat.le_of_ble_eq_true rfl, Nat.le_of_ble_eq_true rfl⟩ (Nat.le_of_ble_eq_true rfl) dX6_keep_56 rfl ?_
      refine J_aload_n (q := 60) C dX6_keep_59 rfl rfl 0 rfl ?_
      refine JM_g_X6_keptMany (q := 63) C kF_X6_50 dX6_keep_60 rfl ?_
      refine J_iload_n (q := 64) C dX6_keep_63 rfl rfl 1 rfl ?_
      refine J_aload_n (q := 65) C dX6_keep_64 rfl rfl 0 rfl ?_
      refine JM_g_X6_deeds (q := 68) C kF_X6_134 dX6_keep_65 rfl ?_
      refine JM_iast (q := 69) C isMA_13 h dX6_keep_68 rfl (fun h => ?_)
      refine jn_elim h (fun σ4 eσ4 h => ?_)
      rw [← eσ4]
      refine J_aload_n (q := 70) C dX6_keep_69 rfl rfl 0 rfl ?_
      refine JM_g_X6_deeds (q := 73) C kF_X6_134 dX6_keep_70 rfl ?_
      obtain ⟨rfl, rfl⟩ := Prod.mk.inj (Option.some.inj h)
      exact J_iret C dX6_keep_73
  · refine J_iconst (v := -1 ) (q := 10) C dX6_keep_9 rfl rfl ?_
    obtain ⟨rfl, rfl⟩ := Prod.mk.inj (Option.some.inj h)
    exact J_iret C dX6_keep_10
set_option maxHeartbeats 4000000 in
set_option maxRecDepth 100000 in
theorem c_X6_on {l : Launch} {D : va_G} {cI cR : ClassId} {ad : Nat → Nat} (hap : apN 16 ad) {i1 : Int32} {σ : Sg} {r : Int32} {σo : Sg}  (h : f_X6_on i1 σ = some (r, σo)) : MI l D (tysC cI cR) 16 ad (celM cI ad) okM yX6_on cX6_on 2 .int 2 55 [.ref (ad 0), .int i1] σ r σo := by
  unfold f_X6_on at h
  refine entI "WokenYearsModel" hap (by decide +kernel) rfl (Nat.le_of_ble_eq_true rfl) (fun p e s m args below meth c C => ?_)
  refine J_sub (lv' := [(0, .ref (ad 0)), (1, .int i1)]) [0, 1] rfl ?_
  refine J_iload_n (q := 1) C dX6_on_0 rfl rfl 1 rfl ?_
  refine J_iconst (v := 0 ) (q := 2) C dX6_on_1 rfl rfl ?_
  refine J_iconst (v := 2 ) (q := 3) C dX6_on_2 rfl rfl ?_
  obtain ⟨r1, ec1, h⟩ := bnd_of h
  refine J_callIS (q := 6) (As := [.int i1, .int (0 : Int32), .int (2 : Int32)]) C (c_X6_in hap  ec1) ok_X6_in kM_X6_69 rfl rfl rfl ⟨Nat.le_of_ble_eq_true rfl, Nat.le_of_ble_eq_true rfl⟩ (Nat.le_of_ble_eq_true rfl) dX6_on_3 rfl ?_
  refine J_ifne_b (tgt := 11) (q := 9) C dX6_on_6 rfl (by decide) h (fun _ h => ?_) (fun _ h => ?_)
  · refine J_aload_n (q := 12) C dX6_on_11 rfl rfl 0 rfl ?_
    refine JM_g_X6_keptMany (q := 15) C kF_X6_50 dX6_on_12 rfl ?_
    refine J_iload_n (q := 16) C dX6_on_15 rfl rfl 1 rfl ?_
    refine JM_iald (q := 17) C isMA_13 h dX6_on_16 rfl (fun h => ?_)
    refine J_if_ge (tgt := 26) (q := 20) C dX6_on_17 rfl (by decide) h (fun _ h => ?_) (fun _ h => ?_)
    · refine J_aload_n (q := 27) C dX6_on_26 rfl rfl 0 rfl ?_
      refine JM_g_X6_keptNow (q := 30) C kF_X6_44 dX6_on_27 rfl ?_
      refine J_bipush (v := 23) (q := 32) C dX6_on_30 rfl rfl ?_
      refine J_iload_n (q := 33) C dX6_on_32 rfl rfl 1 rfl ?_
      refine J_imul (q := 34) C dX6_on_33 rfl ?_
      refine J_aload_n (q := 35) C dX6_on_34 rfl rfl 0 rfl ?_
      refine JM_g_X6_now (q := 38) C kF_X6_38 dX6_on_35 rfl ?_
      refine J_iconst (v := 0 ) (q := 39) C dX6_on_38 rfl rfl ?_
      refine J_bipush (v := 23) (q := 41) C dX6_on_39 rfl rfl ?_
      obtain ⟨σ2, ec2, h⟩ := bnd_of h
      refine J_callXS (q := 44) (As := [.ref (ad 11), .int ((23 : Int32) * i1), .ref (ad 9), .int (0 : Int32), .int (23 : Int32)]) C (c_X6_bring hap isMA_11 isMA_9 ec2) ok_X6_bring kM_X6_172 rfl rfl rfl ⟨Nat.le_of_ble_eq_true rfl, Nat.le_of_ble_eq_true rfl⟩ (Nat.le_of_ble_eq_true rfl) dX6_on_41 rfl ?_
      refine J_aload_n (q := 45) C dX6_on_44 rfl rfl 0 rfl ?_
      refine JM_g_X6_keptDeed (q := 48) C kF_X6_47 dX6_on_45 rfl ?_
      refine J_sipush (v := 920) (q := 51) C dX6_on_48 rfl rfl ?_
      refine J_iload_n (q := 52) C dX6_on_51 rfl rfl 1 rfl ?_
      refine J_imul (q := 53) C dX6_on_52 rfl ?_
      refine J_aload_n (q := 54) C dX6_on_53 rfl rfl 0 rfl ?_
      refine JM_g_X6_deed (q := 57) C kF_X6_41 dX6_on_54 rfl ?_
      refine J_iconst (v := 0 ) (q := 58) C dX6_on_57 rfl rfl ?_
      refine J_sipush (v := 920) (q := 61) C dX6_on_58 rfl rfl ?_
      obtain ⟨σ3, ec3, h⟩ := bnd_of h
      refine J_callXS (q := 64) (As := [.ref (ad 12), .int ((920 : Int32) * i1), .ref (ad 10), .int (0 : Int32), .int (920 : Int32)]) C (c_X6_bring hap isMA_12 isMA_10 ec3) ok_X6_bring kM_X6_172 rfl rfl rfl ⟨Nat.le_of_ble_eq_true rfl, Nat.le_of_ble_eq_true rfl⟩ (Nat.le_of_ble_eq_true rfl) dX6_on_61 rfl ?_
      refine J_aload_n (q := 65) C dX6_on_64 rfl rfl 0 rfl ?_
      refine J_aload_n (q := 66) C dX6_on_65 rfl rfl 0 rfl ?_
      refine JM_g_X6_keptMany (q := 69) C kF_X6_50 dX6_on_66 rfl ?_
      refine J_iload_n (q := 70) C dX6_on_69 rfl rfl 1 rfl ?_
      refine JM_iald (q := 71) C isMA_13 h dX6_on_70 rfl (fun h => ?_)
      refine JM_p_X6_deeds (q := 74) C kF_X6_134 dX6_on_71 rfl ?_
      refine jn_elim h (fun σ4 eσ4 h => ?_)
      rw [← eσ4]
      refine J_aload_n (q := 75) C dX6_on_74 rfl rfl 0 rfl ?_
      refine JM_g_X6_deeds (q := 78) C kF_X6_134 dX6_on_75 rfl ?_
      obtain ⟨rfl, rfl⟩ := Prod.mk.inj (Option.some.inj h)
      exact J_iret C dX6_on_78
    · refine J_aload_n (q := 21) C dX6_on_20 rfl rfl 0 rfl ?_
      refine J_iconst (v := 1 ) (q := 22) C dX6_on_21 rfl rfl ?_
      obtain ⟨r5, σ5, ec5, h⟩ := bnd2_of h
      refine J_callIV (q := 25) (As := [.int (1 : Int32)]) C (c_X6_finds hap  ec5) ok_X6_finds kM_X6_73 (by decide) rfl rfl rfl rfl rfl rfl ⟨Nat.le_of_ble_eq_true rfl, Nat.le_of_ble_eq_true rfl⟩ (Nat.le_of_ble_eq_true rfl) dX6_on_22 rfl ?_
      obtain ⟨rfl, rfl⟩ := Prod.mk.inj (Option.some.inj h)
      exact J_iret C dX6_on_25
  · refine J_iconst (v := -1 ) (q := 10) C dX6_on_9 rfl rfl ?_
    obtain ⟨rfl, rfl⟩ := Prod.mk.inj (Option.some.inj h)
    exact J_iret C dX6_on_10
set_option maxHeartbeats 4000000 in
set_option maxRecDepth 100000 in
theorem c_X6_takes {l : Launch} {D : va_G} {cI cR : ClassId} {ad : Nat → Nat} (hap : apN 16 ad) {i1 : Int32} {i2 : Int32} {σ : Sg} {r : Int32}  (h : f_X6_takes i1 i2 σ = some r) : MI l D (tysC cI cR) 16 ad (celM cI ad) okM yX6_takes cX6_takes 3 .int 3 76 [.ref (ad 0), .int i1, .int i2] σ r σ := by
  unfold f_X6_takes at h
  refine entI "WokenYearsModel" hap (by decide +kernel) rfl (Nat.le_of_ble_eq_true rfl) (fun p e s m args below meth c C => ?_)
  refine J_sub (lv' := [(0, .ref (ad 0)), (1, .int i1), (2, .int i2)]) [0, 1, 2] rfl ?_
  refine J_aload_n (q := 1) C dX6_takes_0 rfl rfl 0 rfl ?_
  refine J_iload_n (q := 2) C dX6_takes_1 rfl rfl 1 rfl ?_
  obtain ⟨r1, ec1, h⟩ := bnd_of h
  refine J_callIV (q := 5) (As := [.int i1]) C (c_X6_isOne hap  ec1) ok_X6_isOne kM_X6_150 (by decide) rfl rfl rfl rfl rfl rfl ⟨Nat.le_of_ble_eq_true rfl, Nat.le_of_ble_eq_true rfl⟩ (Nat.le_of_ble_eq_true rfl) dX6_takes_2 rfl ?_
  refine J_ifeq_b (tgt := 32) (q := 8) C dX6_takes_5 rfl (by decide) h (fun _ h => ?_) (fun _ h => ?_)
  · refine J_iload_n (q := 9) C dX6_takes_8 rfl rfl 2 rfl ?_
    refine J_iconst (v := 0 ) (q := 10) C dX6_takes_9 rfl rfl ?_
    refine J_bipush (v := 99) (q := 12) C dX6_takes_10 rfl rfl ?_
    obtain ⟨r2, ec2, h⟩ := bnd_of h
    refine J_callIS (q := 15) (As := [.int i2, .int (0 : Int32), .int (99 : Int32)]) C (c_X6_in hap  ec2) ok_X6_in kM_X6_69 rfl rfl rfl ⟨Nat.le_of_ble_eq_true rfl, Nat.le_of_ble_eq_true rfl⟩ (Nat.le_of_ble_eq_true rfl) dX6_takes_12 rfl ?_
    refine J_ifeq_b (tgt := 32) (q := 18) C dX6_takes_15 rfl (by decide) h (fun _ h => ?_) (fun _ h => ?_)
    · refine J_aload_n (q := 19) C dX6_takes_18 rfl rfl 0 rfl ?_
      refine J_aload_n (q := 20) C dX6_takes_19 rfl rfl 0 rfl ?_
      refine JM_g_X6_sort (q := 23) C kF_X6_32 dX6_takes_20 rfl ?_
      refine J_iload_n (q := 24) C dX6_takes_23 rfl rfl 1 rfl ?_
      refine JM_iald (q := 25) C isMA_7 h dX6_takes_24 rfl (fun h => ?_)
      refine J_iload_n (q := 26) C dX6_takes_25 rfl rfl 2 rfl ?_
      obtain ⟨r3, ec3, h⟩ := bnd_of h
      refine J_callIV (q := 29) (As := [.int (gA σ 7 i1.toNatClampNeg), .int i2]) C (c_X6_takesBy hap  ec3) ok_X6_takesBy kM_X6_137 (by decide) rfl rfl rfl rfl rfl rfl ⟨Nat.le_of_ble_eq_true rfl, Nat.le_of_ble_eq_true rfl⟩ (Nat.le_of_ble_eq_true rfl) dX6_takes_26 rfl ?_
      refine J_goto (tgt := 33) C dX6_takes_29 (by decide) ?_
      obtain rfl := Option.some.inj h
      exact J_iret C dX6_takes_33
    · refine J_iconst (v := -1 ) (q := 33) C dX6_takes_32 rfl rfl ?_
      obtain rfl := Option.some.inj h
      exact J_iret C dX6_takes_33
  · refine J_iconst (v := -1 ) (q := 33) C dX6_takes_32 rfl rfl ?_
    obtain rfl := Option.some.inj h
    exact J_iret C dX6_takes_33
set_option maxHeartbeats 4000000 in
set_option maxRecDepth 100000 in
theorem c_X6_pays {l : Launch} {D : va_G} {cI cR : ClassId} {ad : Nat → Nat} (hap : apN 16 ad) {i1 : Int32} {σ : Sg} {r : Int32}  (h : f_X6_pays i1 σ = some r) : MI l D (tysC cI cR) 16 ad (celM cI ad) okM yX6_pays cX6_pays 2 .int 3 73 [.ref (ad 0), .int i1] σ r σ := by
  unfold f_X6_pays at h
  refine entI "WokenYearsModel" hap (by decide +kernel) rfl (Nat.le_of_ble_eq_true rfl) (fun p e s m args below meth c C => ?_)
  refine J_sub (lv' := [(0, .ref (ad 0)), (1, .int i1)]) [0, 1] rfl ?_
  refine J_aload_n (q := 1) C dX6_pays_0 rfl rfl 0 rfl ?_
  refine J_iload_n (q := 2) C dX6_pays_1 rfl rfl 1 rfl ?_
  obtain ⟨r1, ec1, h⟩ := bnd_of h
  refine J_callIV (q := 5) (As := [.int i1]) C (c_X6_isOne hap  ec1) ok_X6_isOne kM_X6_150 (by decide) rfl rfl rfl rfl rfl rfl ⟨Nat.le_of_ble_eq_true rfl, Nat.le_of_ble_eq_true rfl⟩ (Nat.le_of_ble_eq_true rfl) dX6_pays_2 rfl ?_
  refine J_ifeq_b (tgt := 20) (q := 8) C dX6_pays_5 rfl (by decide) h (fun _ h => ?_) (fun _ h => ?_)
  · refine J_aload_n (q := 9) C dX6_pays_8 rfl rfl 0 rfl ?_
    refine JM_g_X6_sort (q := 12) C kF_X6_32 dX6_pays_9 rfl ?_
    refine J_iload_n (q := 13) C dX6_pays_12 rfl rfl 1 rfl ?_
    refine JM_iald (q := 14) C isMA_7 h dX6_pays_13 rfl (fun h => ?_)
    obtain ⟨r2, ec2, h⟩ := bnd_of h
    refine J_callIS (q := 17) (As := [.int (gA σ 7 i1.toNatClampNeg)]) C (c_X6_paysBy hap  ec2) ok_X6_paysBy kM_X6_160 rfl rfl rfl ⟨Nat.le_of_ble_eq_true rfl, Nat.le_of_ble_eq_true rfl⟩ (Nat.le_of_ble_eq_true rfl) dX6_pays_14 rfl ?_
    refine J_goto (tgt := 21) C dX6_pays_17 (by decide) ?_
    obtain rfl := Option.some.inj h
    exact J_iret C dX6_pays_21
  · refine J_iconst (v := -1 ) (q := 21) C dX6_pays_20 rfl rfl ?_
    obtain rfl := Option.some.inj h
    exact J_iret C dX6_pays_21
set_option maxHeartbeats 4000000 in
set_option maxRecDepth 100000 in
theorem cl_X6_who_27 {p : Program} {l : Launch} {e : Env} {s : State} {m : MethodId} {args : Array Value} {below : List Frame} {meth : Method} {c : Code} {D : va_G} {cI cR : ClassId} {ad : Nat → Nat} (hap : apN 16 ad) (C : Cx p s m args meth c cX6_who 5 "WokenYearsModel" D (tysC cI cR) 16 ad (some .int)) {a1 : Int32} {a2 : Int32} {k69 : Int32 → Option Int32} {σ : Sg} (r : Int32)  (hk69 : ∀ (u3 : Int32), k69 u3 = some r → Jd p l e (rmF 3 76) s m args below meth c D 16 ad (celM cI ad) okM 5 (MQ below (QI D (tysC cI cR) 16 ad (celM cI ad) okM r σ) args s 0 0 (inA 16 ad)) 69 [(3, .int u3)] [] σ) : ∀ (n : Nat) (x3 : Int32) (x4 : Int32), l_X6_who_27 a1 a2 σ k69 n x3 x4 = some r → Jd p l e (rmF 3 76) s m args below meth c D 16 ad (celM cI ad) okM 5 (MQ below (QI D (tysC cI cR) 16 ad (celM cI ad) okM r σ) args s 0 0 (inA 16 ad)) 27 [(0, .ref (ad 0)), (1, .int a1), (2, .int a2), (3, .int x3), (4, .int x4)] [] σ := by
  intro n
  induction n with
  | zero => intro x3 x4 h; cases h
  | succ n ih =>
    intro x3 x4 h
    unfold l_X6_who_27 at h
    refine J_iload (q := 29) C dX6_who_27 rfl 4 rfl ?_
    refine J_aload_n (q := 30) C dX6_who_29 rfl rfl 0 rfl ?_
    refine JM_g_X6_houses (q := 33) C kF_X6_66 dX6_who_30 rfl ?_
    refine J_icmp_ge (tgt := 69) (q := 36) C dX6_who_33 rfl (by decide) h (fun _ h => ?_) (fun _ h => ?_)
    · refine J_sub [3] rfl ?_
      exact hk69 _ h
    · refine J_iload_n (q := 37) C dX6_who_36 rfl rfl 3 rfl ?_
      refine J_aload_n (q := 38) C dX6_who_37 rfl rfl 0 rfl ?_
      refine J_aload_n (q := 39) C dX6_who_38 rfl rfl 0 rfl ?_
      refine JM_g_X6_sort (q := 42) C kF_X6_32 dX6_who_39 rfl ?_
      refine J_iload (q := 44) C dX6_who_42 rfl 4 rfl ?_
      refine JM_iald (q := 45) C isMA_7 h dX6_who_44 rfl (fun h => ?_)
      refine J_iload_n (q := 46) C dX6_who_45 rfl rfl 1 rfl ?_
      obtain ⟨r3, ec3, h⟩ := bnd_of h
      refine J_callIV (q := 49) (As := [.int (gA σ 7 x4.toNatClampNeg), .int a1]) C (c_X6_takesBy hap  ec3) ok_X6_takesBy kM_X6_137 (by decide) rfl rfl rfl rfl rfl rfl ⟨Nat.le_of_ble_eq_true rfl, Nat.le_of_ble_eq_true rfl⟩ (Nat.le_of_ble_eq_true rfl) dX6_who_46 rfl ?_
      refine J_iload_n (q := 50) C dX6_who_49 rfl rfl 2 rfl ?_
      refine jn_elim h (fun k61 ek61 h => ?_)
      have hk61 : ∀ (t0_61 : Int32), k61 t0_61 = some r → Jd p l e (rmF 3 76) s m args below meth c D 16 ad (celM cI ad) okM 5 (MQ below (QI D (tysC cI cR) 16 ad (celM cI ad) okM r σ) args s 0 0 (inA 16 ad)) 61 [(0, .ref (ad 0)), (1, .int a1), (2, .int a2), (4, .int x4)] [.int t0_61, .int x3] σ := by
        intro t0_61 h
        rw [ek61] at h
        refine J_ior (q := 62) C dX6_who_61 rfl ?_
        refine J_nmi h (fun y4 ey4 h => ?_)
        refine J_istore_n (q := 63) C dX6_who_62 rfl rfl (by decide) rfl ?_
        refine jn_elim h (fun y5 ey5 h => ?_)
        refine J_iinc (v := y5) (q := 66) C dX6_who_63 rfl 4 rfl (by rw [ey5]; rfl) (by decide) rfl ?_
        refine J_goto (tgt := 27) C dX6_who_66 (by decide) ?_
        refine J_sub [2, 3, 4, 1, 0] rfl ?_
        exact ih _ _ h
      refine J_icmp_ne (tgt := 60) (q := 53) C dX6_who_50 rfl (by decide) h (fun _ h => ?_) (fun _ h => ?_)
      · refine J_iconst (v := 1 ) (q := 54) C dX6_who_53 rfl rfl ?_
        refine J_iload (q := 56) C dX6_who_54 rfl 4 rfl ?_
        refine J_ishl (q := 57) C dX6_who_56 rfl ?_
        refine J_goto (tgt := 61) C dX6_who_57 (by decide) ?_
        refine J_sub [0, 1, 2, 4] rfl ?_
        exact hk61 _ h
      · refine J_iconst (v := 0 ) (q := 61) C dX6_who_60 rfl rfl ?_
        refine J_sub [0, 1, 2, 4] rfl ?_
        exact hk61 _ h
set_option maxHeartbeats 4000000 in
set_option maxRecDepth 100000 in
theorem c_X6_who {l : Launch} {D : va_G} {cI cR : ClassId} {ad : Nat → Nat} (hap : apN 16 ad) {i1 : Int32} {i2 : Int32} {σ : Sg} {r : Int32}  (h : f_X6_who i1 i2 σ = some r) : MI l D (tysC cI cR) 16 ad (celM cI ad) okM yX6_who cX6_who 5 .int 3 76 [.ref (ad 0), .int i1, .int i2] σ r σ := by
  unfold f_X6_who at h
  refine entI "WokenYearsModel" hap (by decide +kernel) rfl (Nat.le_of_ble_eq_true rfl) (fun p e s m args below meth c C => ?_)
  refine J_sub (lv' := [(0, .ref (ad 0)), (1, .int i1), (2, .int i2)]) [0, 1, 2] rfl ?_
  refine J_iload_n (q := 1) C dX6_who_0 rfl rfl 1 rfl ?_
  refine J_iconst (v := 0 ) (q := 2) C dX6_who_1 rfl rfl ?_
  refine J_bipush (v := 99) (q := 4) C dX6_who_2 rfl rfl ?_
  obtain ⟨r1, ec1, h⟩ := bnd_of h
  refine J_callIS (q := 7) (As := [.int i1, .int (0 : Int32), .int (99 : Int32)]) C (c_X6_in hap  ec1) ok_X6_in kM_X6_69 rfl rfl rfl ⟨Nat.le_of_ble_eq_true rfl, Nat.le_of_ble_eq_true rfl⟩ (Nat.le_of_ble_eq_true rfl) dX6_who_4 rfl ?_
  refine J_ifeq_b (tgt := 20) (q := 10) C dX6_who_7 rfl (by decide) h (fun _ h => ?_) (fun _ h => ?_)
  · refine J_iload_n (q := 11) C dX6_who_10 rfl rfl 2 rfl ?_
    refine J_iconst (v := 1 ) (q := 12) C dX6_who_11 rfl rfl ?_
    refine J_bipush (v := 9) (q := 14) C dX6_who_12 rfl rfl ?_
    obtain ⟨r2, ec2, h⟩ := bnd_of h
    refine J_callIS (q := 17) (As := [.int i2, .int (1 : Int32), .int (9 : Int32)]) C (c_X6_in hap  ec2) ok_X6_in kM_X6_69 rfl rfl rfl ⟨Nat.le_of_ble_eq_true rfl, Nat.le_of_ble_eq_true rfl⟩ (Nat.le_of_ble_eq_true rfl) dX6_who_14 rfl ?_
    refine J_ifne_b (tgt := 22) (q := 20) C dX6_who_17 rfl (by decide) h (fun _ h => ?_) (fun _ h => ?_)
    · refine J_iconst (v := 0 ) (q := 23) C dX6_who_22 rfl rfl ?_
      refine J_istore_n (q := 24) C dX6_who_23 rfl rfl (by decide) rfl ?_
      refine J_iconst (v := 0 ) (q := 25) C dX6_who_24 rfl rfl ?_
      refine J_istore (q := 27) C dX6_who_25 rfl (by decide) rfl ?_
      refine J_sub [2, 3, 4, 1, 0] rfl ?_
      refine cl_X6_who_27 hap C r  (fun v3_69 h => ?_) FU _ _ h
      · refine J_iload_n (q := 70) C dX6_who_69 rfl rfl 0 rfl ?_
        obtain rfl := Option.some.inj h
        exact J_iret C dX6_who_70
    · refine J_iconst (v := -1 ) (q := 21) C dX6_who_20 rfl rfl ?_
      obtain rfl := Option.some.inj h
      exact J_iret C dX6_who_21
  · refine J_iconst (v := -1 ) (q := 21) C dX6_who_20 rfl rfl ?_
    obtain rfl := Option.some.inj h
    exact J_iret C dX6_who_21
set_option maxHeartbeats 4000000 in
set_option maxRecDepth 100000 in
theorem cl_X6_quarrels_14 {p : Program} {l : Launch} {e : Env} {s : State} {m : MethodId} {args : Array Value} {below : List Frame} {meth : Method} {c : Code} {D : va_G} {cI cR : ClassId} {ad : Nat → Nat} (hap : apN 16 ad) (C : Cx p s m args meth c cX6_quarrels 3 "WokenYearsModel" D (tysC cI cR) 16 ad (some .int)) {k84 : Int32 → Option Int32} {σ : Sg} (r : Int32)  (hk84 : ∀ (u1 : Int32), k84 u1 = some r → Jd p l e (rmF 2 51) s m args below meth c D 16 ad (celM cI ad) okM 3 (MQ below (QI D (tysC cI cR) 16 ad (celM cI ad) okM r σ) args s 0 0 (inA 16 ad)) 84 [(1, .int u1)] [] σ) : ∀ (n : Nat) (x1 : Int32) (x2 : Int32), l_X6_quarrels_14 σ k84 n x1 x2 = some r → Jd p l e (rmF 2 51) s m args below meth c D 16 ad (celM cI ad) okM 3 (MQ below (QI D (tysC cI cR) 16 ad (celM cI ad) okM r σ) args s 0 0 (inA 16 ad)) 14 [(0, .ref (ad 0)), (1, .int x1), (2, .int x2)] [] σ := by
  intro n
  induction n with
  | zero => intro x1 x2 h; cases h
  | succ n ih =>
    intro x1 x2 h
    unfold l_X6_quarrels_14 at h
    refine J_iload_n (q := 15) C dX6_quarrels_14 rfl rfl 2 rfl ?_
    refine J_aload_n (q := 16) C dX6_quarrels_15 rfl rfl 0 rfl ?_
    refine JM_g_X6_houses (q := 19) C kF_X6_66 dX6_quarrels_16 rfl ?_
    refine J_icmp_ge (tgt := 84) (q := 22) C dX6_quarrels_19 rfl (by decide) h (fun _ h => ?_) (fun _ h => ?_)
    · refine J_sub [1] rfl ?_
      exact hk84 _ h
    · refine J_iload_n (q := 23) C dX6_quarrels_22 rfl rfl 1 rfl ?_
      refine J_aload_n (q := 24) C dX6_quarrels_23 rfl rfl 0 rfl ?_
      refine J_iload_n (q := 25) C dX6_quarrels_24 rfl rfl 2 rfl ?_
      obtain ⟨r1, ec1, h⟩ := bnd_of h
      refine J_callIV (q := 28) (As := [.int x2]) C (c_X6_isAwake hap  ec1) ok_X6_isAwake kM_X6_140 (by decide) rfl rfl rfl rfl rfl rfl ⟨Nat.le_of_ble_eq_true rfl, Nat.le_of_ble_eq_true rfl⟩ (Nat.le_of_ble_eq_true rfl) dX6_quarrels_25 rfl ?_
      refine jn_elim h (fun k76 ek76 h => ?_)
      have hk76 : ∀ (t0_76 : Bool), k76 t0_76 = some r → Jd p l e (rmF 2 51) s m args below meth c D 16 ad (celM cI ad) okM 3 (MQ below (QI D (tysC cI cR) 16 ad (celM cI ad) okM r σ) args s 0 0 (inA 16 ad)) 76 [(0, .ref (ad 0)), (2, .int x2)] [.int (b2i t0_76), .int x1] σ := by
        intro t0_76 h
        rw [ek76] at h
        refine J_iadd (q := 77) C dX6_quarrels_76 rfl ?_
        refine J_nmi h (fun y2 ey2 h => ?_)
        refine J_istore_n (q := 78) C dX6_quarrels_77 rfl rfl (by decide) rfl ?_
        refine jn_elim h (fun y3 ey3 h => ?_)
        refine J_iinc (v := y3) (q := 81) C dX6_quarrels_78 rfl 2 rfl (by rw [ey3]; rfl) (by decide) rfl ?_
        refine J_goto (tgt := 14) C dX6_quarrels_81 (by decide) ?_
        refine J_sub [2, 1, 0] rfl ?_
        exact ih _ _ h
      refine jn_elim h (fun k75 ek75 h => ?_)
      have hk75 : k75 = some r → Jd p l e (rmF 2 51) s m args below meth c D 16 ad (celM cI ad) okM 3 (MQ below (QI D (tysC cI cR) 16 ad (celM cI ad) okM r σ) args s 0 0 (inA 16 ad)) 75 [(0, .ref (ad 0)), (2, .int x2)] [.int x1] σ := by
        intro  h
        rw [ek75] at h
        refine J_iconst (v := 0 ) (q := 76) C dX6_quarrels_75 rfl rfl ?_
        exact hk76 _ h
      refine J_ifeq_b (tgt := 75) (q := 31) C dX6_quarrels_28 rfl (by decide) h (fun _ h => ?_) (fun _ h => ?_)
      · refine J_aload_n (q := 32) C dX6_quarrels_31 rfl rfl 0 rfl ?_
        refine J_iload_n (q := 33) C dX6_quarrels_32 rfl rfl 2 rfl ?_
        refine J_iconst (v := 1 ) (q := 34) C dX6_quarrels_33 rfl rfl ?_
        refine J_isub (q := 35) C dX6_quarrels_34 rfl ?_
        obtain ⟨r4, ec4, h⟩ := bnd_of h
        refine J_callIV (q := 38) (As := [.int (x2 - (1 : Int32))]) C (c_X6_isAwake hap  ec4) ok_X6_isAwake kM_X6_140 (by decide) rfl rfl rfl rfl rfl rfl ⟨Nat.le_of_ble_eq_true rfl, Nat.le_of_ble_eq_true rfl⟩ (Nat.le_of_ble_eq_true rfl) dX6_quarrels_35 rfl ?_
        refine J_ifeq_b (tgt := 75) (q := 41) C dX6_quarrels_38 rfl (by decide) h (fun _ h => ?_) (fun _ h => ?_)
        · refine J_aload_n (q := 42) C dX6_quarrels_41 rfl rfl 0 rfl ?_
          refine JM_g_X6_now (q := 45) C kF_X6_38 dX6_quarrels_42 rfl ?_
          refine J_bipush (v := 17) (q := 47) C dX6_quarrels_45 rfl rfl ?_
          refine J_iload_n (q := 48) C dX6_quarrels_47 rfl rfl 2 rfl ?_
          refine J_iadd (q := 49) C dX6_quarrels_48 rfl ?_
          refine JM_iald (q := 50) C isMA_9 h dX6_quarrels_49 rfl (fun h => ?_)
          refine J_aload_n (q := 51) C dX6_quarrels_50 rfl rfl 0 rfl ?_
          refine JM_g_X6_now (q := 54) C kF_X6_38 dX6_quarrels_51 rfl ?_
          refine J_bipush (v := 17) (q := 56) C dX6_quarrels_54 rfl rfl ?_
          refine J_iload_n (q := 57) C dX6_quarrels_56 rfl rfl 2 rfl ?_
          refine J_iadd (q := 58) C dX6_quarrels_57 rfl ?_
          refine J_iconst (v := 1 ) (q := 59) C dX6_quarrels_58 rfl rfl ?_
          refine J_isub (q := 60) C dX6_quarrels_59 rfl ?_
          refine JM_iald (q := 61) C isMA_9 h dX6_quarrels_60 rfl (fun h => ?_)
          obtain ⟨r5, ec5, h⟩ := bnd_of h
          refine J_callIS (q := 64) (As := [.int (gA σ 9 ((17 : Int32) + x2).toNatClampNeg), .int (gA σ 9 (((17 : Int32) + x2) - (1 : Int32)).toNatClampNeg)]) C (c_X6_far hap  ec5) ok_X6_far kM_X6_176 rfl rfl rfl ⟨Nat.le_of_ble_eq_true rfl, Nat.le_of_ble_eq_true rfl⟩ (Nat.le_of_ble_eq_true rfl) dX6_quarrels_61 rfl ?_
          refine J_aload_n (q := 65) C dX6_quarrels_64 rfl rfl 0 rfl ?_
          refine JM_g_X6_quarrel (q := 68) C kF_X6_131 dX6_quarrels_65 rfl ?_
          refine J_icmp_le (tgt := 75) (q := 71) C dX6_quarrels_68 rfl (by decide) h (fun _ h => ?_) (fun _ h => ?_)
          · refine J_sub [0, 2] rfl ?_
            exact hk75 h
          · refine J_iconst (v := 1 ) (q := 72) C dX6_quarrels_71 rfl rfl ?_
            refine J_goto (tgt := 76) C dX6_quarrels_72 (by decide) ?_
            refine J_sub [0, 2] rfl ?_
            exact hk76 _ h
        · refine J_sub [0, 2] rfl ?_
          exact hk75 h
      · refine J_sub [0, 2] rfl ?_
        exact hk75 h
set_option maxHeartbeats 4000000 in
set_option maxRecDepth 100000 in
theorem c_X6_quarrels {l : Launch} {D : va_G} {cI cR : ClassId} {ad : Nat → Nat} (hap : apN 16 ad)  {σ : Sg} {r : Int32}  (h : f_X6_quarrels σ = some r) : MI l D (tysC cI cR) 16 ad (celM cI ad) okM yX6_quarrels cX6_quarrels 3 .int 2 51 [.ref (ad 0)] σ r σ := by
  unfold f_X6_quarrels at h
  refine entI "WokenYearsModel" hap (by decide +kernel) rfl (Nat.le_of_ble_eq_true rfl) (fun p e s m args below meth c C => ?_)
  refine J_sub (lv' := [(0, .ref (ad 0))]) [0] rfl ?_
  refine J_aload_n (q := 1) C dX6_quarrels_0 rfl rfl 0 rfl ?_
  refine JM_g_X6_houses (q := 4) C kF_X6_66 dX6_quarrels_1 rfl ?_
  refine J_if_ne (tgt := 10) (q := 7) C dX6_quarrels_4 rfl (by decide) h (fun _ h => ?_) (fun _ h => ?_)
  · refine J_bipush (v := -4) (q := 9) C dX6_quarrels_7 rfl rfl ?_
    obtain rfl := Option.some.inj h
    exact J_iret C dX6_quarrels_9
  · refine J_iconst (v := 0 ) (q := 11) C dX6_quarrels_10 rfl rfl ?_
    refine J_istore_n (q := 12) C dX6_quarrels_11 rfl rfl (by decide) rfl ?_
    refine J_iconst (v := 1 ) (q := 13) C dX6_quarrels_12 rfl rfl ?_
    refine J_istore_n (q := 14) C dX6_quarrels_13 rfl rfl (by decide) rfl ?_
    refine J_sub [2, 1, 0] rfl ?_
    refine cl_X6_quarrels_14 hap C r  (fun v1_84 h => ?_) FU _ _ h
    · refine J_iload_n (q := 85) C dX6_quarrels_84 rfl rfl 0 rfl ?_
      obtain rfl := Option.some.inj h
      exact J_iret C dX6_quarrels_85
set_option maxHeartbeats 4000000 in
set_option maxRecDepth 100000 in
theorem cl_X6_wakable_4 {p : Program} {l : Launch} {e : Env} {s : State} {m : MethodId} {args : Array Value} {below : List Frame} {meth : Method} {c : Code} {D : va_G} {cI cR : ClassId} {ad : Nat → Nat} (hap : apN 16 ad) (C : Cx p s m args meth c cX6_wakable 3 "WokenYearsModel" D (tysC cI cR) 16 ad (some .int)) {k36 : Int32 → Option Int32} {σ : Sg} (r : Int32)  (hk36 : ∀ (u1 : Int32), k36 u1 = some r → Jd p l e (rmF 5 119) s m args below meth c D 16 ad (celM cI ad) okM 3 (MQ below (QI D (tysC cI cR) 16 ad (celM cI ad) okM r σ) args s 0 0 (inA 16 ad)) 36 [(1, .int u1)] [] σ) : ∀ (n : Nat) (x1 : Int32) (x2 : Int32), l_X6_wakable_4 σ k36 n x1 x2 = some r → Jd p l e (rmF 5 119) s m args below meth c D 16 ad (celM cI ad) okM 3 (MQ below (QI D (tysC cI cR) 16 ad (celM cI ad) okM r σ) args s 0 0 (inA 16 ad)) 4 [(0, .ref (ad 0)), (1, .int x1), (2, .int x2)] [] σ := by
  intro n
  induction n with
  | zero => intro x1 x2 h; cases h
  | succ n ih =>
    intro x1 x2 h
    unfold l_X6_wakable_4 at h
    refine J_iload_n (q := 5) C dX6_wakable_4 rfl rfl 2 rfl ?_
    refine J_aload_n (q := 6) C dX6_wakable_5 rfl rfl 0 rfl ?_
    refine JM_g_X6_houses (q := 9) C kF_X6_66 dX6_wakable_6 rfl ?_
    refine J_icmp_ge (tgt := 36) (q := 12) C dX6_wakable_9 rfl (by decide) h (fun _ h => ?_) (fun _ h => ?_)
    · refine J_sub [1] rfl ?_
      exact hk36 _ h
    · refine J_iload_n (q := 13) C dX6_wakable_12 rfl rfl 1 rfl ?_
      refine J_aload_n (q := 14) C dX6_wakable_13 rfl rfl 0 rfl ?_
      refine J_iload_n (q := 15) C dX6_wakable_14 rfl rfl 2 rfl ?_
      obtain ⟨r1, ec1, h⟩ := bnd_of h
      refine J_callIV (q := 18) (As := [.int x2]) C (c_X6_moreOf hap  ec1) ok_X6_moreOf kM_X6_147 (by decide) rfl rfl rfl rfl rfl rfl ⟨Nat.le_of_ble_eq_true rfl, Nat.le_of_ble_eq_true rfl⟩ (Nat.le_of_ble_eq_true rfl) dX6_wakable_15 rfl ?_
      refine jn_elim h (fun k28 ek28 h => ?_)
      have hk28 : ∀ (t0_28 : Int32), k28 t0_28 = some r → Jd p l e (rmF 5 119) s m args below meth c D 16 ad (celM cI ad) okM 3 (MQ below (QI D (tysC cI cR) 16 ad (celM cI ad) okM r σ) args s 0 0 (inA 16 ad)) 28 [(0, .ref (ad 0)), (2, .int x2)] [.int t0_28, .int x1] σ := by
        intro t0_28 h
        rw [ek28] at h
        refine J_ior (q := 29) C dX6_wakable_28 rfl ?_
        refine J_nmi h (fun y2 ey2 h => ?_)
        refine J_istore_n (q := 30) C dX6_wakable_29 rfl rfl (by decide) rfl ?_
        refine jn_elim h (fun y3 ey3 h => ?_)
        refine J_iinc (v := y3) (q := 33) C dX6_wakable_30 rfl 2 rfl (by rw [ey3]; rfl) (by decide) rfl ?_
        refine J_goto (tgt := 4) C dX6_wakable_33 (by decide) ?_
        refine J_sub [2, 1, 0] rfl ?_
        exact ih _ _ h
      refine J_if_le (tgt := 27) (q := 21) C dX6_wakable_18 rfl (by decide) h (fun _ h => ?_) (fun _ h => ?_)
      · refine J_iconst (v := 0 ) (q := 28) C dX6_wakable_27 rfl rfl ?_
        refine J_sub [0, 2] rfl ?_
        exact hk28 _ h
      · refine J_iconst (v := 1 ) (q := 22) C dX6_wakable_21 rfl rfl ?_
        refine J_iload_n (q := 23) C dX6_wakable_22 rfl rfl 2 rfl ?_
        refine J_ishl (q := 24) C dX6_wakable_23 rfl ?_
        refine J_goto (tgt := 28) C dX6_wakable_24 (by decide) ?_
        refine J_sub [0, 2] rfl ?_
        exact hk28 _ h
set_option maxHeartbeats 4000000 in
set_option maxRecDepth 100000 in
theorem c_X6_wakable {l : Launch} {D : va_G} {cI cR : ClassId} {ad : Nat → Nat} (hap : apN 16 ad)  {σ : Sg} {r : Int32}  (h : f_X6_wakable σ = some r) : MI l D (tysC cI cR) 16 ad (celM cI ad) okM yX6_wakable cX6_wakable 3 .int 5 119 [.ref (ad 0)] σ r σ := by
  unfold f_X6_wakable at h
  refine entI "WokenYearsModel" hap (by decide +kernel) rfl (Nat.le_of_ble_eq_true rfl) (fun p e s m args below meth c C => ?_)
  refine J_sub (lv' := [(0, .ref (ad 0))]) [0] rfl ?_
  refine J_iconst (v := 0 ) (q := 1) C dX6_wakable_0 rfl rfl ?_
  refine J_istore_n (q := 2) C dX6_wakable_1 rfl rfl (by decide) rfl ?_
  refine J_iconst (v := 0 ) (q := 3) C dX6_wakable_2 rfl rfl ?_
  refine J_istore_n (q := 4) C dX6_wakable_3 rfl rfl (by decide) rfl ?_
  refine J_sub [2, 1, 0] rfl ?_
  refine cl_X6_wakable_4 hap C r  (fun v1_36 h => ?_) FU _ _ h
  · refine J_iload_n (q := 37) C dX6_wakable_36 rfl rfl 0 rfl ?_
    obtain rfl := Option.some.inj h
    exact J_iret C dX6_wakable_37
set_option maxHeartbeats 4000000 in
set_option maxRecDepth 100000 in
theorem c_X6_isSet {l : Launch} {D : va_G} {cI cR : ClassId} {ad : Nat → Nat} (hap : apN 16 ad) {i1 : Int32} {σ : Sg} {r : Bool}  (h : f_X6_isSet i1 σ = some r) : MI l D (tysC cI cR) 16 ad (celM cI ad) okM yX6_isSet cX6_isSet 2 .boolean 2 52 [.ref (ad 0), .int i1] σ (b2i r) σ := by
  unfold f_X6_isSet at h
  refine entI "WokenYearsModel" hap (by decide +kernel) rfl (Nat.le_of_ble_eq_true rfl) (fun p e s m args below meth c C => ?_)
  refine J_sub (lv' := [(0, .ref (ad 0)), (1, .int i1)]) [0, 1] rfl ?_
  refine J_iload_n (q := 1) C dX6_isSet_0 rfl rfl 1 rfl ?_
  refine J_iconst (v := 0 ) (q := 2) C dX6_isSet_1 rfl rfl ?_
  refine J_iconst (v := 1 ) (q := 3) C dX6_isSet_2 rfl rfl ?_
  refine J_aload_n (q := 4) C dX6_isSet_3 rfl rfl 0 rfl ?_
  refine JM_g_X6_houses (q := 7) C kF_X6_66 dX6_isSet_4 rfl ?_
  refine J_ishl (q := 8) C dX6_isSet_7 rfl ?_
  refine J_iconst (v := 1 ) (q := 9) C dX6_isSet_8 rfl rfl ?_
  refine J_isub (q := 10) C dX6_isSet_9 rfl ?_
  obtain ⟨r1, ec1, h⟩ := bnd_of h
  refine J_callIS (q := 13) (As := [.int i1, .int (0 : Int32), .int (((1 : Int32) <<< ((gS σ 17) &&& 31)) - (1 : Int32))]) C (c_X6_in hap  ec1) ok_X6_in kM_X6_69 rfl rfl rfl ⟨Nat.le_of_ble_eq_true rfl, Nat.le_of_ble_eq_true rfl⟩ (Nat.le_of_ble_eq_true rfl) dX6_isSet_10 rfl ?_
  obtain rfl := Option.some.inj h
  exact J_zret (b := _) C dX6_isSet_13
set_option maxHeartbeats 4000000 in
set_option maxRecDepth 100000 in
theorem cl_X6_soonest_41 {p : Program} {l : Launch} {e : Env} {s : State} {m : MethodId} {args : Array Value} {below : List Frame} {meth : Method} {c : Code} {D : va_G} {cI cR : ClassId} {ad : Nat → Nat} (hap : apN 16 ad) (C : Cx p s m args meth c cX6_soonest 7 "WokenYearsModel" D (tysC cI cR) 16 ad (some .int)) {a1 : Int32} {k91 : Int32 → Int32 → Int32 → Option Int32} {σ : Sg} (r : Int32)  (hk91 : ∀ (u2 : Int32) (u3 : Int32) (u4 : Int32), k91 u2 u3 u4 = some r → Jd p l e (rmF 6 141) s m args below meth c D 16 ad (celM cI ad) okM 7 (MQ below (QI D (tysC cI cR) 16 ad (celM cI ad) okM r σ) args s 0 0 (inA 16 ad)) 91 [(0, .ref (ad 0)), (2, .int u2), (3, .int u3), (4, .int u4)] [] σ) : ∀ (n : Nat) (x2 : Int32) (x3 : Int32) (x4 : Int32) (x5 : Int32), l_X6_soonest_41 a1 σ k91 n x2 x3 x4 x5 = some r → Jd p l e (rmF 6 141) s m args below meth c D 16 ad (celM cI ad) okM 7 (MQ below (QI D (tysC cI cR) 16 ad (celM cI ad) okM r σ) args s 0 0 (inA 16 ad)) 41 [(0, .ref (ad 0)), (1, .int a1), (2, .int x2), (3, .int x3), (4, .int x4), (5, .int x5)] [] σ := by
  intro n
  induction n with
  | zero => intro x2 x3 x4 x5 h; cases h
  | succ n ih =>
    intro x2 x3 x4 x5 h
    unfold l_X6_soonest_41 at h
    refine J_iload (q := 43) C dX6_soonest_41 rfl 5 rfl ?_
    refine J_aload_n (q := 44) C dX6_soonest_43 rfl rfl 0 rfl ?_
    refine JM_g_X6_houses (q := 47) C kF_X6_66 dX6_soonest_44 rfl ?_
    refine J_icmp_ge (tgt := 91) (q := 50) C dX6_soonest_47 rfl (by decide) h (fun _ h => ?_) (fun _ h => ?_)
    · refine J_sub [0, 2, 3, 4] rfl ?_
      exact hk91 _ _ _ h
    · refine J_iload_n (q := 51) C dX6_soonest_50 rfl rfl 1 rfl ?_
      refine J_iload (q := 53) C dX6_soonest_51 rfl 5 rfl ?_
      obtain ⟨r3, ec3, h⟩ := bnd_of h
      refine J_callIS (q := 56) (As := [.int a1, .int x5]) C (c_X6_has hap  ec3) ok_X6_has kM_X6_199 rfl rfl rfl ⟨Nat.le_of_ble_eq_true rfl, Nat.le_of_ble_eq_true rfl⟩ (Nat.le_of_ble_eq_true rfl) dX6_soonest_53 rfl ?_
      refine jn_elim h (fun k85 ek85 h => ?_)
      have hk85 : ∀ (u2_85 : Int32) (u3_85 : Int32) (u4_85 : Int32), k85 u2_85 u3_85 u4_85 = some r → Jd p l e (rmF 6 141) s m args below meth c D 16 ad (celM cI ad) okM 7 (MQ below (QI D (tysC cI cR) 16 ad (celM cI ad) okM r σ) args s 0 0 (inA 16 ad)) 85 [(0, .ref (ad 0)), (1, .int a1), (2, .int u2_85), (3, .int u3_85), (4, .int u4_85), (5, .int x5)] [] σ := by
        intro u2_85 u3_85 u4_85 h
        rw [ek85] at h
        refine jn_elim h (fun y4 ey4 h => ?_)
        refine J_iinc (v := y4) (q := 88) C dX6_soonest_85 rfl 5 rfl (by rw [ey4]; rfl) (by decide) rfl ?_
        refine J_goto (tgt := 41) C dX6_soonest_88 (by decide) ?_
        refine J_sub [1, 2, 3, 4, 5, 0] rfl ?_
        exact ih _ _ _ _ h
      refine J_ifeq_b (tgt := 85) (q := 59) C dX6_soonest_56 rfl (by decide) h (fun _ h => ?_) (fun _ h => ?_)
      · refine J_iload_n (q := 60) C dX6_soonest_59 rfl rfl 2 rfl ?_
        refine J_aload_n (q := 61) C dX6_soonest_60 rfl rfl 0 rfl ?_
        refine J_iload (q := 63) C dX6_soonest_61 rfl 5 rfl ?_
        obtain ⟨r5, ec5, h⟩ := bnd_of h
        refine J_callIV (q := 66) (As := [.int x5]) C (c_X6_moreOf hap  ec5) ok_X6_moreOf kM_X6_147 (by decide) rfl rfl rfl rfl rfl rfl ⟨Nat.le_of_ble_eq_true rfl, Nat.le_of_ble_eq_true rfl⟩ (Nat.le_of_ble_eq_true rfl) dX6_soonest_63 rfl ?_
        refine J_iadd (q := 67) C dX6_soonest_66 rfl ?_
        refine J_nmi h (fun y6 ey6 h => ?_)
        refine J_istore_n (q := 68) C dX6_soonest_67 rfl rfl (by decide) rfl ?_
        refine J_iload (q := 70) C dX6_soonest_68 rfl 5 rfl ?_
        refine J_iload_n (q := 71) C dX6_soonest_70 rfl rfl 3 rfl ?_
        refine jn_elim h (fun k80 ek80 h => ?_)
        have hk80 : ∀ (t0_80 : Int32), k80 t0_80 = some r → Jd p l e (rmF 6 141) s m args below meth c D 16 ad (celM cI ad) okM 7 (MQ below (QI D (tysC cI cR) 16 ad (celM cI ad) okM r σ) args s 0 0 (inA 16 ad)) 80 [(0, .ref (ad 0)), (1, .int a1), (2, .int y6), (5, .int x5)] [.int t0_80] σ := by
          intro t0_80 h
          rw [ek80] at h
          refine J_istore_n (q := 81) C dX6_soonest_80 rfl rfl (by decide) rfl ?_
          refine J_iload (q := 83) C dX6_soonest_81 rfl 4 rfl ?_
          refine J_istore (q := 85) C dX6_soonest_83 rfl (by decide) rfl ?_
          refine J_sub [2, 3, 4, 1, 0, 5] rfl ?_
          exact hk85 _ _ _ h
        refine J_icmp_ge (tgt := 79) (q := 74) C dX6_soonest_71 rfl (by decide) h (fun _ h => ?_) (fun _ h => ?_)
        · refine J_iload_n (q := 80) C dX6_soonest_79 rfl rfl 3 rfl ?_
          refine J_sub [1, 2, 0, 5] rfl ?_
          exact hk80 _ h
        · refine J_iload (q := 76) C dX6_soonest_74 rfl 5 rfl ?_
          refine J_goto (tgt := 80) C dX6_soonest_76 (by decide) ?_
          refine J_sub [1, 2, 0, 5] rfl ?_
          exact hk80 _ h
      · exact hk85 _ _ _ h
set_option maxHeartbeats 4000000 in
set_option maxRecDepth 100000 in
theorem c_X6_soonest {l : Launch} {D : va_G} {cI cR : ClassId} {ad : Nat → Nat} (hap : apN 16 ad) {i1 : Int32} {σ : Sg} {r : Int32}  (h : f_X6_soonest i1 σ = some r) : MI l D (tysC cI cR) 16 ad (celM cI ad) okM yX6_soonest cX6_soonest 7 .int 6 141 [.ref (ad 0), .int i1] σ r σ := by
  unfold f_X6_soonest at h
  refine entI "WokenYearsModel" hap (by decide +kernel) rfl (Nat.le_of_ble_eq_true rfl) (fun p e s m args below meth c C => ?_)
  refine J_sub (lv' := [(0, .ref (ad 0)), (1, .int i1)]) [0, 1] rfl ?_
  refine J_aload_n (q := 1) C dX6_soonest_0 rfl rfl 0 rfl ?_
  refine J_iload_n (q := 2) C dX6_soonest_1 rfl rfl 1 rfl ?_
  obtain ⟨r1, ec1, h⟩ := bnd_of h
  refine J_callIV (q := 5) (As := [.int i1]) C (c_X6_isSet hap  ec1) ok_X6_isSet kM_X6_193 (by decide) rfl rfl rfl rfl rfl rfl ⟨Nat.le_of_ble_eq_true rfl, Nat.le_of_ble_eq_true rfl⟩ (Nat.le_of_ble_eq_true rfl) dX6_soonest_2 rfl ?_
  refine J_ifne_b (tgt := 10) (q := 8) C dX6_soonest_5 rfl (by decide) h (fun _ h => ?_) (fun _ h => ?_)
  · refine J_iload_n (q := 11) C dX6_soonest_10 rfl rfl 1 rfl ?_
    refine J_aload_n (q := 12) C dX6_soonest_11 rfl rfl 0 rfl ?_
    obtain ⟨r2, ec2, h⟩ := bnd_of h
    refine J_callIV (q := 15) (As := []) C (c_X6_wakable hap  ec2) ok_X6_wakable kM_X6_196 (by decide) rfl rfl rfl rfl rfl rfl ⟨Nat.le_of_ble_eq_true rfl, Nat.le_of_ble_eq_true rfl⟩ (Nat.le_of_ble_eq_true rfl) dX6_soonest_12 rfl ?_
    refine J_iconst (v := -1 ) (q := 16) C dX6_soonest_15 rfl rfl ?_
    refine J_ixor (q := 17) C dX6_soonest_16 rfl ?_
    refine J_iand (q := 18) C dX6_soonest_17 rfl ?_
    refine J_if_eq (tgt := 24) (q := 21) C dX6_soonest_18 rfl (by decide) h (fun _ h => ?_) (fun _ h => ?_)
    · refine J_iload_n (q := 25) C dX6_soonest_24 rfl rfl 1 rfl ?_
      refine J_if_ne (tgt := 30) (q := 28) C dX6_soonest_25 rfl (by decide) h (fun _ h => ?_) (fun _ h => ?_)
      · refine J_iconst (v := 0 ) (q := 29) C dX6_soonest_28 rfl rfl ?_
        obtain rfl := Option.some.inj h
        exact J_iret C dX6_soonest_29
      · refine J_iconst (v := 0 ) (q := 31) C dX6_soonest_30 rfl rfl ?_
        refine J_istore_n (q := 32) C dX6_soonest_31 rfl rfl (by decide) rfl ?_
        refine J_bipush (v := 6) (q := 34) C dX6_soonest_32 rfl rfl ?_
        refine J_istore_n (q := 35) C dX6_soonest_34 rfl rfl (by decide) rfl ?_
        refine J_iconst (v := -1 ) (q := 36) C dX6_soonest_35 rfl rfl ?_
        refine J_istore (q := 38) C dX6_soonest_36 rfl (by decide) rfl ?_
        refine J_iconst (v := 0 ) (q := 39) C dX6_soonest_38 rfl rfl ?_
        refine J_istore (q := 41) C dX6_soonest_39 rfl (by decide) rfl ?_
        refine J_sub [4, 5, 3, 2, 1, 0] rfl ?_
        refine cl_X6_soonest_41 hap C r  (fun v2_91 v3_91 v4_91 h => ?_) FU _ _ _ _ h
        · refine J_aload_n (q := 92) C dX6_soonest_91 rfl rfl 0 rfl ?_
          refine JM_g_X6_now (q := 95) C kF_X6_38 dX6_soonest_92 rfl ?_
          refine J_iconst (v := 2 ) (q := 96) C dX6_soonest_95 rfl rfl ?_
          refine JM_iald (q := 97) C isMA_9 h dX6_soonest_96 rfl (fun h => ?_)
          refine J_iload_n (q := 98) C dX6_soonest_97 rfl rfl 2 rfl ?_
          obtain ⟨r7, ec7, h⟩ := bnd_of h
          refine J_callIS (q := 101) (As := [.int (gA σ 9 (2 : Int32).toNatClampNeg), .int v3_91]) C (c_X6_far hap  ec7) ok_X6_far kM_X6_176 rfl rfl rfl ⟨Nat.le_of_ble_eq_true rfl, Nat.le_of_ble_eq_true rfl⟩ (Nat.le_of_ble_eq_true rfl) dX6_soonest_98 rfl ?_
          refine J_istore (q := 103) C dX6_soonest_101 rfl (by decide) rfl ?_
          refine J_aload_n (q := 104) C dX6_soonest_103 rfl rfl 1 rfl ?_
          refine JM_g_X6_now (q := 107) C kF_X6_38 dX6_soonest_104 rfl ?_
          refine J_iconst (v := 2 ) (q := 108) C dX6_soonest_107 rfl rfl ?_
          refine JM_iald (q := 109) C isMA_9 h dX6_soonest_108 rfl (fun h => ?_)
          refine J_iload (q := 111) C dX6_soonest_109 rfl 4 rfl ?_
          obtain ⟨r8, ec8, h⟩ := bnd_of h
          refine J_callIS (q := 114) (As := [.int (gA σ 9 (2 : Int32).toNatClampNeg), .int v4_91]) C (c_X6_far hap  ec8) ok_X6_far kM_X6_176 rfl rfl rfl ⟨Nat.le_of_ble_eq_true rfl, Nat.le_of_ble_eq_true rfl⟩ (Nat.le_of_ble_eq_true rfl) dX6_soonest_111 rfl ?_
          refine J_istore (q := 116) C dX6_soonest_114 rfl (by decide) rfl ?_
          refine J_iload_n (q := 117) C dX6_soonest_116 rfl rfl 3 rfl ?_
          refine J_iload (q := 119) C dX6_soonest_117 rfl 5 rfl ?_
          refine J_iadd (q := 120) C dX6_soonest_119 rfl ?_
          refine J_iload_n (q := 121) C dX6_soonest_120 rfl rfl 4 rfl ?_
          refine J_isub (q := 122) C dX6_soonest_121 rfl ?_
          refine J_iload (q := 124) C dX6_soonest_122 rfl 1 rfl ?_
          refine J_iload (q := 126) C dX6_soonest_124 rfl 0 rfl ?_
          refine J_icmp_ge (tgt := 134) (q := 129) C dX6_soonest_126 rfl (by decide) h (fun _ h => ?_) (fun _ h => ?_)
          · refine J_iload (q := 136) C dX6_soonest_134 rfl 0 rfl ?_
            refine J_iadd (q := 137) C dX6_soonest_136 rfl ?_
            obtain rfl := Option.some.inj h
            exact J_iret C dX6_soonest_137
          · refine J_iload (q := 131) C dX6_soonest_129 rfl 1 rfl ?_
            refine J_goto (tgt := 136) C dX6_soonest_131 (by decide) ?_
            refine J_iadd (q := 137) C dX6_soonest_136 rfl ?_
            obtain rfl := Option.some.inj h
            exact J_iret C dX6_soonest_137
    · refine J_bipush (v := -4) (q := 23) C dX6_soonest_21 rfl rfl ?_
      obtain rfl := Option.some.inj h
      exact J_iret C dX6_soonest_23
  · refine J_iconst (v := -1 ) (q := 9) C dX6_soonest_8 rfl rfl ?_
    obtain rfl := Option.some.inj h
    exact J_iret C dX6_soonest_9
set_option maxHeartbeats 4000000 in
set_option maxRecDepth 100000 in
theorem cl_X6_layRow_11 {p : Program} {l : Launch} {e : Env} {s : State} {m : MethodId} {args : Array Value} {below : List Frame} {meth : Method} {c : Code} {D : va_G} {cI cR : ClassId} {ad : Nat → Nat} (hap : apN 16 ad) (C : Cx p s m args meth c cX6_layRow 7 "WokenYearsModel" D (tysC cI cR) 16 ad (some .boolean)) {a3 : Int32} {k55 : Int32 → Sg → Option (Bool × Sg)} (r : Bool) (σo : Sg)  (hk55 : ∀ (u5 : Int32) (σ1 : Sg), k55 u5 σ1 = some (r, σo) → Jd p l e (rmF 1 30) s m args below meth c D 16 ad (celM cI ad) okM 7 (MQ below (QI D (tysC cI cR) 16 ad (celM cI ad) okM (b2i r) σo) args s 0 0 (inA 16 ad)) 55 [(3, .int a3), (5, .int u5)] [] σ1) : ∀ (n : Nat) (x4 : Int32) (x5 : Int32) (x6 : Int32) (σx : Sg), l_X6_layRow_11 a3 k55 n x4 x5 x6 σx = some (r, σo) → Jd p l e (rmF 1 30) s m args below meth c D 16 ad (celM cI ad) okM 7 (MQ below (QI D (tysC cI cR) 16 ad (celM cI ad) okM (b2i r) σo) args s 0 0 (inA 16 ad)) 11 [(0, .ref (ad 0)), (3, .int a3), (4, .int x4), (5, .int x5), (6, .int x6)] [] σx := by
  intro n
  induction n with
  | zero => intro x4 x5 x6 σx h; cases h
  | succ n ih =>
    intro x4 x5 x6 σx h
    unfold l_X6_layRow_11 at h
    refine J_iload (q := 13) C dX6_layRow_11 rfl 4 rfl ?_
    refine J_if_lt (tgt := 55) (q := 16) C dX6_layRow_13 rfl (by decide) h (fun _ h => ?_) (fun _ h => ?_)
    · refine J_sub [1, 3] rfl ?_
      exact hk55 _ _ h
    · refine J_aload_n (q := 17) C dX6_layRow_16 rfl rfl 0 rfl ?_
      refine JM_g_X6_row (q := 20) C kF_X6_53 dX6_layRow_17 rfl ?_
      refine J_iload (q := 22) C dX6_layRow_20 rfl 4 rfl ?_
      refine J_iload (q := 24) C dX6_layRow_22 rfl 2 rfl ?_
      refine J_bipush (v := 6) (q := 26) C dX6_layRow_24 rfl rfl ?_
      refine J_irem (q := 27) C dX6_layRow_26 rfl (by decide) ?_
      refine JM_iast (q := 28) C isMA_14 h dX6_layRow_27 rfl (fun h => ?_)
      refine jn_elim h (fun σ2 eσ2 h => ?_)
      rw [← eσ2]
      refine J_iload (q := 30) C dX6_layRow_28 rfl 2 rfl ?_
      refine J_bipush (v := 6) (q := 32) C dX6_layRow_30 rfl rfl ?_
      refine J_idiv (q := 33) C dX6_layRow_32 rfl (by decide) ?_
      refine J_nmi h (fun y3 ey3 h => ?_)
      refine J_istore (q := 35) C dX6_layRow_33 rfl (by decide) rfl ?_
      refine J_iload (q := 37) C dX6_layRow_35 rfl 3 rfl ?_
      refine J_iconst (v := 1 ) (q := 38) C dX6_layRow_37 rfl rfl ?_
      refine J_aload_n (q := 39) C dX6_layRow_38 rfl rfl 1 rfl ?_
      refine JM_g_X6_row (q := 42) C kF_X6_53 dX6_layRow_39 rfl ?_
      refine J_iload (q := 44) C dX6_layRow_42 rfl 4 rfl ?_
      refine JM_iald (q := 45) C isMA_14 h dX6_layRow_44 rfl (fun h => ?_)
      refine J_ishl (q := 46) C dX6_layRow_45 rfl ?_
      refine J_ior (q := 47) C dX6_layRow_46 rfl ?_
      refine J_nmi h (fun y4 ey4 h => ?_)
      refine J_istore (q := 49) C dX6_layRow_47 rfl (by decide) rfl ?_
      refine jn_elim h (fun y5 ey5 h => ?_)
      refine J_iinc (v := y5) (q := 52) C dX6_layRow_49 rfl 4 rfl (by rw [ey5]; rfl) (by decide) rfl ?_
      refine J_goto (tgt := 11) C dX6_layRow_52 (by decide) ?_
      refine J_sub [3, 4, 2, 1, 0] rfl ?_
      exact ih _ _ _ _ h
set_option maxHeartbeats 4000000 in
set_option maxRecDepth 100000 in
theorem c_X6_layRow {l : Launch} {D : va_G} {cI cR : ClassId} {ad : Nat → Nat} (hap : apN 16 ad) {i1 : Int32} {i2 : Int32} {i3 : Int32} {σ : Sg} {r : Bool} {σo : Sg}  (h : f_X6_layRow i1 i2 i3 σ = some (r, σo)) : MI l D (tysC cI cR) 16 ad (celM cI ad) okM yX6_layRow cX6_layRow 7 .boolean 1 30 [.ref (ad 0), .int i1, .int i2, .int i3] σ (b2i r) σo := by
  unfold f_X6_layRow at h
  refine entI "WokenYearsModel" hap (by decide +kernel) rfl (Nat.le_of_ble_eq_true rfl) (fun p e s m args below meth c C => ?_)
  refine J_sub (lv' := [(0, .ref (ad 0)), (1, .int i1), (2, .int i2), (3, .int i3)]) [0, 1, 2, 3] rfl ?_
  refine J_iload_n (q := 1) C dX6_layRow_0 rfl rfl 1 rfl ?_
  refine J_istore (q := 3) C dX6_layRow_1 rfl (by decide) rfl ?_
  refine J_iconst (v := 0 ) (q := 4) C dX6_layRow_3 rfl rfl ?_
  refine J_istore (q := 6) C dX6_layRow_4 rfl (by decide) rfl ?_
  refine J_iload_n (q := 7) C dX6_layRow_6 rfl rfl 4 rfl ?_
  refine J_iconst (v := 1 ) (q := 8) C dX6_layRow_7 rfl rfl ?_
  refine J_isub (q := 9) C dX6_layRow_8 rfl ?_
  refine J_nmi h (fun y1 ey1 h => ?_)
  refine J_istore (q := 11) C dX6_layRow_9 rfl (by decide) rfl ?_
  refine J_sub [3, 6, 2, 1, 0] rfl ?_
  refine cl_X6_layRow_11 hap C r σo  (fun v5_55 σv55 h => ?_) FU _ _ _ _ h
  · refine J_iload (q := 57) C dX6_layRow_55 rfl 1 rfl ?_
    refine J_iload_n (q := 58) C dX6_layRow_57 rfl rfl 0 rfl ?_
    refine J_icmp_ne (tgt := 65) (q := 61) C dX6_layRow_58 rfl (by decide) h (fun _ h => ?_) (fun _ h => ?_)
    · refine J_iconst (v := 1 ) (q := 62) C dX6_layRow_61 rfl rfl ?_
      refine J_goto (tgt := 66) C dX6_layRow_62 (by decide) ?_
      obtain ⟨rfl, rfl⟩ := Prod.mk.inj (Option.some.inj h)
      exact J_zret (b := true) C dX6_layRow_66
    · refine J_iconst (v := 0 ) (q := 66) C dX6_layRow_65 rfl rfl ?_
      obtain ⟨rfl, rfl⟩ := Prod.mk.inj (Option.some.inj h)
      exact J_zret (b := false) C dX6_layRow_66
set_option maxHeartbeats 4000000 in
set_option maxRecDepth 100000 in
theorem cl_X6_rowsOf_4 {p : Program} {l : Launch} {e : Env} {s : State} {m : MethodId} {args : Array Value} {below : List Frame} {meth : Method} {c : Code} {D : va_G} {cI cR : ClassId} {ad : Nat → Nat} (hap : apN 16 ad) (C : Cx p s m args meth c cX6_rowsOf 3 "WokenYearsModel" D (tysC cI cR) 16 ad (some .int)) {a0 : Int32} {k20 : Int32 → Option Int32} {σ : Sg} (r : Int32)  (hk20 : ∀ (u1 : Int32), k20 u1 = some r → Jd p l e (rmF 1 30) s m args below meth c D 16 ad (celM cI ad) okM 3 (MQ below (QI D (tysC cI cR) 16 ad (celM cI ad) okM r σ) args s 0 0 (inA 16 ad)) 20 [(1, .int u1)] [] σ) : ∀ (n : Nat) (x1 : Int32) (x2 : Int32), l_X6_rowsOf_4 a0 k20 n x1 x2 = some r → Jd p l e (rmF 1 30) s m args below meth c D 16 ad (celM cI ad) okM 3 (MQ below (QI D (tysC cI cR) 16 ad (celM cI ad) okM r σ) args s 0 0 (inA 16 ad)) 4 [(0, .int a0), (1, .int x1), (2, .int x2)] [] σ := by
  intro n
  induction n with
  | zero => intro x1 x2 h; cases h
  | succ n ih =>
    intro x1 x2 h
    unfold l_X6_rowsOf_4 at h
    refine J_iload_n (q := 5) C dX6_rowsOf_4 rfl rfl 2 rfl ?_
    refine J_iload_n (q := 6) C dX6_rowsOf_5 rfl rfl 0 rfl ?_
    refine J_icmp_ge (tgt := 20) (q := 9) C dX6_rowsOf_6 rfl (by decide) h (fun _ h => ?_) (fun _ h => ?_)
    · refine J_sub [1] rfl ?_
      exact hk20 _ h
    · refine J_iload_n (q := 10) C dX6_rowsOf_9 rfl rfl 1 rfl ?_
      refine J_bipush (v := 6) (q := 12) C dX6_rowsOf_10 rfl rfl ?_
      refine J_imul (q := 13) C dX6_rowsOf_12 rfl ?_
      refine J_nmi h (fun y1 ey1 h => ?_)
      refine J_istore_n (q := 14) C dX6_rowsOf_13 rfl rfl (by decide) rfl ?_
      refine jn_elim h (fun y2 ey2 h => ?_)
      refine J_iinc (v := y2) (q := 17) C dX6_rowsOf_14 rfl 2 rfl (by rw [ey2]; rfl) (by decide) rfl ?_
      refine J_goto (tgt := 4) C dX6_rowsOf_17 (by decide) ?_
      refine J_sub [2, 1, 0] rfl ?_
      exact ih _ _ h
set_option maxHeartbeats 4000000 in
set_option maxRecDepth 100000 in
theorem c_X6_rowsOf {l : Launch} {D : va_G} {cI cR : ClassId} {ad : Nat → Nat} (hap : apN 16 ad) {i0 : Int32} {σ : Sg} {r : Int32}  (h : f_X6_rowsOf i0 = some r) : MI l D (tysC cI cR) 16 ad (celM cI ad) okM yX6_rowsOf cX6_rowsOf 3 .int 1 30 [.int i0] σ r σ := by
  unfold f_X6_rowsOf at h
  refine entI "WokenYearsModel" hap (by decide +kernel) rfl (Nat.le_of_ble_eq_true rfl) (fun p e s m args below meth c C => ?_)
  refine J_sub (lv' := [(0, .int i0)]) [0] rfl ?_
  refine J_iconst (v := 1 ) (q := 1) C dX6_rowsOf_0 rfl rfl ?_
  refine J_istore_n (q := 2) C dX6_rowsOf_1 rfl rfl (by decide) rfl ?_
  refine J_iconst (v := 0 ) (q := 3) C dX6_rowsOf_2 rfl rfl ?_
  refine J_istore_n (q := 4) C dX6_rowsOf_3 rfl rfl (by decide) rfl ?_
  refine J_sub [2, 1, 0] rfl ?_
  refine cl_X6_rowsOf_4 hap C r  (fun v1_20 h => ?_) FU _ _ h
  · refine J_iload_n (q := 21) C dX6_rowsOf_20 rfl rfl 0 rfl ?_
    obtain rfl := Option.some.inj h
    exact J_iret C dX6_rowsOf_21
set_option maxHeartbeats 4000000 in
set_option maxRecDepth 100000 in
theorem cl_X6_minutesOf_12 {p : Program} {l : Launch} {e : Env} {s : State} {m : MethodId} {args : Array Value} {below : List Frame} {meth : Method} {c : Code} {D : va_G} {cI cR : ClassId} {ad : Nat → Nat} (hap : apN 16 ad) (C : Cx p s m args meth c cX6_minutesOf 5 "WokenYearsModel" D (tysC cI cR) 16 ad (some .int)) {a1 : Int32} {σ : Sg} (r : Int32)   : ∀ (n : Nat) (x2 : Int32) (x3 : Int32) (x4 : Int32), l_X6_minutesOf_12 a1 σ n x2 x3 x4 = some r → Jd p l e (rmF 5 119) s m args below meth c D 16 ad (celM cI ad) okM 5 (MQ below (QI D (tysC cI cR) 16 ad (celM cI ad) okM r σ) args s 0 0 (inA 16 ad)) 12 [(0, .ref (ad 0)), (1, .int a1), (2, .int x2), (3, .int x3), (4, .int x4)] [] σ := by
  intro n
  induction n with
  | zero => intro x2 x3 x4 h; cases h
  | succ n ih =>
    intro x2 x3 x4 h
    unfold l_X6_minutesOf_12 at h
    refine J_iload (q := 14) C dX6_minutesOf_12 rfl 4 rfl ?_
    refine J_iload_n (q := 15) C dX6_minutesOf_14 rfl rfl 1 rfl ?_
    refine J_icmp_ge (tgt := 84) (q := 18) C dX6_minutesOf_15 rfl (by decide) h (fun _ h => ?_) (fun _ h => ?_)
    · refine J_iload_n (q := 85) C dX6_minutesOf_84 rfl rfl 2 rfl ?_
      obtain rfl := Option.some.inj h
      exact J_iret C dX6_minutesOf_85
    · refine J_iload_n (q := 19) C dX6_minutesOf_18 rfl rfl 2 rfl ?_
      refine J_iload_n (q := 20) C dX6_minutesOf_19 rfl rfl 3 rfl ?_
      refine J_aload_n (q := 21) C dX6_minutesOf_20 rfl rfl 0 rfl ?_
      refine JM_g_X6_row (q := 24) C kF_X6_53 dX6_minutesOf_21 rfl ?_
      refine J_iload (q := 26) C dX6_minutesOf_24 rfl 4 rfl ?_
      refine JM_iald (q := 27) C isMA_14 h dX6_minutesOf_26 rfl (fun h => ?_)
      obtain ⟨r2, ec2, h⟩ := bnd_of h
      refine J_callIS (q := 30) (As := [.int x3, .int (gA σ 14 x4.toNatClampNeg)]) C (c_X6_far hap  ec2) ok_X6_far kM_X6_176 rfl rfl rfl ⟨Nat.le_of_ble_eq_true rfl, Nat.le_of_ble_eq_true rfl⟩ (Nat.le_of_ble_eq_true rfl) dX6_minutesOf_27 rfl ?_
      refine J_aload_n (q := 31) C dX6_minutesOf_30 rfl rfl 0 rfl ?_
      refine J_aload_n (q := 32) C dX6_minutesOf_31 rfl rfl 0 rfl ?_
      refine JM_g_X6_row (q := 35) C kF_X6_53 dX6_minutesOf_32 rfl ?_
      refine J_iload (q := 37) C dX6_minutesOf_35 rfl 4 rfl ?_
      refine JM_iald (q := 38) C isMA_14 h dX6_minutesOf_37 rfl (fun h => ?_)
      obtain ⟨r3, ec3, h⟩ := bnd_of h
      refine J_callIV (q := 41) (As := [.int (gA σ 14 x4.toNatClampNeg)]) C (c_X6_moreOf hap  ec3) ok_X6_moreOf kM_X6_147 (by decide) rfl rfl rfl rfl rfl rfl ⟨Nat.le_of_ble_eq_true rfl, Nat.le_of_ble_eq_true rfl⟩ (Nat.le_of_ble_eq_true rfl) dX6_minutesOf_38 rfl ?_
      refine J_iadd (q := 42) C dX6_minutesOf_41 rfl ?_
      refine J_iadd (q := 43) C dX6_minutesOf_42 rfl ?_
      refine J_nmi h (fun y4 ey4 h => ?_)
      refine J_istore_n (q := 44) C dX6_minutesOf_43 rfl rfl (by decide) rfl ?_
      refine J_aload_n (q := 45) C dX6_minutesOf_44 rfl rfl 1 rfl ?_
      refine JM_g_X6_row (q := 48) C kF_X6_53 dX6_minutesOf_45 rfl ?_
      refine J_iload (q := 50) C dX6_minutesOf_48 rfl 4 rfl ?_
      refine JM_iald (q := 51) C isMA_14 h dX6_minutesOf_50 rfl (fun h => ?_)
      refine J_nmi h (fun y5 ey5 h => ?_)
      refine J_istore_n (q := 52) C dX6_minutesOf_51 rfl rfl (by decide) rfl ?_
      refine J_aload_n (q := 53) C dX6_minutesOf_52 rfl rfl 2 rfl ?_
      refine JM_g_X6_now (q := 56) C kF_X6_38 dX6_minutesOf_53 rfl ?_
      refine J_iconst (v := 0 ) (q := 57) C dX6_minutesOf_56 rfl rfl ?_
      refine JM_iald (q := 58) C isMA_9 h dX6_minutesOf_57 rfl (fun h => ?_)
      refine J_iload_n (q := 59) C dX6_minutesOf_58 rfl rfl 1 rfl ?_
      refine J_iadd (q := 60) C dX6_minutesOf_59 rfl ?_
      refine J_aload_n (q := 61) C dX6_minutesOf_60 rfl rfl 2 rfl ?_
      refine JM_g_X6_wants (q := 64) C kF_X6_35 dX6_minutesOf_61 rfl ?_
      refine J_aload_n (q := 65) C dX6_minutesOf_64 rfl rfl 2 rfl ?_
      refine JM_g_X6_row (q := 68) C kF_X6_53 dX6_minutesOf_65 rfl ?_
      refine J_iload (q := 70) C dX6_minutesOf_68 rfl 4 rfl ?_
      refine JM_iald (q := 71) C isMA_14 h dX6_minutesOf_70 rfl (fun h => ?_)
      refine JM_iald (q := 72) C isMA_8 h dX6_minutesOf_71 rfl (fun h => ?_)
      refine J_icmp_le (tgt := 78) (q := 75) C dX6_minutesOf_72 rfl (by decide) h (fun _ h => ?_) (fun _ h => ?_)
      · refine jn_elim h (fun y6 ey6 h => ?_)
        refine J_iinc (v := y6) (q := 81) C dX6_minutesOf_78 rfl 4 rfl (by rw [ey6]; rfl) (by decide) rfl ?_
        refine J_goto (tgt := 12) C dX6_minutesOf_81 (by decide) ?_
        refine J_sub [3, 4, 2, 1, 0] rfl ?_
        exact ih _ _ _ h
      · refine J_bipush (v := -9) (q := 77) C dX6_minutesOf_75 rfl rfl ?_
        obtain rfl := Option.some.inj h
        exact J_iret C dX6_minutesOf_77
set_option maxHeartbeats 4000000 in
set_option maxRecDepth 100000 in
theorem c_X6_minutesOf {l : Launch} {D : va_G} {cI cR : ClassId} {ad : Nat → Nat} (hap : apN 16 ad) {i1 : Int32} {σ : Sg} {r : Int32}  (h : f_X6_minutesOf i1 σ = some r) : MI l D (tysC cI cR) 16 ad (celM cI ad) okM yX6_minutesOf cX6_minutesOf 5 .int 5 119 [.ref (ad 0), .int i1] σ r σ := by
  unfold f_X6_minutesOf at h
  refine entI "WokenYearsModel" hap (by decide +kernel) rfl (Nat.le_of_ble_eq_true rfl) (fun p e s m args below meth c C => ?_)
  refine J_sub (lv' := [(0, .ref (ad 0)), (1, .int i1)]) [0, 1] rfl ?_
  refine J_iconst (v := 0 ) (q := 1) C dX6_minutesOf_0 rfl rfl ?_
  refine J_istore_n (q := 2) C dX6_minutesOf_1 rfl rfl (by decide) rfl ?_
  refine J_aload_n (q := 3) C dX6_minutesOf_2 rfl rfl 1 rfl ?_
  refine JM_g_X6_now (q := 6) C kF_X6_38 dX6_minutesOf_3 rfl ?_
  refine J_iconst (v := 2 ) (q := 7) C dX6_minutesOf_6 rfl rfl ?_
  refine JM_iald (q := 8) C isMA_9 h dX6_minutesOf_7 rfl (fun h => ?_)
  refine J_nmi h (fun y1 ey1 h => ?_)
  refine J_istore_n (q := 9) C dX6_minutesOf_8 rfl rfl (by decide) rfl ?_
  refine J_iconst (v := 0 ) (q := 10) C dX6_minutesOf_9 rfl rfl ?_
  refine J_istore (q := 12) C dX6_minutesOf_10 rfl (by decide) rfl ?_
  refine J_sub [3, 4, 2, 1, 0] rfl ?_
  refine cl_X6_minutesOf_12 hap C r  FU _ _ _ h
set_option maxHeartbeats 4000000 in
set_option maxRecDepth 100000 in
theorem cl_X6_bestOf_11 {p : Program} {l : Launch} {e : Env} {s : State} {m : MethodId} {args : Array Value} {below : List Frame} {meth : Method} {c : Code} {D : va_G} {cI cR : ClassId} {ad : Nat → Nat} (hap : apN 16 ad) (C : Cx p s m args meth c cX6_bestOf 6 "WokenYearsModel" D (tysC cI cR) 16 ad (some .int)) {a1 : Int32} {a2 : Int32} {k81 : Int32 → Sg → Option (Int32 × Sg)} (r : Int32) (σo : Sg)  (hk81 : ∀ (u3 : Int32) (σ1 : Sg), k81 u3 σ1 = some (r, σo) → Jd p l e (rmF 6 143) s m args below meth c D 16 ad (celM cI ad) okM 6 (MQ below (QI D (tysC cI cR) 16 ad (celM cI ad) okM r σo) args s 0 0 (inA 16 ad)) 81 [(3, .int u3)] [] σ1) : ∀ (n : Nat) (x3 : Int32) (x4 : Int32) (σx : Sg), l_X6_bestOf_11 a1 a2 k81 n x3 x4 σx = some (r, σo) → Jd p l e (rmF 6 143) s m args below meth c D 16 ad (celM cI ad) okM 6 (MQ below (QI D (tysC cI cR) 16 ad (celM cI ad) okM r σo) args s 0 0 (inA 16 ad)) 11 [(0, .ref (ad 0)), (1, .int a1), (2, .int a2), (3, .int x3), (4, .int x4)] [] σx := by
  intro n
  induction n with
  | zero => intro x3 x4 σx h; cases h
  | succ n ih =>
    intro x3 x4 σx h
    unfold l_X6_bestOf_11 at h
    refine J_iload (q := 13) C dX6_bestOf_11 rfl 4 rfl ?_
    refine J_iload_n (q := 14) C dX6_bestOf_13 rfl rfl 2 rfl ?_
    obtain ⟨r2, ec2, h⟩ := bnd_of h
    refine J_callIS (q := 17) (As := [.int a2]) C (c_X6_rowsOf hap  ec2) ok_X6_rowsOf kM_X6_202 rfl rfl rfl ⟨Nat.le_of_ble_eq_true rfl, Nat.le_of_ble_eq_true rfl⟩ (Nat.le_of_ble_eq_true rfl) dX6_bestOf_14 rfl ?_
    refine J_icmp_ge (tgt := 81) (q := 20) C dX6_bestOf_17 rfl (by decide) h (fun _ h => ?_) (fun _ h => ?_)
    · refine J_sub [3] rfl ?_
      exact hk81 _ _ h
    · refine J_aload_n (q := 21) C dX6_bestOf_20 rfl rfl 0 rfl ?_
      refine J_iload (q := 23) C dX6_bestOf_21 rfl 4 rfl ?_
      refine J_iload_n (q := 24) C dX6_bestOf_23 rfl rfl 2 rfl ?_
      refine J_iload_n (q := 25) C dX6_bestOf_24 rfl rfl 1 rfl ?_
      obtain ⟨r3, σ3, ec3, h⟩ := bnd2_of h
      refine J_callIV (q := 28) (As := [.int x4, .int a2, .int a1]) C (c_X6_layRow hap  ec3) ok_X6_layRow kM_X6_205 (by decide) rfl rfl rfl rfl rfl rfl ⟨Nat.le_of_ble_eq_true rfl, Nat.le_of_ble_eq_true rfl⟩ (Nat.le_of_ble_eq_true rfl) dX6_bestOf_25 rfl ?_
      refine jn_elim h (fun k75 ek75 h => ?_)
      have hk75 : ∀ (u3_75 : Int32) (σj75 : Sg), k75 u3_75 σj75 = some (r, σo) → Jd p l e (rmF 6 143) s m args below meth c D 16 ad (celM cI ad) okM 6 (MQ below (QI D (tysC cI cR) 16 ad (celM cI ad) okM r σo) args s 0 0 (inA 16 ad)) 75 [(0, .ref (ad 0)), (1, .int a1), (2, .int a2), (3, .int u3_75), (4, .int x4)] [] σj75 := by
        intro u3_75 σj75 h
        rw [ek75] at h
        refine jn_elim h (fun y4 ey4 h => ?_)
        refine J_iinc (v := y4) (q := 78) C dX6_bestOf_75 rfl 4 rfl (by rw [ey4]; rfl) (by decide) rfl ?_
        refine J_goto (tgt := 11) C dX6_bestOf_78 (by decide) ?_
        refine J_sub [1, 2, 3, 4, 0] rfl ?_
        exact ih _ _ _ h
      refine J_ifeq_b (tgt := 75) (q := 31) C dX6_bestOf_28 rfl (by decide) h (fun _ h => ?_) (fun _ h => ?_)
      · refine J_aload_n (q := 32) C dX6_bestOf_31 rfl rfl 0 rfl ?_
        refine J_iload_n (q := 33) C dX6_bestOf_32 rfl rfl 2 rfl ?_
        obtain ⟨r5, ec5, h⟩ := bnd_of h
        refine J_callIV (q := 36) (As := [.int a2]) C (c_X6_minutesOf hap  ec5) ok_X6_minutesOf kM_X6_208 (by decide) rfl rfl rfl rfl rfl rfl ⟨Nat.le_of_ble_eq_true rfl, Nat.le_of_ble_eq_true rfl⟩ (Nat.le_of_ble_eq_true rfl) dX6_bestOf_33 rfl ?_
        refine J_istore (q := 38) C dX6_bestOf_36 rfl (by decide) rfl ?_
        refine J_iload (q := 40) C dX6_bestOf_38 rfl 0 rfl ?_
        refine J_bipush (v := -9) (q := 42) C dX6_bestOf_40 rfl rfl ?_
        refine J_icmp_eq (tgt := 75) (q := 45) C dX6_bestOf_42 rfl (by decide) h (fun _ h => ?_) (fun _ h => ?_)
        · refine J_sub [1, 2, 3, 4, 5] rfl ?_
          exact hk75 _ _ h
        · refine J_iload_n (q := 46) C dX6_bestOf_45 rfl rfl 4 rfl ?_
          refine J_bipush (v := -9) (q := 48) C dX6_bestOf_46 rfl rfl ?_
          refine jn_elim h (fun k57 ek57 h => ?_)
          have hk57 : k57 = some (r, σo) → Jd p l e (rmF 6 143) s m args below meth c D 16 ad (celM cI ad) okM 6 (MQ below (QI D (tysC cI cR) 16 ad (celM cI ad) okM r σo) args s 0 0 (inA 16 ad)) 57 [(0, .ref (ad 0)), (1, .int a1), (2, .int a2), (4, .int x4), (5, .int r5)] [] σ3 := by
            intro  h
            rw [ek57] at h
            refine J_iload (q := 59) C dX6_bestOf_57 rfl 4 rfl ?_
            refine J_istore_n (q := 60) C dX6_bestOf_59 rfl rfl (by decide) rfl ?_
            refine J_aload_n (q := 61) C dX6_bestOf_60 rfl rfl 1 rfl ?_
            refine JM_g_X6_row (q := 64) C kF_X6_53 dX6_bestOf_61 rfl ?_
            refine J_iconst (v := 0 ) (q := 65) C dX6_bestOf_64 rfl rfl ?_
            refine J_aload_n (q := 66) C dX6_bestOf_65 rfl rfl 1 rfl ?_
            refine JM_g_X6_bestRow (q := 69) C kF_X6_56 dX6_bestOf_66 rfl ?_
            refine J_iconst (v := 0 ) (q := 70) C dX6_bestOf_69 rfl rfl ?_
            refine J_bipush (v := 6) (q := 72) C dX6_bestOf_70 rfl rfl ?_
            obtain ⟨σ6, ec6, h⟩ := bnd_of h
            refine J_callXS (q := 75) (As := [.ref (ad 14), .int (0 : Int32), .ref (ad 15), .int (0 : Int32), .int (6 : Int32)]) C (c_X6_bring hap isMA_14 isMA_15 ec6) ok_X6_bring kM_X6_172 rfl rfl rfl ⟨Nat.le_of_ble_eq_true rfl, Nat.le_of_ble_eq_true rfl⟩ (Nat.le_of_ble_eq_true rfl) dX6_bestOf_72 rfl ?_
            refine J_sub [1, 2, 3, 0, 4] rfl ?_
            exact hk75 _ _ h
          refine J_icmp_eq (tgt := 57) (q := 51) C dX6_bestOf_48 rfl (by decide) h (fun _ h => ?_) (fun _ h => ?_)
          · refine J_sub [1, 2, 3, 5, 0] rfl ?_
            exact hk57 h
          · refine J_iload (q := 53) C dX6_bestOf_51 rfl 0 rfl ?_
            refine J_iload_n (q := 54) C dX6_bestOf_53 rfl rfl 4 rfl ?_
            refine J_icmp_ge (tgt := 75) (q := 57) C dX6_bestOf_54 rfl (by decide) h (fun _ h => ?_) (fun _ h => ?_)
            · refine J_sub [1, 2, 3, 4, 5] rfl ?_
              exact hk75 _ _ h
            · refine J_sub [1, 2, 3, 5, 0] rfl ?_
              exact hk57 h
      · exact hk75 _ _ h
set_option maxHeartbeats 4000000 in
set_option maxRecDepth 100000 in
theorem c_X6_bestOf {l : Launch} {D : va_G} {cI cR : ClassId} {ad : Nat → Nat} (hap : apN 16 ad) {i1 : Int32} {σ : Sg} {r : Int32} {σo : Sg}  (h : f_X6_bestOf i1 σ = some (r, σo)) : MI l D (tysC cI cR) 16 ad (celM cI ad) okM yX6_bestOf cX6_bestOf 6 .int 6 143 [.ref (ad 0), .int i1] σ r σo := by
  unfold f_X6_bestOf at h
  refine entI "WokenYearsModel" hap (by decide +kernel) rfl (Nat.le_of_ble_eq_true rfl) (fun p e s m args below meth c C => ?_)
  refine J_sub (lv' := [(0, .ref (ad 0)), (1, .int i1)]) [0, 1] rfl ?_
  refine J_iload_n (q := 1) C dX6_bestOf_0 rfl rfl 1 rfl ?_
  obtain ⟨r1, ec1, h⟩ := bnd_of h
  refine J_callIS (q := 4) (As := [.int i1]) C (c_X6_bits hap  ec1) ok_X6_bits kM_X6_166 rfl rfl rfl ⟨Nat.le_of_ble_eq_true rfl, Nat.le_of_ble_eq_true rfl⟩ (Nat.le_of_ble_eq_true rfl) dX6_bestOf_1 rfl ?_
  refine J_istore_n (q := 5) C dX6_bestOf_4 rfl rfl (by decide) rfl ?_
  refine J_bipush (v := -9) (q := 7) C dX6_bestOf_5 rfl rfl ?_
  refine J_istore_n (q := 8) C dX6_bestOf_7 rfl rfl (by decide) rfl ?_
  refine J_iconst (v := 0 ) (q := 9) C dX6_bestOf_8 rfl rfl ?_
  refine J_istore (q := 11) C dX6_bestOf_9 rfl (by decide) rfl ?_
  refine J_sub [3, 4, 2, 1, 0] rfl ?_
  refine cl_X6_bestOf_11 hap C r σo  (fun v3_81 σv81 h => ?_) FU _ _ _ h
  · refine J_iload_n (q := 82) C dX6_bestOf_81 rfl rfl 0 rfl ?_
    obtain ⟨rfl, rfl⟩ := Prod.mk.inj (Option.some.inj h)
    exact J_iret C dX6_bestOf_82
