set_option maxHeartbeats 4000000 in
set_option maxRecDepth 100000 in
theorem c_X5_night {l : Launch} {D : va_G} {cI cR : ClassId} {ad : Nat → Nat} (hap : apN 74 ad)  {σ : Sg} {r : Int32} {σo : Sg}  (h : f_X5_night σ = some (r, σo)) : MI l D (tysC cI cR) 74 ad (celC cI cR ad) okC yX5_night cX5_night 2 .int 6 145 [.ref (ad 0)] σ r σo := by
  unfold f_X5_night at h
  refine entI "WokenYears" hap (by decide +kernel) rfl (Nat.le_of_ble_eq_true rfl) (fun p e s m args below meth c C => ?_)
  refine J_sub (lv' := [(0, .ref (ad 0))]) [0] rfl ?_
  refine J_aload_n (q := 1) C dX5_night_0 rfl rfl 0 rfl ?_
  refine JC_g_X5_street (q := 4) C kF_X5_49 dX5_night_1 rfl (fun hs1 => ?_)
  refine JC_g_X4_size (q := 7) C hs1 kF_X5_131 dX5_night_4 rfl ?_
  refine J_if_ne (tgt := 13) (q := 10) C dX5_night_7 rfl (by decide) h (fun _ h => ?_) (fun _ h => ?_)
  · refine J_bipush (v := -4) (q := 12) C dX5_night_10 rfl rfl ?_
    obtain ⟨rfl, rfl⟩ := Prod.mk.inj (Option.some.inj h)
    exact J_iret C dX5_night_12
  · refine J_aload_n (q := 14) C dX5_night_13 rfl rfl 0 rfl ?_
    refine J_iconst (v := 1 ) (q := 15) C dX5_night_14 rfl rfl ?_
    obtain ⟨r2, ec2, h⟩ := bnd_of h
    refine J_callIV (q := 18) (As := [.int (1 : Int32)]) C (c_X5_isFull hap  ec2) ok_X5_isFull kM_X5_172 (by decide) rfl rfl rfl rfl rfl rfl ⟨Nat.le_of_ble_eq_true rfl, Nat.le_of_ble_eq_true rfl⟩ (Nat.le_of_ble_eq_true rfl) dX5_night_15 rfl ?_
    refine J_ifeq_b (tgt := 24) (q := 21) C dX5_night_18 rfl (by decide) h (fun _ h => ?_) (fun _ h => ?_)
    · refine J_bipush (v := -2) (q := 23) C dX5_night_21 rfl rfl ?_
      obtain ⟨rfl, rfl⟩ := Prod.mk.inj (Option.some.inj h)
      exact J_iret C dX5_night_23
    · refine J_aload_n (q := 25) C dX5_night_24 rfl rfl 0 rfl ?_
      refine JC_g_X5_street (q := 28) C kF_X5_49 dX5_night_25 rfl (fun hs3 => ?_)
      obtain ⟨r4, ec4, h⟩ := bnd_of h
      refine J_callIV (q := 31) (As := []) C (c_X4_awakeSet hap hs3 ec4) ok_X4_awakeSet kM_X5_188 (lt74S hs3) (celC_S hs3) rfl rfl rfl rfl rfl ⟨Nat.le_of_ble_eq_true rfl, Nat.le_of_ble_eq_true rfl⟩ (Nat.le_of_ble_eq_true rfl) dX5_night_28 rfl ?_
      obtain ⟨r5, ec5, h⟩ := bnd_of h
      refine J_callIS (q := 34) (As := [.int r4]) C (c_J6_bitCount_0f7a4 hap  ec5) ok_J6_bitCount_0f7a4 kM_X5_192 rfl rfl rfl ⟨Nat.le_of_ble_eq_true rfl, Nat.le_of_ble_eq_true rfl⟩ (Nat.le_of_ble_eq_true rfl) dX5_night_31 rfl ?_
      refine J_istore_n (q := 35) C dX5_night_34 rfl rfl (by decide) rfl ?_
      refine J_aload_n (q := 36) C dX5_night_35 rfl rfl 1 rfl ?_
      refine JC_g_X5_street (q := 39) C kF_X5_49 dX5_night_36 rfl (fun hs6 => ?_)
      refine J_iconst (v := 4 ) (q := 40) C dX5_night_39 rfl rfl ?_
      refine J_iconst (v := 0 ) (q := 41) C dX5_night_40 rfl rfl ?_
      refine J_iconst (v := 0 ) (q := 42) C dX5_night_41 rfl rfl ?_
      obtain ⟨σ7, ec7, h⟩ := bnd_of h
      refine J_callXV (q := 45) (As := [.int (4 : Int32), .int (0 : Int32), .int (0 : Int32)]) C (c_X4_does hap hs6 ec7) ok_X4_does kM_X5_175 (lt74S hs6) (celC_S hs6) rfl rfl rfl rfl rfl ⟨Nat.le_of_ble_eq_true rfl, Nat.le_of_ble_eq_true rfl⟩ (Nat.le_of_ble_eq_true rfl) dX5_night_42 rfl ?_
      refine J_iload_n (q := 46) C dX5_night_45 rfl rfl 0 rfl ?_
      obtain ⟨rfl, rfl⟩ := Prod.mk.inj (Option.some.inj h)
      exact J_iret C dX5_night_46
set_option maxHeartbeats 4000000 in
set_option maxRecDepth 100000 in
theorem c_X5_undo {l : Launch} {D : va_G} {cI cR : ClassId} {ad : Nat → Nat} (hap : apN 74 ad) {i1 : Int32} {σ : Sg} {r : Int32} {σo : Sg}  (h : f_X5_undo i1 σ = some (r, σo)) : MI l D (tysC cI cR) 74 ad (celC cI cR ad) okC yX5_undo cX5_undo 3 .int 6 142 [.ref (ad 0), .int i1] σ r σo := by
  unfold f_X5_undo at h
  refine entI "WokenYears" hap (by decide +kernel) rfl (Nat.le_of_ble_eq_true rfl) (fun p e s m args below meth c C => ?_)
  refine J_sub (lv' := [(0, .ref (ad 0)), (1, .int i1)]) [0, 1] rfl ?_
  refine J_aload_n (q := 1) C dX5_undo_0 rfl rfl 0 rfl ?_
  refine JC_g_X5_street (q := 4) C kF_X5_49 dX5_undo_1 rfl (fun hs1 => ?_)
  refine JC_g_X4_deeds (q := 7) C hs1 kF_X5_125 dX5_undo_4 rfl ?_
  refine JC_g_X0_size (q := 10) C (isI_st hs1 6 (by decide)) kF_X5_85 dX5_undo_7 rfl ?_
  refine J_nmi h (fun y2 ey2 h => ?_)
  refine J_istore_n (q := 11) C dX5_undo_10 rfl rfl (by decide) rfl ?_
  refine J_iload_n (q := 12) C dX5_undo_11 rfl rfl 2 rfl ?_
  refine J_iconst (v := 0 ) (q := 13) C dX5_undo_12 rfl rfl ?_
  refine J_iload_n (q := 14) C dX5_undo_13 rfl rfl 0 rfl ?_
  obtain ⟨r3, ec3, h⟩ := bnd_of h
  refine J_callIS (q := 17) (As := [.int i1, .int (0 : Int32), .int y2]) C (c_X5_within hap  ec3) ok_X5_within kM_X5_75 rfl rfl rfl ⟨Nat.le_of_ble_eq_true rfl, Nat.le_of_ble_eq_true rfl⟩ (Nat.le_of_ble_eq_true rfl) dX5_undo_14 rfl ?_
  refine J_ifne_b (tgt := 22) (q := 20) C dX5_undo_17 rfl (by decide) h (fun _ h => ?_) (fun _ h => ?_)
  · refine J_aload_n (q := 23) C dX5_undo_22 rfl rfl 1 rfl ?_
    refine JC_g_X5_street (q := 26) C kF_X5_49 dX5_undo_23 rfl (fun hs4 => ?_)
    refine JC_g_X4_deeds (q := 29) C hs4 kF_X5_125 dX5_undo_26 rfl ?_
    refine J_iload_n (q := 30) C dX5_undo_29 rfl rfl 2 rfl ?_
    obtain ⟨σ5, ec5, h⟩ := bnd_of h
    refine J_callXV (q := 33) (As := [.int i1]) C (c_X0_cut hap (isI_st hs4 6 (by decide)) ec5) ok_X0_cut kM_X5_197 (lt74I (isI_st hs4 6 (by decide))) (celC_I (isI_st hs4 6 (by decide))) rfl rfl rfl rfl rfl ⟨Nat.le_of_ble_eq_true rfl, Nat.le_of_ble_eq_true rfl⟩ (Nat.le_of_ble_eq_true rfl) dX5_undo_30 rfl ?_
    refine J_aload_n (q := 34) C dX5_undo_33 rfl rfl 1 rfl ?_
    refine JC_g_X5_street (q := 37) C kF_X5_49 dX5_undo_34 rfl (fun hs6 => ?_)
    obtain ⟨σ7, ec7, h⟩ := bnd_of h
    refine J_callXV (q := 40) (As := []) C (c_X4_replay hap hs6 ec7) ok_X4_replay kM_X5_128 (lt74S hs6) (celC_S hs6) rfl rfl rfl rfl rfl ⟨Nat.le_of_ble_eq_true rfl, Nat.le_of_ble_eq_true rfl⟩ (Nat.le_of_ble_eq_true rfl) dX5_undo_37 rfl ?_
    refine J_iload_n (q := 41) C dX5_undo_40 rfl rfl 0 rfl ?_
    refine J_iload_n (q := 42) C dX5_undo_41 rfl rfl 2 rfl ?_
    refine J_isub (q := 43) C dX5_undo_42 rfl ?_
    obtain ⟨rfl, rfl⟩ := Prod.mk.inj (Option.some.inj h)
    exact J_iret C dX5_undo_43
  · refine J_iconst (v := -1 ) (q := 21) C dX5_undo_20 rfl rfl ?_
    obtain ⟨rfl, rfl⟩ := Prod.mk.inj (Option.some.inj h)
    exact J_iret C dX5_undo_21
set_option maxHeartbeats 4000000 in
set_option maxRecDepth 100000 in
theorem c_X5_keep {l : Launch} {D : va_G} {cI cR : ClassId} {ad : Nat → Nat} (hap : apN 74 ad) {i1 : Int32} {σ : Sg} {r : Int32} {σo : Sg}  (h : f_X5_keep i1 σ = some (r, σo)) : MI l D (tysC cI cR) 74 ad (celC cI cR ad) okC yX5_keep cX5_keep 3 .int 4 105 [.ref (ad 0), .int i1] σ r σo := by
  unfold f_X5_keep at h
  refine entI "WokenYears" hap (by decide +kernel) rfl (Nat.le_of_ble_eq_true rfl) (fun p e s m args below meth c C => ?_)
  refine J_sub (lv' := [(0, .ref (ad 0)), (1, .int i1)]) [0, 1] rfl ?_
  refine J_aload_n (q := 1) C dX5_keep_0 rfl rfl 0 rfl ?_
  refine JC_g_X5_kept (q := 4) C kF_X5_20 dX5_keep_1 rfl ?_
  refine J_iload_n (q := 5) C dX5_keep_4 rfl rfl 1 rfl ?_
  obtain ⟨r1, ec1, h⟩ := bnd_of h
  refine J_callRS (q := 8) (As := [.ref (ad 73), .int i1]) C (c_X5_pick hap isRA_73 ec1) ok_X5_pick kM_X5_99 rfl rfl rfl ⟨Nat.le_of_ble_eq_true rfl, Nat.le_of_ble_eq_true rfl⟩ (Nat.le_of_ble_eq_true rfl) dX5_keep_5 rfl ?_
  cases r1 with
  | none =>
    have h := oc_none h
    refine J_st (st' := [.null]) rfl ?_
    refine J_astore_nN (q := 9) C dX5_keep_8 rfl rfl (by decide) rfl ?_
    refine J_aload_nN (q := 10) C dX5_keep_9 rfl rfl 0 rfl ?_
    refine J_ifnonnullN (q := 13) C dX5_keep_10 rfl ?_
    refine J_iconst (v := -1 ) (q := 14) C dX5_keep_13 rfl rfl ?_
    obtain ⟨rfl, rfl⟩ := Prod.mk.inj (Option.some.inj h)
    exact J_iret C dX5_keep_14
  | some g1 =>
    have h := oc_some h
    have ho1 := X5_pick_isI isRA_73 ec1
    refine J_st (st' := [.ref (ad g1)]) rfl ?_
    refine J_astore_n (q := 9) C dX5_keep_8 rfl rfl (by decide) rfl ?_
    refine J_aload_n (q := 10) C dX5_keep_9 rfl rfl 0 rfl ?_
    refine J_ifnonnull (tgt := 15) C dX5_keep_10 (by decide) ?_
    refine J_aload_n (q := 16) C dX5_keep_15 rfl rfl 1 rfl ?_
    refine JC_g_X5_street (q := 19) C kF_X5_49 dX5_keep_16 rfl (fun hs2 => ?_)
    refine JC_g_X4_size (q := 22) C hs2 kF_X5_131 dX5_keep_19 rfl ?_
    refine J_if_ne (tgt := 28) (q := 25) C dX5_keep_22 rfl (by decide) h (fun _ h => ?_) (fun _ h => ?_)
    · refine J_bipush (v := -4) (q := 27) C dX5_keep_25 rfl rfl ?_
      obtain ⟨rfl, rfl⟩ := Prod.mk.inj (Option.some.inj h)
      exact J_iret C dX5_keep_27
    · refine J_aload_n (q := 29) C dX5_keep_28 rfl rfl 0 rfl ?_
      refine J_aload_n (q := 30) C dX5_keep_29 rfl rfl 1 rfl ?_
      refine JC_g_X5_street (q := 33) C kF_X5_49 dX5_keep_30 rfl (fun hs3 => ?_)
      refine JC_g_X4_deeds (q := 36) C hs3 kF_X5_125 dX5_keep_33 rfl ?_
      obtain ⟨σ4, ec4, h⟩ := bnd_of h
      refine J_callXV (q := 39) (As := [.ref (ad (stI (gR σ 0) 6))]) C (c_X0_takeFrom hap ho1 (isI_st hs3 6 (by decide)) ec4) ok_X0_takeFrom kM_X5_200 (lt74I ho1) (celC_I ho1) rfl rfl rfl rfl rfl ⟨Nat.le_of_ble_eq_true rfl, Nat.le_of_ble_eq_true rfl⟩ (Nat.le_of_ble_eq_true rfl) dX5_keep_36 rfl ?_
      refine J_aload_n (q := 40) C dX5_keep_39 rfl rfl 0 rfl ?_
      refine JC_g_X0_size (q := 43) C ho1 kF_X5_85 dX5_keep_40 rfl ?_
      obtain ⟨rfl, rfl⟩ := Prod.mk.inj (Option.some.inj h)
      exact J_iret C dX5_keep_43
set_option maxHeartbeats 4000000 in
set_option maxRecDepth 100000 in
theorem c_X5_on {l : Launch} {D : va_G} {cI cR : ClassId} {ad : Nat → Nat} (hap : apN 74 ad) {i1 : Int32} {σ : Sg} {r : Int32} {σo : Sg}  (h : f_X5_on i1 σ = some (r, σo)) : MI l D (tysC cI cR) 74 ad (celC cI cR ad) okC yX5_on cX5_on 4 .int 6 142 [.ref (ad 0), .int i1] σ r σo := by
  unfold f_X5_on at h
  refine entI "WokenYears" hap (by decide +kernel) rfl (Nat.le_of_ble_eq_true rfl) (fun p e s m args below meth c C => ?_)
  refine J_sub (lv' := [(0, .ref (ad 0)), (1, .int i1)]) [0, 1] rfl ?_
  refine J_aload_n (q := 1) C dX5_on_0 rfl rfl 0 rfl ?_
  refine JC_g_X5_kept (q := 4) C kF_X5_20 dX5_on_1 rfl ?_
  refine J_iload_n (q := 5) C dX5_on_4 rfl rfl 1 rfl ?_
  obtain ⟨r1, ec1, h⟩ := bnd_of h
  refine J_callRS (q := 8) (As := [.ref (ad 73), .int i1]) C (c_X5_pick hap isRA_73 ec1) ok_X5_pick kM_X5_99 rfl rfl rfl ⟨Nat.le_of_ble_eq_true rfl, Nat.le_of_ble_eq_true rfl⟩ (Nat.le_of_ble_eq_true rfl) dX5_on_5 rfl ?_
  cases r1 with
  | none =>
    have h := oc_none h
    refine J_st (st' := [.null]) rfl ?_
    refine J_astore_nN (q := 9) C dX5_on_8 rfl rfl (by decide) rfl ?_
    refine J_aload_n (q := 10) C dX5_on_9 rfl rfl 1 rfl ?_
    refine J_aload_nN (q := 11) C dX5_on_10 rfl rfl 0 rfl ?_
    obtain ⟨r2, σ2, ec2, h⟩ := bnd2_of h
    refine J_callIV (q := 14) (As := [.null]) C (c_X5_refused hap noneI ec2) ok_X5_refused kM_X5_91 (by decide) rfl rfl rfl rfl rfl rfl ⟨Nat.le_of_ble_eq_true rfl, Nat.le_of_ble_eq_true rfl⟩ (Nat.le_of_ble_eq_true rfl) dX5_on_11 rfl ?_
    refine J_istore_n (q := 15) C dX5_on_14 rfl rfl (by decide) rfl ?_
    refine J_aload_nN (q := 16) C dX5_on_15 rfl rfl 1 rfl ?_
    refine J_ifnullN (tgt := 23) C dX5_on_16 (by decide) ?_
    refine J_iload_n (q := 24) C dX5_on_23 rfl rfl 0 rfl ?_
    obtain ⟨rfl, rfl⟩ := Prod.mk.inj (Option.some.inj h)
    exact J_iret C dX5_on_24
  | some g1 =>
    have h := oc_some h
    have ho1 := X5_pick_isI isRA_73 ec1
    refine J_st (st' := [.ref (ad g1)]) rfl ?_
    refine J_astore_n (q := 9) C dX5_on_8 rfl rfl (by decide) rfl ?_
    refine J_aload_n (q := 10) C dX5_on_9 rfl rfl 1 rfl ?_
    refine J_aload_n (q := 11) C dX5_on_10 rfl rfl 0 rfl ?_
    obtain ⟨r3, σ3, ec3, h⟩ := bnd2_of h
    refine J_callIV (q := 14) (As := [.ref (ad g1)]) C (c_X5_refused hap (someI ho1) ec3) ok_X5_refused kM_X5_91 (by decide) rfl rfl rfl rfl rfl rfl ⟨Nat.le_of_ble_eq_true rfl, Nat.le_of_ble_eq_true rfl⟩ (Nat.le_of_ble_eq_true rfl) dX5_on_11 rfl ?_
    refine J_istore_n (q := 15) C dX5_on_14 rfl rfl (by decide) rfl ?_
    refine J_aload_n (q := 16) C dX5_on_15 rfl rfl 1 rfl ?_
    refine J_ifnull (q := 19) C dX5_on_16 rfl ?_
    refine J_iload_n (q := 20) C dX5_on_19 rfl rfl 0 rfl ?_
    refine J_if_eq (tgt := 25) (q := 23) C dX5_on_20 rfl (by decide) h (fun _ h => ?_) (fun _ h => ?_)
    · refine J_aload_n (q := 26) C dX5_on_25 rfl rfl 2 rfl ?_
      refine JC_g_X5_street (q := 29) C kF_X5_49 dX5_on_26 rfl (fun hs4 => ?_)
      refine JC_g_X4_deeds (q := 32) C hs4 kF_X5_125 dX5_on_29 rfl ?_
      refine J_aload_n (q := 33) C dX5_on_32 rfl rfl 1 rfl ?_
      obtain ⟨σ5, ec5, h⟩ := bnd_of h
      refine J_callXV (q := 36) (As := [.ref (ad g1)]) C (c_X0_takeFrom hap (isI_st hs4 6 (by decide)) ho1 ec5) ok_X0_takeFrom kM_X5_200 (lt74I (isI_st hs4 6 (by decide))) (celC_I (isI_st hs4 6 (by decide))) rfl rfl rfl rfl rfl ⟨Nat.le_of_ble_eq_true rfl, Nat.le_of_ble_eq_true rfl⟩ (Nat.le_of_ble_eq_true rfl) dX5_on_33 rfl ?_
      refine J_aload_n (q := 37) C dX5_on_36 rfl rfl 2 rfl ?_
      refine JC_g_X5_street (q := 40) C kF_X5_49 dX5_on_37 rfl (fun hs6 => ?_)
      obtain ⟨σ7, ec7, h⟩ := bnd_of h
      refine J_callXV (q := 43) (As := []) C (c_X4_replay hap hs6 ec7) ok_X4_replay kM_X5_128 (lt74S hs6) (celC_S hs6) rfl rfl rfl rfl rfl ⟨Nat.le_of_ble_eq_true rfl, Nat.le_of_ble_eq_true rfl⟩ (Nat.le_of_ble_eq_true rfl) dX5_on_40 rfl ?_
      refine J_aload_n (q := 44) C dX5_on_43 rfl rfl 2 rfl ?_
      refine JC_g_X5_street (q := 47) C kF_X5_49 dX5_on_44 rfl (fun hs8 => ?_)
      refine JC_g_X4_deeds (q := 50) C hs8 kF_X5_125 dX5_on_47 rfl ?_
      refine JC_g_X0_size (q := 53) C (isI_st hs8 6 (by decide)) kF_X5_85 dX5_on_50 rfl ?_
      obtain ⟨rfl, rfl⟩ := Prod.mk.inj (Option.some.inj h)
      exact J_iret C dX5_on_53
    · refine J_iload_n (q := 24) C dX5_on_23 rfl rfl 0 rfl ?_
      obtain ⟨rfl, rfl⟩ := Prod.mk.inj (Option.some.inj h)
      exact J_iret C dX5_on_24
set_option maxHeartbeats 4000000 in
set_option maxRecDepth 100000 in
theorem c_X5_takes {l : Launch} {D : va_G} {cI cR : ClassId} {ad : Nat → Nat} (hap : apN 74 ad) {i1 : Int32} {i2 : Int32} {σ : Sg} {r : Int32}  (h : f_X5_takes i1 i2 σ = some r) : MI l D (tysC cI cR) 74 ad (celC cI cR ad) okC yX5_takes cX5_takes 3 .int 3 76 [.ref (ad 0), .int i1, .int i2] σ r σ := by
  unfold f_X5_takes at h
  refine entI "WokenYears" hap (by decide +kernel) rfl (Nat.le_of_ble_eq_true rfl) (fun p e s m args below meth c C => ?_)
  refine J_sub (lv' := [(0, .ref (ad 0)), (1, .int i1), (2, .int i2)]) [0, 1, 2] rfl ?_
  refine J_aload_n (q := 1) C dX5_takes_0 rfl rfl 0 rfl ?_
  refine JC_g_X5_street (q := 4) C kF_X5_49 dX5_takes_1 rfl (fun hs1 => ?_)
  refine J_iload_n (q := 5) C dX5_takes_4 rfl rfl 1 rfl ?_
  obtain ⟨r2, ec2, h⟩ := bnd_of h
  refine J_callIV (q := 8) (As := [.int i1]) C (c_X4_isHouse hap hs1 ec2) ok_X4_isHouse kM_X5_132 (lt74S hs1) (celC_S hs1) rfl rfl rfl rfl rfl ⟨Nat.le_of_ble_eq_true rfl, Nat.le_of_ble_eq_true rfl⟩ (Nat.le_of_ble_eq_true rfl) dX5_takes_5 rfl ?_
  refine J_ifeq_b (tgt := 18) (q := 11) C dX5_takes_8 rfl (by decide) h (fun _ h => ?_) (fun _ h => ?_)
  · refine J_iload_n (q := 12) C dX5_takes_11 rfl rfl 2 rfl ?_
    obtain ⟨r3, ec3, h⟩ := bnd_of h
    refine J_callIS (q := 15) (As := [.int i2]) C (c_X5_isDate hap  ec3) ok_X5_isDate kM_X5_185 rfl rfl rfl ⟨Nat.le_of_ble_eq_true rfl, Nat.le_of_ble_eq_true rfl⟩ (Nat.le_of_ble_eq_true rfl) dX5_takes_12 rfl ?_
    refine J_ifne_b (tgt := 20) (q := 18) C dX5_takes_15 rfl (by decide) h (fun _ h => ?_) (fun _ h => ?_)
    · refine J_aload_n (q := 21) C dX5_takes_20 rfl rfl 0 rfl ?_
      refine JC_g_X5_street (q := 24) C kF_X5_49 dX5_takes_21 rfl (fun hs4 => ?_)
      refine J_iload_n (q := 25) C dX5_takes_24 rfl rfl 1 rfl ?_
      refine J_iload_n (q := 26) C dX5_takes_25 rfl rfl 2 rfl ?_
      obtain ⟨r5, ec5, h⟩ := bnd_of h
      refine J_callIV (q := 29) (As := [.int i1, .int i2]) C (c_X4_tapsFor hap hs4 ec5) ok_X4_tapsFor kM_X5_149 (lt74S hs4) (celC_S hs4) rfl rfl rfl rfl rfl ⟨Nat.le_of_ble_eq_true rfl, Nat.le_of_ble_eq_true rfl⟩ (Nat.le_of_ble_eq_true rfl) dX5_takes_26 rfl ?_
      obtain rfl := Option.some.inj h
      exact J_iret C dX5_takes_29
    · refine J_iconst (v := -1 ) (q := 19) C dX5_takes_18 rfl rfl ?_
      obtain rfl := Option.some.inj h
      exact J_iret C dX5_takes_19
  · refine J_iconst (v := -1 ) (q := 19) C dX5_takes_18 rfl rfl ?_
    obtain rfl := Option.some.inj h
    exact J_iret C dX5_takes_19
set_option maxHeartbeats 4000000 in
set_option maxRecDepth 100000 in
theorem c_X5_pays {l : Launch} {D : va_G} {cI cR : ClassId} {ad : Nat → Nat} (hap : apN 74 ad) {i1 : Int32} {σ : Sg} {r : Int32}  (h : f_X5_pays i1 σ = some r) : MI l D (tysC cI cR) 74 ad (celC cI cR ad) okC yX5_pays cX5_pays 2 .int 3 72 [.ref (ad 0), .int i1] σ r σ := by
  unfold f_X5_pays at h
  refine entI "WokenYears" hap (by decide +kernel) rfl (Nat.le_of_ble_eq_true rfl) (fun p e s m args below meth c C => ?_)
  refine J_sub (lv' := [(0, .ref (ad 0)), (1, .int i1)]) [0, 1] rfl ?_
  refine J_aload_n (q := 1) C dX5_pays_0 rfl rfl 0 rfl ?_
  refine JC_g_X5_street (q := 4) C kF_X5_49 dX5_pays_1 rfl (fun hs1 => ?_)
  refine J_iload_n (q := 5) C dX5_pays_4 rfl rfl 1 rfl ?_
  obtain ⟨r2, ec2, h⟩ := bnd_of h
  refine J_callIV (q := 8) (As := [.int i1]) C (c_X4_isHouse hap hs1 ec2) ok_X4_isHouse kM_X5_132 (lt74S hs1) (celC_S hs1) rfl rfl rfl rfl rfl ⟨Nat.le_of_ble_eq_true rfl, Nat.le_of_ble_eq_true rfl⟩ (Nat.le_of_ble_eq_true rfl) dX5_pays_5 rfl ?_
  refine J_ifeq_b (tgt := 22) (q := 11) C dX5_pays_8 rfl (by decide) h (fun _ h => ?_) (fun _ h => ?_)
  · refine J_aload_n (q := 12) C dX5_pays_11 rfl rfl 0 rfl ?_
    refine JC_g_X5_street (q := 15) C kF_X5_49 dX5_pays_12 rfl (fun hs3 => ?_)
    refine J_iload_n (q := 16) C dX5_pays_15 rfl rfl 1 rfl ?_
    obtain ⟨r4, ec4, h⟩ := bnd_of h
    refine J_callIV (q := 19) (As := [.int i1]) C (c_X4_fee hap hs3 ec4) ok_X4_fee kM_X5_159 (lt74S hs3) (celC_S hs3) rfl rfl rfl rfl rfl ⟨Nat.le_of_ble_eq_true rfl, Nat.le_of_ble_eq_true rfl⟩ (Nat.le_of_ble_eq_true rfl) dX5_pays_16 rfl ?_
    refine J_goto (tgt := 23) C dX5_pays_19 (by decide) ?_
    obtain rfl := Option.some.inj h
    exact J_iret C dX5_pays_23
  · refine J_iconst (v := -1 ) (q := 23) C dX5_pays_22 rfl rfl ?_
    obtain rfl := Option.some.inj h
    exact J_iret C dX5_pays_23
set_option maxHeartbeats 4000000 in
set_option maxRecDepth 100000 in
theorem cl_X5_who_24 {p : Program} {l : Launch} {e : Env} {s : State} {m : MethodId} {args : Array Value} {below : List Frame} {meth : Method} {c : Code} {D : va_G} {cI cR : ClassId} {ad : Nat → Nat} (hap : apN 74 ad) (C : Cx p s m args meth c cX5_who 5 "WokenYears" D (tysC cI cR) 74 ad (some .int)) {a1 : Int32} {a2 : Int32} {k63 : Int32 → Option Int32} {σ : Sg} (r : Int32)  (hk63 : ∀ (u3 : Int32), k63 u3 = some r → Jd p l e (rmF 3 76) s m args below meth c D 74 ad (celC cI cR ad) okC 5 (MQ below (QI D (tysC cI cR) 74 ad (celC cI cR ad) okC r σ) args s 0 0 (inA 74 ad)) 63 [(3, .int u3)] [] σ) : ∀ (n : Nat) (x3 : Int32) (x4 : Int32), l_X5_who_24 a1 a2 σ k63 n x3 x4 = some r → Jd p l e (rmF 3 76) s m args below meth c D 74 ad (celC cI cR ad) okC 5 (MQ below (QI D (tysC cI cR) 74 ad (celC cI cR ad) okC r σ) args s 0 0 (inA 74 ad)) 24 [(0, .ref (ad 0)), (1, .int a1), (2, .int a2), (3, .int x3), (4, .int x4)] [] σ := by
  intro n
  induction n with
  | zero => intro x3 x4 h; cases h
  | succ n ih =>
    intro x3 x4 h
    unfold l_X5_who_24 at h
    refine J_iload (q := 26) C dX5_who_24 rfl 4 rfl ?_
    refine J_aload_n (q := 27) C dX5_who_26 rfl rfl 0 rfl ?_
    refine JC_g_X5_street (q := 30) C kF_X5_49 dX5_who_27 rfl (fun hs3 => ?_)
    refine JC_g_X4_size (q := 33) C hs3 kF_X5_131 dX5_who_30 rfl ?_
    refine J_icmp_ge (tgt := 63) (q := 36) C dX5_who_33 rfl (by decide) h (fun _ h => ?_) (fun _ h => ?_)
    · refine J_sub [3] rfl ?_
      exact hk63 _ h
    · refine J_aload_n (q := 37) C dX5_who_36 rfl rfl 0 rfl ?_
      refine JC_g_X5_street (q := 40) C kF_X5_49 dX5_who_37 rfl (fun hs4 => ?_)
      refine J_iload (q := 42) C dX5_who_40 rfl 4 rfl ?_
      refine J_iload_n (q := 43) C dX5_who_42 rfl rfl 1 rfl ?_
      obtain ⟨r5, ec5, h⟩ := bnd_of h
      refine J_callIV (q := 46) (As := [.int x4, .int a1]) C (c_X4_tapsFor hap hs4 ec5) ok_X4_tapsFor kM_X5_149 (lt74S hs4) (celC_S hs4) rfl rfl rfl rfl rfl ⟨Nat.le_of_ble_eq_true rfl, Nat.le_of_ble_eq_true rfl⟩ (Nat.le_of_ble_eq_true rfl) dX5_who_43 rfl ?_
      refine J_iload_n (q := 47) C dX5_who_46 rfl rfl 2 rfl ?_
      refine jn_elim h (fun k57 ek57 h => ?_)
      have hk57 : ∀ (u3_57 : Int32), k57 u3_57 = some r → Jd p l e (rmF 3 76) s m args below meth c D 74 ad (celC cI cR ad) okC 5 (MQ below (QI D (tysC cI cR) 74 ad (celC cI cR ad) okC r σ) args s 0 0 (inA 74 ad)) 57 [(0, .ref (ad 0)), (1, .int a1), (2, .int a2), (3, .int u3_57), (4, .int x4)] [] σ := by
        intro u3_57 h
        rw [ek57] at h
        refine jn_elim h (fun y6 ey6 h => ?_)
        refine J_iinc (v := y6) (q := 60) C dX5_who_57 rfl 4 rfl (by rw [ey6]; rfl) (by decide) rfl ?_
        refine J_goto (tgt := 24) C dX5_who_60 (by decide) ?_
        refine J_sub [1, 2, 3, 4, 0] rfl ?_
        exact ih _ _ h
      refine J_icmp_ne (tgt := 57) (q := 50) C dX5_who_47 rfl (by decide) h (fun _ h => ?_) (fun _ h => ?_)
      · refine J_iload_n (q := 51) C dX5_who_50 rfl rfl 3 rfl ?_
        refine J_iconst (v := 1 ) (q := 52) C dX5_who_51 rfl rfl ?_
        refine J_iload (q := 54) C dX5_who_52 rfl 4 rfl ?_
        refine J_ishl (q := 55) C dX5_who_54 rfl ?_
        refine J_ior (q := 56) C dX5_who_55 rfl ?_
        refine J_nmi h (fun y7 ey7 h => ?_)
        refine J_istore_n (q := 57) C dX5_who_56 rfl rfl (by decide) rfl ?_
        refine J_sub [1, 2, 3, 0, 4] rfl ?_
        exact hk57 _ h
      · exact hk57 _ h
set_option maxHeartbeats 4000000 in
set_option maxRecDepth 100000 in
theorem c_X5_who {l : Launch} {D : va_G} {cI cR : ClassId} {ad : Nat → Nat} (hap : apN 74 ad) {i1 : Int32} {i2 : Int32} {σ : Sg} {r : Int32}  (h : f_X5_who i1 i2 σ = some r) : MI l D (tysC cI cR) 74 ad (celC cI cR ad) okC yX5_who cX5_who 5 .int 3 76 [.ref (ad 0), .int i1, .int i2] σ r σ := by
  unfold f_X5_who at h
  refine entI "WokenYears" hap (by decide +kernel) rfl (Nat.le_of_ble_eq_true rfl) (fun p e s m args below meth c C => ?_)
  refine J_sub (lv' := [(0, .ref (ad 0)), (1, .int i1), (2, .int i2)]) [0, 1, 2] rfl ?_
  refine J_iload_n (q := 1) C dX5_who_0 rfl rfl 1 rfl ?_
  obtain ⟨r1, ec1, h⟩ := bnd_of h
  refine J_callIS (q := 4) (As := [.int i1]) C (c_X5_isDate hap  ec1) ok_X5_isDate kM_X5_185 rfl rfl rfl ⟨Nat.le_of_ble_eq_true rfl, Nat.le_of_ble_eq_true rfl⟩ (Nat.le_of_ble_eq_true rfl) dX5_who_1 rfl ?_
  refine J_ifeq_b (tgt := 17) (q := 7) C dX5_who_4 rfl (by decide) h (fun _ h => ?_) (fun _ h => ?_)
  · refine J_iload_n (q := 8) C dX5_who_7 rfl rfl 2 rfl ?_
    refine J_iconst (v := 1 ) (q := 9) C dX5_who_8 rfl rfl ?_
    refine J_bipush (v := 9) (q := 11) C dX5_who_9 rfl rfl ?_
    obtain ⟨r2, ec2, h⟩ := bnd_of h
    refine J_callIS (q := 14) (As := [.int i2, .int (1 : Int32), .int (9 : Int32)]) C (c_X5_within hap  ec2) ok_X5_within kM_X5_75 rfl rfl rfl ⟨Nat.le_of_ble_eq_true rfl, Nat.le_of_ble_eq_true rfl⟩ (Nat.le_of_ble_eq_true rfl) dX5_who_11 rfl ?_
    refine J_ifne_b (tgt := 19) (q := 17) C dX5_who_14 rfl (by decide) h (fun _ h => ?_) (fun _ h => ?_)
    · refine J_iconst (v := 0 ) (q := 20) C dX5_who_19 rfl rfl ?_
      refine J_istore_n (q := 21) C dX5_who_20 rfl rfl (by decide) rfl ?_
      refine J_iconst (v := 0 ) (q := 22) C dX5_who_21 rfl rfl ?_
      refine J_istore (q := 24) C dX5_who_22 rfl (by decide) rfl ?_
      refine J_sub [2, 3, 4, 1, 0] rfl ?_
      refine cl_X5_who_24 hap C r  (fun v3_63 h => ?_) FU _ _ h
      · refine J_iload_n (q := 64) C dX5_who_63 rfl rfl 0 rfl ?_
        obtain rfl := Option.some.inj h
        exact J_iret C dX5_who_64
    · refine J_iconst (v := -1 ) (q := 18) C dX5_who_17 rfl rfl ?_
      obtain rfl := Option.some.inj h
      exact J_iret C dX5_who_18
  · refine J_iconst (v := -1 ) (q := 18) C dX5_who_17 rfl rfl ?_
    obtain rfl := Option.some.inj h
    exact J_iret C dX5_who_18
set_option maxHeartbeats 4000000 in
set_option maxRecDepth 100000 in
theorem c_X5_quarrels {l : Launch} {D : va_G} {cI cR : ClassId} {ad : Nat → Nat} (hap : apN 74 ad)  {σ : Sg} {r : Int32}  (h : f_X5_quarrels σ = some r) : MI l D (tysC cI cR) 74 ad (celC cI cR ad) okC yX5_quarrels cX5_quarrels 1 .int 4 95 [.ref (ad 0)] σ r σ := by
  unfold f_X5_quarrels at h
  refine entI "WokenYears" hap (by decide +kernel) rfl (Nat.le_of_ble_eq_true rfl) (fun p e s m args below meth c C => ?_)
  refine J_sub (lv' := [(0, .ref (ad 0))]) [0] rfl ?_
  refine J_aload_n (q := 1) C dX5_quarrels_0 rfl rfl 0 rfl ?_
  refine JC_g_X5_street (q := 4) C kF_X5_49 dX5_quarrels_1 rfl (fun hs1 => ?_)
  refine JC_g_X4_size (q := 7) C hs1 kF_X5_131 dX5_quarrels_4 rfl ?_
  refine J_if_ne (tgt := 15) (q := 10) C dX5_quarrels_7 rfl (by decide) h (fun _ h => ?_) (fun _ h => ?_)
  · refine J_bipush (v := -4) (q := 12) C dX5_quarrels_10 rfl rfl ?_
    refine J_goto (tgt := 22) C dX5_quarrels_12 (by decide) ?_
    obtain rfl := Option.some.inj h
    exact J_iret C dX5_quarrels_22
  · refine J_aload_n (q := 16) C dX5_quarrels_15 rfl rfl 0 rfl ?_
    refine JC_g_X5_street (q := 19) C kF_X5_49 dX5_quarrels_16 rfl (fun hs2 => ?_)
    obtain ⟨r3, ec3, h⟩ := bnd_of h
    refine J_callIV (q := 22) (As := []) C (c_X4_quarrelling hap hs2 ec3) ok_X4_quarrelling kM_X5_204 (lt74S hs2) (celC_S hs2) rfl rfl rfl rfl rfl ⟨Nat.le_of_ble_eq_true rfl, Nat.le_of_ble_eq_true rfl⟩ (Nat.le_of_ble_eq_true rfl) dX5_quarrels_19 rfl ?_
    obtain rfl := Option.some.inj h
    exact J_iret C dX5_quarrels_22
set_option maxHeartbeats 4000000 in
set_option maxRecDepth 100000 in
theorem c_X5_soonest {l : Launch} {D : va_G} {cI cR : ClassId} {ad : Nat → Nat} (hap : apN 74 ad) {i1 : Int32} {σ : Sg} {r : Int32}  (h : f_X5_soonest i1 σ = some r) : MI l D (tysC cI cR) 74 ad (celC cI cR ad) okC yX5_soonest cX5_soonest 2 .int 5 121 [.ref (ad 0), .int i1] σ r σ := by
  unfold f_X5_soonest at h
  refine entI "WokenYears" hap (by decide +kernel) rfl (Nat.le_of_ble_eq_true rfl) (fun p e s m args below meth c C => ?_)
  refine J_sub (lv' := [(0, .ref (ad 0)), (1, .int i1)]) [0, 1] rfl ?_
  refine J_aload_n (q := 1) C dX5_soonest_0 rfl rfl 0 rfl ?_
  refine JC_g_X5_street (q := 4) C kF_X5_49 dX5_soonest_1 rfl (fun hs1 => ?_)
  refine J_iload_n (q := 5) C dX5_soonest_4 rfl rfl 1 rfl ?_
  obtain ⟨r2, ec2, h⟩ := bnd_of h
  refine J_callIV (q := 8) (As := [.int i1]) C (c_X4_isSet hap hs1 ec2) ok_X4_isSet kM_X5_207 (lt74S hs1) (celC_S hs1) rfl rfl rfl rfl rfl ⟨Nat.le_of_ble_eq_true rfl, Nat.le_of_ble_eq_true rfl⟩ (Nat.le_of_ble_eq_true rfl) dX5_soonest_5 rfl ?_
  refine J_ifne_b (tgt := 13) (q := 11) C dX5_soonest_8 rfl (by decide) h (fun _ h => ?_) (fun _ h => ?_)
  · refine J_aload_n (q := 14) C dX5_soonest_13 rfl rfl 0 rfl ?_
    refine JC_g_X5_street (q := 17) C kF_X5_49 dX5_soonest_14 rfl (fun hs3 => ?_)
    refine J_iload_n (q := 18) C dX5_soonest_17 rfl rfl 1 rfl ?_
    obtain ⟨r4, ec4, h⟩ := bnd_of h
    refine J_callIV (q := 21) (As := [.int i1]) C (c_X4_canWake hap hs3 ec4) ok_X4_canWake kM_X5_210 (lt74S hs3) (celC_S hs3) rfl rfl rfl rfl rfl ⟨Nat.le_of_ble_eq_true rfl, Nat.le_of_ble_eq_true rfl⟩ (Nat.le_of_ble_eq_true rfl) dX5_soonest_18 rfl ?_
    refine J_ifne_b (tgt := 27) (q := 24) C dX5_soonest_21 rfl (by decide) h (fun _ h => ?_) (fun _ h => ?_)
    · refine J_aload_n (q := 28) C dX5_soonest_27 rfl rfl 0 rfl ?_
      refine JC_g_X5_street (q := 31) C kF_X5_49 dX5_soonest_28 rfl (fun hs5 => ?_)
      refine J_iload_n (q := 32) C dX5_soonest_31 rfl rfl 1 rfl ?_
      obtain ⟨r6, ec6, h⟩ := bnd_of h
      refine J_callIV (q := 35) (As := [.int i1]) C (c_X4_tapsLeft hap hs5 ec6) ok_X4_tapsLeft kM_X5_213 (lt74S hs5) (celC_S hs5) rfl rfl rfl rfl rfl ⟨Nat.le_of_ble_eq_true rfl, Nat.le_of_ble_eq_true rfl⟩ (Nat.le_of_ble_eq_true rfl) dX5_soonest_32 rfl ?_
      refine J_iload_n (q := 36) C dX5_soonest_35 rfl rfl 1 rfl ?_
      refine J_aload_n (q := 37) C dX5_soonest_36 rfl rfl 0 rfl ?_
      refine JC_g_X5_street (q := 40) C kF_X5_49 dX5_soonest_37 rfl (fun hs7 => ?_)
      refine JC_g_X4_place (q := 43) C hs7 kF_X5_169 dX5_soonest_40 rfl ?_
      obtain ⟨r8, ec8, h⟩ := bnd_of h
      refine J_callIS (q := 46) (As := [.int i1, .int (gS σ (16 * (gR σ 0) + 13))]) C (c_X3_walkOver hap  ec8) ok_X3_walkOver kM_X5_216 rfl rfl rfl ⟨Nat.le_of_ble_eq_true rfl, Nat.le_of_ble_eq_true rfl⟩ (Nat.le_of_ble_eq_true rfl) dX5_soonest_43 rfl ?_
      refine J_iadd (q := 47) C dX5_soonest_46 rfl ?_
      obtain rfl := Option.some.inj h
      exact J_iret C dX5_soonest_47
    · refine J_bipush (v := -4) (q := 26) C dX5_soonest_24 rfl rfl ?_
      obtain rfl := Option.some.inj h
      exact J_iret C dX5_soonest_26
  · refine J_iconst (v := -1 ) (q := 12) C dX5_soonest_11 rfl rfl ?_
    obtain rfl := Option.some.inj h
    exact J_iret C dX5_soonest_12
set_option maxHeartbeats 4000000 in
set_option maxRecDepth 100000 in
theorem c_X5_intime {l : Launch} {D : va_G} {cI cR : ClassId} {ad : Nat → Nat} (hap : apN 74 ad) {i1 : Int32} {i2 : Int32} {σ : Sg} {r : Int32} {σo : Sg}  (h : f_X5_intime i1 i2 σ = some (r, σo)) : MI l D (tysC cI cR) 74 ad (celC cI cR ad) okC yX5_intime cX5_intime 5 .int 21 724 [.ref (ad 0), .int i1, .int i2] σ r σo := by
  unfold f_X5_intime at h
  refine entI "WokenYears" hap (by decide +kernel) rfl (Nat.le_of_ble_eq_true rfl) (fun p e s m args below meth c C => ?_)
  refine J_sub (lv' := [(0, .ref (ad 0)), (1, .int i1), (2, .int i2)]) [0, 1, 2] rfl ?_
  refine J_aload_n (q := 1) C dX5_intime_0 rfl rfl 0 rfl ?_
  refine JC_g_X5_rows (q := 4) C kF_X5_13 dX5_intime_1 rfl ?_
  refine J_iload_n (q := 5) C dX5_intime_4 rfl rfl 2 rfl ?_
  obtain ⟨r1, ec1, h⟩ := bnd_of h
  refine J_callRS (q := 8) (As := [.ref (ad 71), .int i2]) C (c_X5_pick hap isRA_71 ec1) ok_X5_pick kM_X5_99 rfl rfl rfl ⟨Nat.le_of_ble_eq_true rfl, Nat.le_of_ble_eq_true rfl⟩ (Nat.le_of_ble_eq_true rfl) dX5_intime_5 rfl ?_
  cases r1 with
  | none =>
    have h := oc_none h
    refine J_st (st' := [.null]) rfl ?_
    refine J_astore_nN (q := 9) C dX5_intime_8 rfl rfl (by decide) rfl ?_
    refine J_aload_nN (q := 10) C dX5_intime_9 rfl rfl 0 rfl ?_
    refine J_ifnullN (tgt := 24) C dX5_intime_10 (by decide) ?_
    refine J_iconst (v := -1 ) (q := 25) C dX5_intime_24 rfl rfl ?_
    obtain ⟨rfl, rfl⟩ := Prod.mk.inj (Option.some.inj h)
    exact J_iret C dX5_intime_25
  | some g1 =>
    have h := oc_some h
    have ho1 := X5_pick_isI isRA_71 ec1
    refine J_st (st' := [.ref (ad g1)]) rfl ?_
    refine J_astore_n (q := 9) C dX5_intime_8 rfl rfl (by decide) rfl ?_
    refine J_aload_n (q := 10) C dX5_intime_9 rfl rfl 0 rfl ?_
    refine J_ifnull (q := 13) C dX5_intime_10 rfl ?_
    refine J_aload_n (q := 14) C dX5_intime_13 rfl rfl 1 rfl ?_
    refine JC_g_X5_street (q := 17) C kF_X5_49 dX5_intime_14 rfl (fun hs2 => ?_)
    refine J_iload_n (q := 18) C dX5_intime_17 rfl rfl 2 rfl ?_
    obtain ⟨r3, ec3, h⟩ := bnd_of h
    refine J_callIV (q := 21) (As := [.int i1]) C (c_X4_isSet hap hs2 ec3) ok_X4_isSet kM_X5_207 (lt74S hs2) (celC_S hs2) rfl rfl rfl rfl rfl ⟨Nat.le_of_ble_eq_true rfl, Nat.le_of_ble_eq_true rfl⟩ (Nat.le_of_ble_eq_true rfl) dX5_intime_18 rfl ?_
    refine J_ifne_b (tgt := 26) (q := 24) C dX5_intime_21 rfl (by decide) h (fun _ h => ?_) (fun _ h => ?_)
    · refine J_aload_n (q := 27) C dX5_intime_26 rfl rfl 1 rfl ?_
      refine JC_g_X5_street (q := 30) C kF_X5_49 dX5_intime_27 rfl (fun hs4 => ?_)
      refine J_iload_n (q := 31) C dX5_intime_30 rfl rfl 2 rfl ?_
      obtain ⟨r5, ec5, h⟩ := bnd_of h
      refine J_callIV (q := 34) (As := [.int i1]) C (c_X4_canWake hap hs4 ec5) ok_X4_canWake kM_X5_210 (lt74S hs4) (celC_S hs4) rfl rfl rfl rfl rfl ⟨Nat.le_of_ble_eq_true rfl, Nat.le_of_ble_eq_true rfl⟩ (Nat.le_of_ble_eq_true rfl) dX5_intime_31 rfl ?_
      refine J_ifne_b (tgt := 40) (q := 37) C dX5_intime_34 rfl (by decide) h (fun _ h => ?_) (fun _ h => ?_)
      · refine J_aload_n (q := 41) C dX5_intime_40 rfl rfl 1 rfl ?_
        refine JC_g_X5_rounds (q := 44) C kF_X5_33 dX5_intime_41 rfl ?_
        refine J_aload_n (q := 45) C dX5_intime_44 rfl rfl 1 rfl ?_
        refine JC_g_X5_street (q := 48) C kF_X5_49 dX5_intime_45 rfl (fun hs6 => ?_)
        refine J_iload_n (q := 49) C dX5_intime_48 rfl rfl 2 rfl ?_
        obtain ⟨r7, σ7, ec7, h⟩ := bnd2_of h
        refine J_callIV (q := 52) (As := [.ref (ad (gR σ 0)), .int i1]) C (c_X3_fewest hap hs6 ec7) ok_X3_fewest kM_X5_219 (by decide) rfl rfl rfl rfl rfl rfl ⟨Nat.le_of_ble_eq_true rfl, Nat.le_of_ble_eq_true rfl⟩ (Nat.le_of_ble_eq_true rfl) dX5_intime_49 rfl ?_
        refine J_istore (q := 54) C dX5_intime_52 rfl (by decide) rfl ?_
        refine J_iload (q := 56) C dX5_intime_54 rfl 0 rfl ?_
        refine J_bipush (v := -9) (q := 58) C dX5_intime_56 rfl rfl ?_
        refine J_icmp_eq (tgt := 72) (q := 61) C dX5_intime_58 rfl (by decide) h (fun _ h => ?_) (fun _ h => ?_)
        · refine J_iload (q := 74) C dX5_intime_72 rfl 0 rfl ?_
          obtain ⟨rfl, rfl⟩ := Prod.mk.inj (Option.some.inj h)
          exact J_iret C dX5_intime_74
        · refine J_aload_n (q := 62) C dX5_intime_61 rfl rfl 1 rfl ?_
          refine J_aload_n (q := 63) C dX5_intime_62 rfl rfl 2 rfl ?_
          refine JC_g_X5_rounds (q := 66) C kF_X5_33 dX5_intime_63 rfl ?_
          refine JC_g_X3_best (q := 69) C kF_X5_223 dX5_intime_66 rfl ?_
          obtain ⟨σ8, ec8, h⟩ := bnd_of h
          refine J_callXV (q := 72) (As := [.ref (ad 37)]) C (c_X0_takeFrom hap ho1 isI_37 ec8) ok_X0_takeFrom kM_X5_200 (lt74I ho1) (celC_I ho1) rfl rfl rfl rfl rfl ⟨Nat.le_of_ble_eq_true rfl, Nat.le_of_ble_eq_true rfl⟩ (Nat.le_of_ble_eq_true rfl) dX5_intime_69 rfl ?_
          refine J_iload (q := 74) C dX5_intime_72 rfl 0 rfl ?_
          obtain ⟨rfl, rfl⟩ := Prod.mk.inj (Option.some.inj h)
          exact J_iret C dX5_intime_74
      · refine J_bipush (v := -4) (q := 39) C dX5_intime_37 rfl rfl ?_
        obtain ⟨rfl, rfl⟩ := Prod.mk.inj (Option.some.inj h)
        exact J_iret C dX5_intime_39
    · refine J_iconst (v := -1 ) (q := 25) C dX5_intime_24 rfl rfl ?_
      obtain ⟨rfl, rfl⟩ := Prod.mk.inj (Option.some.inj h)
      exact J_iret C dX5_intime_25
set_option maxHeartbeats 4000000 in
set_option maxRecDepth 100000 in
theorem c_X5_many {l : Launch} {D : va_G} {cI cR : ClassId} {ad : Nat → Nat} (hap : apN 74 ad)  {σ : Sg} {r : Int32} {σo : Sg}  (h : f_X5_many σ = some (r, σo)) : MI l D (tysC cI cR) 74 ad (celC cI cR ad) okC yX5_many cX5_many 1 .int 6 146 [.ref (ad 0)] σ r σo := by
  unfold f_X5_many at h
  refine entI "WokenYears" hap (by decide +kernel) rfl (Nat.le_of_ble_eq_true rfl) (fun p e s m args below meth c C => ?_)
  refine J_sub (lv' := [(0, .ref (ad 0))]) [0] rfl ?_
  refine J_aload_n (q := 1) C dX5_many_0 rfl rfl 0 rfl ?_
  refine JC_g_X5_street (q := 4) C kF_X5_49 dX5_many_1 rfl (fun hs1 => ?_)
  refine JC_g_X4_size (q := 7) C hs1 kF_X5_131 dX5_many_4 rfl ?_
  refine J_if_ne (tgt := 13) (q := 10) C dX5_many_7 rfl (by decide) h (fun _ h => ?_) (fun _ h => ?_)
  · refine J_bipush (v := -4) (q := 12) C dX5_many_10 rfl rfl ?_
    obtain ⟨rfl, rfl⟩ := Prod.mk.inj (Option.some.inj h)
    exact J_iret C dX5_many_12
  · refine J_aload_n (q := 14) C dX5_many_13 rfl rfl 0 rfl ?_
    refine J_aload_n (q := 15) C dX5_many_14 rfl rfl 0 rfl ?_
    refine JC_g_X5_rounds (q := 18) C kF_X5_33 dX5_many_15 rfl ?_
    refine J_aload_n (q := 19) C dX5_many_18 rfl rfl 0 rfl ?_
    refine JC_g_X5_street (q := 22) C kF_X5_49 dX5_many_19 rfl (fun hs2 => ?_)
    obtain ⟨r3, σ3, ec3, h⟩ := bnd2_of h
    refine J_callIV (q := 25) (As := [.ref (ad (gR σ 0))]) C (c_X3_greatest hap hs2 ec3) ok_X3_greatest kM_X5_226 (by decide) rfl rfl rfl rfl rfl rfl ⟨Nat.le_of_ble_eq_true rfl, Nat.le_of_ble_eq_true rfl⟩ (Nat.le_of_ble_eq_true rfl) dX5_many_22 rfl ?_
    refine JC_p_X5_asked (q := 28) C kF_X5_107 dX5_many_25 rfl ?_
    refine jn_elim h (fun σ4 eσ4 h => ?_)
    rw [← eσ4]
    refine J_aload_n (q := 29) C dX5_many_28 rfl rfl 0 rfl ?_
    refine JC_g_X5_asked (q := 32) C kF_X5_107 dX5_many_29 rfl ?_
    obtain ⟨r5, ec5, h⟩ := bnd_of h
    refine J_callIS (q := 35) (As := [.int (gS σ4 9)]) C (c_J6_bitCount_0f7a4 hap  ec5) ok_J6_bitCount_0f7a4 kM_X5_192 rfl rfl rfl ⟨Nat.le_of_ble_eq_true rfl, Nat.le_of_ble_eq_true rfl⟩ (Nat.le_of_ble_eq_true rfl) dX5_many_32 rfl ?_
    obtain ⟨rfl, rfl⟩ := Prod.mk.inj (Option.some.inj h)
    exact J_iret C dX5_many_35
set_option maxHeartbeats 4000000 in
set_option maxRecDepth 100000 in
theorem cl_X5_dates_80 {p : Program} {l : Launch} {e : Env} {s : State} {m : MethodId} {args : Array Value} {below : List Frame} {meth : Method} {c : Code} {D : va_G} {cI cR : ClassId} {ad : Nat → Nat} (hap : apN 74 ad) (C : Cx p s m args meth c cX5_dates 9 "WokenYears" D (tysC cI cR) 74 ad (some .int)) {b2 : Nat} {a3 : Int32} {a4 : Int32} {a5 : Int32} (hb2 : isI b2) {k128 : Sg → Option (Int32 × Sg)} (r : Int32) (σo : Sg)  (hk128 : ∀ (σ1 : Sg), k128 σ1 = some (r, σo) → Jd p l e (rmF 3 76) s m args below meth c D 74 ad (celC cI cR ad) okC 9 (MQ below (QI D (tysC cI cR) 74 ad (celC cI cR ad) okC r σo) args s 0 0 (inA 74 ad)) 128 [(0, .ref (ad 0)), (3, .int a3), (4, .int a4)] [] σ1) : ∀ (n : Nat) (x6 : Int32) (x7 : Int32) (σx : Sg), l_X5_dates_80 b2 a3 a4 a5 k128 n x6 x7 σx = some (r, σo) → Jd p l e (rmF 3 76) s m args below meth c D 74 ad (celC cI cR ad) okC 9 (MQ below (QI D (tysC cI cR) 74 ad (celC cI cR ad) okC r σo) args s 0 0 (inA 74 ad)) 80 [(0, .ref (ad 0)), (2, .ref (ad b2)), (3, .int a3), (4, .int a4), (5, .int a5), (6, .int x6), (7, .int x7)] [] σx := by
  intro n
  induction n with
  | zero => intro x6 x7 σx h; cases h
  | succ n ih =>
    intro x6 x7 σx h
    unfold l_X5_dates_80 at h
    refine J_iload (q := 82) C dX5_dates_80 rfl 6 rfl ?_
    refine J_aload_n (q := 83) C dX5_dates_82 rfl rfl 0 rfl ?_
    refine JC_g_X5_street (q := 86) C kF_X5_49 dX5_dates_83 rfl (fun hs9 => ?_)
    refine JC_g_X4_size (q := 89) C hs9 kF_X5_131 dX5_dates_86 rfl ?_
    refine J_icmp_ge (tgt := 128) (q := 92) C dX5_dates_89 rfl (by decide) h (fun _ h => ?_) (fun _ h => ?_)
    · refine J_sub [0, 2, 3] rfl ?_
      exact hk128 _ h
    · refine J_aload_n (q := 93) C dX5_dates_92 rfl rfl 0 rfl ?_
      refine JC_g_X5_street (q := 96) C kF_X5_49 dX5_dates_93 rfl (fun hs10 => ?_)
      refine J_iload (q := 98) C dX5_dates_96 rfl 5 rfl ?_
      refine J_iload (q := 100) C dX5_dates_98 rfl 4 rfl ?_
      obtain ⟨r11, ec11, h⟩ := bnd_of h
      refine J_callIV (q := 103) (As := [.int x6, .int a5]) C (c_X4_nextByDate hap hs10 ec11) ok_X4_nextByDate kM_X5_230 (lt74S hs10) (celC_S hs10) rfl rfl rfl rfl rfl ⟨Nat.le_of_ble_eq_true rfl, Nat.le_of_ble_eq_true rfl⟩ (Nat.le_of_ble_eq_true rfl) dX5_dates_100 rfl ?_
      refine J_istore (q := 105) C dX5_dates_103 rfl (by decide) rfl ?_
      refine J_aload_n (q := 106) C dX5_dates_105 rfl rfl 2 rfl ?_
      refine J_iload (q := 108) C dX5_dates_106 rfl 7 rfl ?_
      refine J_iload (q := 110) C dX5_dates_108 rfl 0 rfl ?_
      obtain ⟨σ12, ec12, h⟩ := bnd_of h
      refine J_callXV (q := 113) (As := [.int x7, .int r11]) C (c_X0_set hap hb2 ec12) ok_X0_set kM_X5_72 (lt74I hb2) (celC_I hb2) rfl rfl rfl rfl rfl ⟨Nat.le_of_ble_eq_true rfl, Nat.le_of_ble_eq_true rfl⟩ (Nat.le_of_ble_eq_true rfl) dX5_dates_110 rfl ?_
      refine J_iload (q := 115) C dX5_dates_113 rfl 6 rfl ?_
      refine J_iconst (v := 1 ) (q := 116) C dX5_dates_115 rfl rfl ?_
      refine J_iload (q := 118) C dX5_dates_116 rfl 0 rfl ?_
      refine J_ishl (q := 119) C dX5_dates_118 rfl ?_
      refine J_ior (q := 120) C dX5_dates_119 rfl ?_
      refine J_nmi h (fun y13 ey13 h => ?_)
      refine J_istore (q := 122) C dX5_dates_120 rfl (by decide) rfl ?_
      refine jn_elim h (fun y14 ey14 h => ?_)
      refine J_iinc (v := y14) (q := 125) C dX5_dates_122 rfl 7 rfl (by rw [ey14]; rfl) (by decide) rfl ?_
      refine J_goto (tgt := 80) C dX5_dates_125 (by decide) ?_
      refine J_sub [3, 4, 5, 6, 7, 1, 0] rfl ?_
      exact ih _ _ _ h
set_option maxHeartbeats 4000000 in
set_option maxRecDepth 100000 in
theorem c_X5_dates {l : Launch} {D : va_G} {cI cR : ClassId} {ad : Nat → Nat} (hap : apN 74 ad) {i1 : Int32} {σ : Sg} {r : Int32} {σo : Sg}  (h : f_X5_dates i1 σ = some (r, σo)) : MI l D (tysC cI cR) 74 ad (celC cI cR ad) okC yX5_dates cX5_dates 9 .int 3 76 [.ref (ad 0), .int i1] σ r σo := by
  unfold f_X5_dates at h
  refine entI "WokenYears" hap (by decide +kernel) rfl (Nat.le_of_ble_eq_true rfl) (fun p e s m args below meth c C => ?_)
  refine J_sub (lv' := [(0, .ref (ad 0)), (1, .int i1)]) [0, 1] rfl ?_
  refine J_aload_n (q := 1) C dX5_dates_0 rfl rfl 0 rfl ?_
  refine JC_g_X5_rows (q := 4) C kF_X5_13 dX5_dates_1 rfl ?_
  refine J_iload_n (q := 5) C dX5_dates_4 rfl rfl 1 rfl ?_
  obtain ⟨r1, ec1, h⟩ := bnd_of h
  refine J_callRS (q := 8) (As := [.ref (ad 71), .int i1]) C (c_X5_pick hap isRA_71 ec1) ok_X5_pick kM_X5_99 rfl rfl rfl ⟨Nat.le_of_ble_eq_true rfl, Nat.le_of_ble_eq_true rfl⟩ (Nat.le_of_ble_eq_true rfl) dX5_dates_5 rfl ?_
  cases r1 with
  | none =>
    have h := oc_none h
    refine J_st (st' := [.null]) rfl ?_
    refine J_astore_nN (q := 9) C dX5_dates_8 rfl rfl (by decide) rfl ?_
    refine J_aload_nN (q := 10) C dX5_dates_9 rfl rfl 0 rfl ?_
    refine J_ifnonnullN (q := 13) C dX5_dates_10 rfl ?_
    refine J_iconst (v := -1 ) (q := 14) C dX5_dates_13 rfl rfl ?_
    obtain ⟨rfl, rfl⟩ := Prod.mk.inj (Option.some.inj h)
    exact J_iret C dX5_dates_14
  | some g1 =>
    have h := oc_some h
    have ho1 := X5_pick_isI isRA_71 ec1
    refine J_st (st' := [.ref (ad g1)]) rfl ?_
    refine J_astore_n (q := 9) C dX5_dates_8 rfl rfl (by decide) rfl ?_
    refine J_aload_n (q := 10) C dX5_dates_9 rfl rfl 0 rfl ?_
    refine J_ifnonnull (tgt := 15) C dX5_dates_10 (by decide) ?_
    refine J_aload_n (q := 16) C dX5_dates_15 rfl rfl 1 rfl ?_
    refine JC_g_X5_street (q := 19) C kF_X5_49 dX5_dates_16 rfl (fun hs2 => ?_)
    refine JC_g_X4_size (q := 22) C hs2 kF_X5_131 dX5_dates_19 rfl ?_
    refine J_if_ne (tgt := 28) (q := 25) C dX5_dates_22 rfl (by decide) h (fun _ h => ?_) (fun _ h => ?_)
    · refine J_bipush (v := -4) (q := 27) C dX5_dates_25 rfl rfl ?_
      obtain ⟨rfl, rfl⟩ := Prod.mk.inj (Option.some.inj h)
      exact J_iret C dX5_dates_27
    · refine J_aload_n (q := 29) C dX5_dates_28 rfl rfl 1 rfl ?_
      refine JC_g_X5_street (q := 32) C kF_X5_49 dX5_dates_29 rfl (fun hs3 => ?_)
      refine J_iconst (v := 0 ) (q := 33) C dX5_dates_32 rfl rfl ?_
      refine J_iconst (v := 1 ) (q := 34) C dX5_dates_33 rfl rfl ?_
      obtain ⟨r4, ec4, h⟩ := bnd_of h
      refine J_callIV (q := 37) (As := [.int (0 : Int32), .int (1 : Int32)]) C (c_X4_nextByDate hap hs3 ec4) ok_X4_nextByDate kM_X5_230 (lt74S hs3) (celC_S hs3) rfl rfl rfl rfl rfl ⟨Nat.le_of_ble_eq_true rfl, Nat.le_of_ble_eq_true rfl⟩ (Nat.le_of_ble_eq_true rfl) dX5_dates_34 rfl ?_
      refine J_istore_n (q := 38) C dX5_dates_37 rfl rfl (by decide) rfl ?_
      refine J_aload_n (q := 39) C dX5_dates_38 rfl rfl 2 rfl ?_
      refine JC_g_X5_street (q := 42) C kF_X5_49 dX5_dates_39 rfl (fun hs5 => ?_)
      refine J_iconst (v := 0 ) (q := 43) C dX5_dates_42 rfl rfl ?_
      refine J_iconst (v := -1 ) (q := 44) C dX5_dates_43 rfl rfl ?_
      obtain ⟨r6, ec6, h⟩ := bnd_of h
      refine J_callIV (q := 47) (As := [.int (0 : Int32), .int (-1 : Int32)]) C (c_X4_nextByDate hap hs5 ec6) ok_X4_nextByDate kM_X5_230 (lt74S hs5) (celC_S hs5) rfl rfl rfl rfl rfl ⟨Nat.le_of_ble_eq_true rfl, Nat.le_of_ble_eq_true rfl⟩ (Nat.le_of_ble_eq_true rfl) dX5_dates_44 rfl ?_
      refine J_istore (q := 49) C dX5_dates_47 rfl (by decide) rfl ?_
      refine J_iload_n (q := 50) C dX5_dates_49 rfl rfl 1 rfl ?_
      refine J_iload (q := 52) C dX5_dates_50 rfl 0 rfl ?_
      refine jn_elim h (fun k60 ek60 h => ?_)
      have hk60 : ∀ (t0_60 : Int32), k60 t0_60 = some (r, σo) → Jd p l e (rmF 3 76) s m args below meth c D 74 ad (celC cI cR ad) okC 9 (MQ below (QI D (tysC cI cR) 74 ad (celC cI cR ad) okC r σo) args s 0 0 (inA 74 ad)) 60 [(0, .ref (ad 0)), (2, .ref (ad g1)), (3, .int r4), (4, .int r6)] [.int t0_60] σ := by
        intro t0_60 h
        rw [ek60] at h
        refine J_istore (q := 62) C dX5_dates_60 rfl (by decide) rfl ?_
        refine J_aload_n (q := 63) C dX5_dates_62 rfl rfl 2 rfl ?_
        refine J_aload_n (q := 64) C dX5_dates_63 rfl rfl 1 rfl ?_
        refine JC_g_X5_street (q := 67) C kF_X5_49 dX5_dates_64 rfl (fun hs7 => ?_)
        refine JC_g_X4_size (q := 70) C hs7 kF_X5_131 dX5_dates_67 rfl ?_
        refine J_iconst (v := 0 ) (q := 71) C dX5_dates_70 rfl rfl ?_
        obtain ⟨σ8, ec8, h⟩ := bnd_of h
        refine J_callXV (q := 74) (As := [.int (gS σ (16 * (gR σ 0) + 7)), .int (0 : Int32)]) C (c_X0_fill hap ho1 ec8) ok_X0_fill kM_X5_60 (lt74I ho1) (celC_I ho1) rfl rfl rfl rfl rfl ⟨Nat.le_of_ble_eq_true rfl, Nat.le_of_ble_eq_true rfl⟩ (Nat.le_of_ble_eq_true rfl) dX5_dates_71 rfl ?_
        refine J_iconst (v := 0 ) (q := 75) C dX5_dates_74 rfl rfl ?_
        refine J_istore (q := 77) C dX5_dates_75 rfl (by decide) rfl ?_
        refine J_iconst (v := 0 ) (q := 78) C dX5_dates_77 rfl rfl ?_
        refine J_istore (q := 80) C dX5_dates_78 rfl (by decide) rfl ?_
        refine J_sub [3, 4, 5, 6, 2, 1, 0] rfl ?_
        refine cl_X5_dates_80 hap C ho1 r σo  (fun σv128 h => ?_) FU _ _ _ h
        · refine J_aload_n (q := 129) C dX5_dates_128 rfl rfl 0 rfl ?_
          refine JC_g_X5_street (q := 132) C kF_X5_49 dX5_dates_129 rfl (fun hs15 => ?_)
          refine JC_g_X4_dates (q := 135) C hs15 kF_X5_146 dX5_dates_132 rfl ?_
          refine J_iload (q := 137) C dX5_dates_135 rfl 2 rfl ?_
          obtain ⟨r16, ec16, h⟩ := bnd_of h
          refine J_callIV (q := 140) (As := [.int r6]) C (c_X0_get hap (isI_st hs15 3 (by decide)) ec16) ok_X0_get kM_X5_68 (lt74I (isI_st hs15 3 (by decide))) (celC_I (isI_st hs15 3 (by decide))) rfl rfl rfl rfl rfl ⟨Nat.le_of_ble_eq_true rfl, Nat.le_of_ble_eq_true rfl⟩ (Nat.le_of_ble_eq_true rfl) dX5_dates_137 rfl ?_
          refine J_aload_n (q := 141) C dX5_dates_140 rfl rfl 0 rfl ?_
          refine JC_g_X5_street (q := 144) C kF_X5_49 dX5_dates_141 rfl (fun hs17 => ?_)
          refine JC_g_X4_dates (q := 147) C hs17 kF_X5_146 dX5_dates_144 rfl ?_
          refine J_iload_n (q := 148) C dX5_dates_147 rfl rfl 1 rfl ?_
          obtain ⟨r18, ec18, h⟩ := bnd_of h
          refine J_callIV (q := 151) (As := [.int r4]) C (c_X0_get hap (isI_st hs17 3 (by decide)) ec18) ok_X0_get kM_X5_68 (lt74I (isI_st hs17 3 (by decide))) (celC_I (isI_st hs17 3 (by decide))) rfl rfl rfl rfl rfl ⟨Nat.le_of_ble_eq_true rfl, Nat.le_of_ble_eq_true rfl⟩ (Nat.le_of_ble_eq_true rfl) dX5_dates_148 rfl ?_
          refine J_isub (q := 152) C dX5_dates_151 rfl ?_
          obtain ⟨rfl, rfl⟩ := Prod.mk.inj (Option.some.inj h)
          exact J_iret C dX5_dates_152
      refine J_icmp_gt (tgt := 59) (q := 55) C dX5_dates_52 rfl (by decide) h (fun _ h => ?_) (fun _ h => ?_)
      · refine J_iconst (v := -1 ) (q := 60) C dX5_dates_59 rfl rfl ?_
        refine J_sub [3, 2, 1, 0] rfl ?_
        exact hk60 _ h
      · refine J_iconst (v := 1 ) (q := 56) C dX5_dates_55 rfl rfl ?_
        refine J_goto (tgt := 60) C dX5_dates_56 (by decide) ?_
        refine J_sub [3, 2, 1, 0] rfl ?_
        exact hk60 _ h
set_option maxHeartbeats 4000000 in
set_option maxRecDepth 100000 in
theorem cl_X5_refusedPairs_42 {p : Program} {l : Launch} {e : Env} {s : State} {m : MethodId} {args : Array Value} {below : List Frame} {meth : Method} {c : Code} {D : va_G} {cI cR : ClassId} {ad : Nat → Nat} (hap : apN 74 ad) (C : Cx p s m args meth c cX5_refusedPairs 4 "WokenYears" D (tysC cI cR) 74 ad (some .int)) {b1 : Nat} (hb1 : isI b1) {k77 : Option (Int32 × Sg)} {σ : Sg} (r : Int32) (σo : Sg)  (hk77 : k77 = some (r, σo) → Jd p l e (rmF 4 94) s m args below meth c D 74 ad (celC cI cR ad) okC 4 (MQ below (QI D (tysC cI cR) 74 ad (celC cI cR ad) okC r σo) args s 0 0 (inA 74 ad)) 77 [(0, .ref (ad 0))] [] σ) : ∀ (n : Nat) (x3 : Int32), l_X5_refusedPairs_42 b1 σ k77 n x3 = some (r, σo) → Jd p l e (rmF 4 94) s m args below meth c D 74 ad (celC cI cR ad) okC 4 (MQ below (QI D (tysC cI cR) 74 ad (celC cI cR ad) okC r σo) args s 0 0 (inA 74 ad)) 42 [(0, .ref (ad 0)), (1, .ref (ad b1)), (3, .int x3)] [] σ := by
  intro n
  induction n with
  | zero => intro x3 h; cases h
  | succ n ih =>
    intro x3 h
    unfold l_X5_refusedPairs_42 at h
    refine J_iload_n (q := 43) C dX5_refusedPairs_42 rfl rfl 2 rfl ?_
    refine J_aload_n (q := 44) C dX5_refusedPairs_43 rfl rfl 1 rfl ?_
    refine JC_g_X0_size (q := 47) C hb1 kF_X5_85 dX5_refusedPairs_44 rfl ?_
    refine J_icmp_ge (tgt := 89) (q := 50) C dX5_refusedPairs_47 rfl (by decide) h (fun _ h => ?_) (fun _ h => ?_)
    · refine J_iconst (v := 0 ) (q := 90) C dX5_refusedPairs_89 rfl rfl ?_
      obtain ⟨rfl, rfl⟩ := Prod.mk.inj (Option.some.inj h)
      exact J_iret C dX5_refusedPairs_90
    · refine J_aload_n (q := 51) C dX5_refusedPairs_50 rfl rfl 1 rfl ?_
      refine J_iload_n (q := 52) C dX5_refusedPairs_51 rfl rfl 2 rfl ?_
      obtain ⟨r4, ec4, h⟩ := bnd_of h
      refine J_callIV (q := 55) (As := [.int x3]) C (c_X0_get hap hb1 ec4) ok_X0_get kM_X5_68 (lt74I hb1) (celC_I hb1) rfl rfl rfl rfl rfl ⟨Nat.le_of_ble_eq_true rfl, Nat.le_of_ble_eq_true rfl⟩ (Nat.le_of_ble_eq_true rfl) dX5_refusedPairs_52 rfl ?_
      obtain ⟨r5, ec5, h⟩ := bnd_of h
      refine J_callIS (q := 58) (As := [.int r4]) C (c_X5_isDate hap  ec5) ok_X5_isDate kM_X5_185 rfl rfl rfl ⟨Nat.le_of_ble_eq_true rfl, Nat.le_of_ble_eq_true rfl⟩ (Nat.le_of_ble_eq_true rfl) dX5_refusedPairs_55 rfl ?_
      refine J_ifeq_b (tgt := 77) (q := 61) C dX5_refusedPairs_58 rfl (by decide) h (fun _ h => ?_) (fun _ h => ?_)
      · refine J_aload_n (q := 62) C dX5_refusedPairs_61 rfl rfl 1 rfl ?_
        refine J_iload_n (q := 63) C dX5_refusedPairs_62 rfl rfl 2 rfl ?_
        refine J_iconst (v := 1 ) (q := 64) C dX5_refusedPairs_63 rfl rfl ?_
        refine J_iadd (q := 65) C dX5_refusedPairs_64 rfl ?_
        obtain ⟨r6, ec6, h⟩ := bnd_of h
        refine J_callIV (q := 68) (As := [.int (x3 + (1 : Int32))]) C (c_X0_get hap hb1 ec6) ok_X0_get kM_X5_68 (lt74I hb1) (celC_I hb1) rfl rfl rfl rfl rfl ⟨Nat.le_of_ble_eq_true rfl, Nat.le_of_ble_eq_true rfl⟩ (Nat.le_of_ble_eq_true rfl) dX5_refusedPairs_65 rfl ?_
        refine J_iconst (v := 0 ) (q := 69) C dX5_refusedPairs_68 rfl rfl ?_
        refine J_bipush (v := 9) (q := 71) C dX5_refusedPairs_69 rfl rfl ?_
        obtain ⟨r7, ec7, h⟩ := bnd_of h
        refine J_callIS (q := 74) (As := [.int r6, .int (0 : Int32), .int (9 : Int32)]) C (c_X5_within hap  ec7) ok_X5_within kM_X5_75 rfl rfl rfl ⟨Nat.le_of_ble_eq_true rfl, Nat.le_of_ble_eq_true rfl⟩ (Nat.le_of_ble_eq_true rfl) dX5_refusedPairs_71 rfl ?_
        refine J_ifne_b (tgt := 83) (q := 77) C dX5_refusedPairs_74 rfl (by decide) h (fun _ h => ?_) (fun _ h => ?_)
        · refine jn_elim h (fun y8 ey8 h => ?_)
          refine J_iinc (v := y8) (q := 86) C dX5_refusedPairs_83 rfl 2 rfl (by rw [ey8]; rfl) (by decide) rfl ?_
          refine J_goto (tgt := 42) C dX5_refusedPairs_86 (by decide) ?_
          refine J_sub [1, 2, 0] rfl ?_
          exact ih _ h
        · refine J_sub [0] rfl ?_
          exact hk77 h
      · refine J_sub [0] rfl ?_
        exact hk77 h
set_option maxHeartbeats 4000000 in
set_option maxRecDepth 100000 in
theorem c_X5_refusedPairs {l : Launch} {D : va_G} {cI cR : ClassId} {ad : Nat → Nat} (hap : apN 74 ad) {o1 : Option Nat} {σ : Sg} {r : Int32} {σo : Sg} (ho1 : ∀ q, o1 = some q → isI q) (h : f_X5_refusedPairs o1 σ = some (r, σo)) : MI l D (tysC cI cR) 74 ad (celC cI cR ad) okC yX5_refusedPairs cX5_refusedPairs 4 .int 4 94 [.ref (ad 0), va_re ad o1] σ r σo := by
  unfold f_X5_refusedPairs at h
  cases o1 with
  | none =>
    have h := oc_none h
    refine entI "WokenYears" hap (by decide +kernel) rfl (Nat.le_of_ble_eq_true rfl) (fun p e s m args below meth c C => ?_)
    refine J_sub (lv' := [(0, .ref (ad 0)), (1, .null)]) [0, 1] rfl ?_
    refine J_aload_n (q := 1) C dX5_refusedPairs_0 rfl rfl 0 rfl ?_
    refine J_aload_nN (q := 2) C dX5_refusedPairs_1 rfl rfl 1 rfl ?_
    obtain ⟨r1, σ1, ec1, h⟩ := bnd2_of h
    refine J_callIV (q := 5) (As := [.null]) C (c_X5_refused hap noneI ec1) ok_X5_refused kM_X5_91 (by decide) rfl rfl rfl rfl rfl rfl ⟨Nat.le_of_ble_eq_true rfl, Nat.le_of_ble_eq_true rfl⟩ (Nat.le_of_ble_eq_true rfl) dX5_refusedPairs_2 rfl ?_
    refine J_istore_n (q := 6) C dX5_refusedPairs_5 rfl rfl (by decide) rfl ?_
    refine J_aload_nN (q := 7) C dX5_refusedPairs_6 rfl rfl 2 rfl ?_
    refine J_ifnullN (tgt := 14) C dX5_refusedPairs_7 (by decide) ?_
    refine J_iload_n (q := 15) C dX5_refusedPairs_14 rfl rfl 0 rfl ?_
    obtain ⟨rfl, rfl⟩ := Prod.mk.inj (Option.some.inj h)
    exact J_iret C dX5_refusedPairs_15
  | some q1 =>
    have hq1 := ho1 q1 rfl
    have h := oc_some h
    refine entI "WokenYears" hap (by decide +kernel) rfl (Nat.le_of_ble_eq_true rfl) (fun p e s m args below meth c C => ?_)
    refine J_sub (lv' := [(0, .ref (ad 0)), (1, .ref (ad q1))]) [0, 1] rfl ?_
    refine J_aload_n (q := 1) C dX5_refusedPairs_0 rfl rfl 0 rfl ?_
    refine J_aload_n (q := 2) C dX5_refusedPairs_1 rfl rfl 1 rfl ?_
    obtain ⟨r2, σ2, ec2, h⟩ := bnd2_of h
    refine J_callIV (q := 5) (As := [.ref (ad q1)]) C (c_X5_refused hap (someI hq1) ec2) ok_X5_refused kM_X5_91 (by decide) rfl rfl rfl rfl rfl rfl ⟨Nat.le_of_ble_eq_true rfl, Nat.le_of_ble_eq_true rfl⟩ (Nat.le_of_ble_eq_true rfl) dX5_refusedPairs_2 rfl ?_
    refine J_istore_n (q := 6) C dX5_refusedPairs_5 rfl rfl (by decide) rfl ?_
    refine J_aload_n (q := 7) C dX5_refusedPairs_6 rfl rfl 2 rfl ?_
    refine J_ifnull (q := 10) C dX5_refusedPairs_7 rfl ?_
    refine J_iload_n (q := 11) C dX5_refusedPairs_10 rfl rfl 0 rfl ?_
    refine J_if_eq (tgt := 16) (q := 14) C dX5_refusedPairs_11 rfl (by decide) h (fun _ h => ?_) (fun _ h => ?_)
    · refine J_aload_n (q := 17) C dX5_refusedPairs_16 rfl rfl 2 rfl ?_
      refine JC_g_X0_size (q := 20) C hq1 kF_X5_85 dX5_refusedPairs_17 rfl ?_
      refine J_iconst (v := 2 ) (q := 21) C dX5_refusedPairs_20 rfl rfl ?_
      refine J_irem (q := 22) C dX5_refusedPairs_21 rfl (by decide) ?_
      refine jn_elim h (fun k34 ek34 h => ?_)
      have hk34 : k34 = some (r, σo) → Jd p l e (rmF 4 94) s m args below meth c D 74 ad (celC cI cR ad) okC 4 (MQ below (QI D (tysC cI cR) 74 ad (celC cI cR ad) okC r σo) args s 0 0 (inA 74 ad)) 34 [(0, .ref (ad 0))] [] σ2 := by
        intro  h
        rw [ek34] at h
        refine J_aload_n (q := 35) C dX5_refusedPairs_34 rfl rfl 0 rfl ?_
        refine J_iconst (v := 5 ) (q := 36) C dX5_refusedPairs_35 rfl rfl ?_
        obtain ⟨r3, σ3, ec3, h⟩ := bnd2_of h
        refine J_callIV (q := 39) (As := [.int (5 : Int32)]) C (c_X5_found hap  ec3) ok_X5_found kM_X5_88 (by decide) rfl rfl rfl rfl rfl rfl ⟨Nat.le_of_ble_eq_true rfl, Nat.le_of_ble_eq_true rfl⟩ (Nat.le_of_ble_eq_true rfl) dX5_refusedPairs_36 rfl ?_
        obtain ⟨rfl, rfl⟩ := Prod.mk.inj (Option.some.inj h)
        exact J_iret C dX5_refusedPairs_39
      refine J_if_ne (tgt := 34) (q := 25) C dX5_refusedPairs_22 rfl (by decide) h (fun _ h => ?_) (fun _ h => ?_)
      · refine J_aload_n (q := 26) C dX5_refusedPairs_25 rfl rfl 2 rfl ?_
        refine JC_g_X0_size (q := 29) C hq1 kF_X5_85 dX5_refusedPairs_26 rfl ?_
        refine J_bipush (v := 16) (q := 31) C dX5_refusedPairs_29 rfl rfl ?_
        refine J_icmp_le (tgt := 40) (q := 34) C dX5_refusedPairs_31 rfl (by decide) h (fun _ h => ?_) (fun _ h => ?_)
        · refine J_iconst (v := 0 ) (q := 41) C dX5_refusedPairs_40 rfl rfl ?_
          refine J_istore_n (q := 42) C dX5_refusedPairs_41 rfl rfl (by decide) rfl ?_
          refine J_sub [2, 3, 0] rfl ?_
          refine cl_X5_refusedPairs_42 hap C hq1 r σo  (fun h => ?_) FU _ h
          · refine J_aload_n (q := 78) C dX5_refusedPairs_77 rfl rfl 0 rfl ?_
            refine J_iconst (v := 3 ) (q := 79) C dX5_refusedPairs_78 rfl rfl ?_
            obtain ⟨r9, σ9, ec9, h⟩ := bnd2_of h
            refine J_callIV (q := 82) (As := [.int (3 : Int32)]) C (c_X5_found hap  ec9) ok_X5_found kM_X5_88 (by decide) rfl rfl rfl rfl rfl rfl ⟨Nat.le_of_ble_eq_true rfl, Nat.le_of_ble_eq_true rfl⟩ (Nat.le_of_ble_eq_true rfl) dX5_refusedPairs_79 rfl ?_
            obtain ⟨rfl, rfl⟩ := Prod.mk.inj (Option.some.inj h)
            exact J_iret C dX5_refusedPairs_82
        · refine J_sub [1] rfl ?_
          exact hk34 h
      · refine J_sub [1] rfl ?_
        exact hk34 h
    · refine J_iload_n (q := 15) C dX5_refusedPairs_14 rfl rfl 0 rfl ?_
      obtain ⟨rfl, rfl⟩ := Prod.mk.inj (Option.some.inj h)
      exact J_iret C dX5_refusedPairs_15
set_option maxHeartbeats 4000000 in
set_option maxRecDepth 100000 in
theorem c_X5_tookOf {l : Launch} {D : va_G} {cI cR : ClassId} {ad : Nat → Nat} (hap : apN 74 ad) {i0 : Int32} {i1 : Int32} {i2 : Int32} {σ : Sg} {r : Int32}  (h : f_X5_tookOf i0 i1 i2 = some r) : MI l D (tysC cI cR) 74 ad (celC cI cR ad) okC yX5_tookOf cX5_tookOf 4 .int 2 54 [.int i0, .int i1, .int i2] σ r σ := by
  unfold f_X5_tookOf at h
  refine entI "WokenYears" hap (by decide +kernel) rfl (Nat.le_of_ble_eq_true rfl) (fun p e s m args below meth c C => ?_)
  refine J_sub (lv' := [(0, .int i0), (1, .int i1), (2, .int i2)]) [0, 1, 2] rfl ?_
  refine J_iload_n (q := 1) C dX5_tookOf_0 rfl rfl 0 rfl ?_
  refine J_iload_n (q := 2) C dX5_tookOf_1 rfl rfl 1 rfl ?_
  refine J_iload_n (q := 3) C dX5_tookOf_2 rfl rfl 2 rfl ?_
  obtain ⟨r1, ec1, h⟩ := bnd_of h
  refine J_callIS (q := 6) (As := [.int i0, .int i1, .int i2]) C (c_X1_taps hap  ec1) ok_X1_taps kM_X5_155 rfl rfl rfl ⟨Nat.le_of_ble_eq_true rfl, Nat.le_of_ble_eq_true rfl⟩ (Nat.le_of_ble_eq_true rfl) dX5_tookOf_3 rfl ?_
  refine J_istore_n (q := 7) C dX5_tookOf_6 rfl rfl (by decide) rfl ?_
  refine J_iload_n (q := 8) C dX5_tookOf_7 rfl rfl 0 rfl ?_
  refine J_bipush (v := -9) (q := 10) C dX5_tookOf_8 rfl rfl ?_
  refine J_icmp_ne (tgt := 17) (q := 13) C dX5_tookOf_10 rfl (by decide) h (fun _ h => ?_) (fun _ h => ?_)
  · refine J_iconst (v := 0 ) (q := 14) C dX5_tookOf_13 rfl rfl ?_
    refine J_goto (tgt := 18) C dX5_tookOf_14 (by decide) ?_
    obtain rfl := Option.some.inj h
    exact J_iret C dX5_tookOf_18
  · refine J_iload_n (q := 18) C dX5_tookOf_17 rfl rfl 0 rfl ?_
    obtain rfl := Option.some.inj h
    exact J_iret C dX5_tookOf_18
set_option maxHeartbeats 4000000 in
set_option maxRecDepth 100000 in
theorem cl_X5_canBe_2 {p : Program} {l : Launch} {e : Env} {s : State} {m : MethodId} {args : Array Value} {below : List Frame} {meth : Method} {c : Code} {D : va_G} {cI cR : ClassId} {ad : Nat → Nat} (hap : apN 74 ad) (C : Cx p s m args meth c cX5_canBe 4 "WokenYears" D (tysC cI cR) 74 ad (some .boolean)) {a1 : Int32} {b2 : Nat} (hb2 : isI b2) {σ : Sg} (r : Bool)   : ∀ (n : Nat) (x3 : Int32), l_X5_canBe_2 a1 b2 σ n x3 = some r → Jd p l e (rmF 3 77) s m args below meth c D 74 ad (celC cI cR ad) okC 4 (MQ below (QI D (tysC cI cR) 74 ad (celC cI cR ad) okC (b2i r) σ) args s 0 0 (inA 74 ad)) 2 [(0, .ref (ad 0)), (1, .int a1), (2, .ref (ad b2)), (3, .int x3)] [] σ := by
  intro n
  induction n with
  | zero => intro x3 h; cases h
  | succ n ih =>
    intro x3 h
    unfold l_X5_canBe_2 at h
    refine J_iload_n (q := 3) C dX5_canBe_2 rfl rfl 3 rfl ?_
    refine J_aload_n (q := 4) C dX5_canBe_3 rfl rfl 2 rfl ?_
    refine JC_g_X0_size (q := 7) C hb2 kF_X5_85 dX5_canBe_4 rfl ?_
    refine J_icmp_ge (tgt := 44) (q := 10) C dX5_canBe_7 rfl (by decide) h (fun _ h => ?_) (fun _ h => ?_)
    · refine J_iconst (v := 1 ) (q := 45) C dX5_canBe_44 rfl rfl ?_
      obtain rfl := Option.some.inj h
      exact J_zret (b := true) C dX5_canBe_45
    · refine J_iload_n (q := 11) C dX5_canBe_10 rfl rfl 1 rfl ?_
      refine J_aload_n (q := 12) C dX5_canBe_11 rfl rfl 2 rfl ?_
      refine J_iload_n (q := 13) C dX5_canBe_12 rfl rfl 3 rfl ?_
      obtain ⟨r1, ec1, h⟩ := bnd_of h
      refine J_callIV (q := 16) (As := [.int x3]) C (c_X0_get hap hb2 ec1) ok_X0_get kM_X5_68 (lt74I hb2) (celC_I hb2) rfl rfl rfl rfl rfl ⟨Nat.le_of_ble_eq_true rfl, Nat.le_of_ble_eq_true rfl⟩ (Nat.le_of_ble_eq_true rfl) dX5_canBe_13 rfl ?_
      refine J_aload_n (q := 17) C dX5_canBe_16 rfl rfl 0 rfl ?_
      refine JC_g_X5_street (q := 20) C kF_X5_49 dX5_canBe_17 rfl (fun hs2 => ?_)
      refine JC_g_X4_frost (q := 23) C hs2 kF_X5_152 dX5_canBe_20 rfl ?_
      obtain ⟨r3, ec3, h⟩ := bnd_of h
      refine J_callIS (q := 26) (As := [.int a1, .int r1, .int (gS σ (16 * (gR σ 0) + 10))]) C (c_X5_tookOf hap  ec3) ok_X5_tookOf kM_X5_233 rfl rfl rfl ⟨Nat.le_of_ble_eq_true rfl, Nat.le_of_ble_eq_true rfl⟩ (Nat.le_of_ble_eq_true rfl) dX5_canBe_23 rfl ?_
      refine J_aload_n (q := 27) C dX5_canBe_26 rfl rfl 2 rfl ?_
      refine J_iload_n (q := 28) C dX5_canBe_27 rfl rfl 3 rfl ?_
      refine J_iconst (v := 1 ) (q := 29) C dX5_canBe_28 rfl rfl ?_
      refine J_iadd (q := 30) C dX5_canBe_29 rfl ?_
      obtain ⟨r4, ec4, h⟩ := bnd_of h
      refine J_callIV (q := 33) (As := [.int (x3 + (1 : Int32))]) C (c_X0_get hap hb2 ec4) ok_X0_get kM_X5_68 (lt74I hb2) (celC_I hb2) rfl rfl rfl rfl rfl ⟨Nat.le_of_ble_eq_true rfl, Nat.le_of_ble_eq_true rfl⟩ (Nat.le_of_ble_eq_true rfl) dX5_canBe_30 rfl ?_
      refine J_icmp_eq (tgt := 38) (q := 36) C dX5_canBe_33 rfl (by decide) h (fun _ h => ?_) (fun _ h => ?_)
      · refine jn_elim h (fun y5 ey5 h => ?_)
        refine J_iinc (v := y5) (q := 41) C dX5_canBe_38 rfl 3 rfl (by rw [ey5]; rfl) (by decide) rfl ?_
        refine J_goto (tgt := 2) C dX5_canBe_41 (by decide) ?_
        refine J_sub [1, 2, 3, 0] rfl ?_
        exact ih _ h
      · refine J_iconst (v := 0 ) (q := 37) C dX5_canBe_36 rfl rfl ?_
        obtain rfl := Option.some.inj h
        exact J_zret (b := false) C dX5_canBe_37
set_option maxHeartbeats 4000000 in
set_option maxRecDepth 100000 in
theorem c_X5_canBe {l : Launch} {D : va_G} {cI cR : ClassId} {ad : Nat → Nat} (hap : apN 74 ad) {i1 : Int32} {g2 : Nat} {σ : Sg} {r : Bool} (ho2 : isI g2) (h : f_X5_canBe i1 g2 σ = some r) : MI l D (tysC cI cR) 74 ad (celC cI cR ad) okC yX5_canBe cX5_canBe 4 .boolean 3 77 [.ref (ad 0), .int i1, .ref (ad g2)] σ (b2i r) σ := by
  unfold f_X5_canBe at h
  refine entI "WokenYears" hap (by decide +kernel) rfl (Nat.le_of_ble_eq_true rfl) (fun p e s m args below meth c C => ?_)
  refine J_sub (lv' := [(0, .ref (ad 0)), (1, .int i1), (2, .ref (ad g2))]) [0, 1, 2] rfl ?_
  refine J_iconst (v := 0 ) (q := 1) C dX5_canBe_0 rfl rfl ?_
  refine J_istore_n (q := 2) C dX5_canBe_1 rfl rfl (by decide) rfl ?_
  refine J_sub [1, 2, 3, 0] rfl ?_
  refine cl_X5_canBe_2 hap C ho2 r  FU _ h
set_option maxHeartbeats 4000000 in
set_option maxRecDepth 100000 in
theorem cl_X5_kindsBy_4 {p : Program} {l : Launch} {e : Env} {s : State} {m : MethodId} {args : Array Value} {below : List Frame} {meth : Method} {c : Code} {D : va_G} {cI cR : ClassId} {ad : Nat → Nat} (hap : apN 74 ad) (C : Cx p s m args meth c cX5_kindsBy 4 "WokenYears" D (tysC cI cR) 74 ad (some .int)) {b1 : Nat} (hb1 : isI b1) {k31 : Int32 → Option Int32} {σ : Sg} (r : Int32)  (hk31 : ∀ (u2 : Int32), k31 u2 = some r → Jd p l e (rmF 4 100) s m args below meth c D 74 ad (celC cI cR ad) okC 4 (MQ below (QI D (tysC cI cR) 74 ad (celC cI cR ad) okC r σ) args s 0 0 (inA 74 ad)) 31 [(2, .int u2)] [] σ) : ∀ (n : Nat) (x2 : Int32) (x3 : Int32), l_X5_kindsBy_4 b1 σ k31 n x2 x3 = some r → Jd p l e (rmF 4 100) s m args below meth c D 74 ad (celC cI cR ad) okC 4 (MQ below (QI D (tysC cI cR) 74 ad (celC cI cR ad) okC r σ) args s 0 0 (inA 74 ad)) 4 [(0, .ref (ad 0)), (1, .ref (ad b1)), (2, .int x2), (3, .int x3)] [] σ := by
  intro n
  induction n with
  | zero => intro x2 x3 h; cases h
  | succ n ih =>
    intro x2 x3 h
    unfold l_X5_kindsBy_4 at h
    refine J_iload_n (q := 5) C dX5_kindsBy_4 rfl rfl 3 rfl ?_
    refine J_bipush (v := 6) (q := 7) C dX5_kindsBy_5 rfl rfl ?_
    refine J_icmp_ge (tgt := 31) (q := 10) C dX5_kindsBy_7 rfl (by decide) h (fun _ h => ?_) (fun _ h => ?_)
    · refine J_sub [2] rfl ?_
      exact hk31 _ h
    · refine J_aload_n (q := 11) C dX5_kindsBy_10 rfl rfl 0 rfl ?_
      refine J_iload_n (q := 12) C dX5_kindsBy_11 rfl rfl 3 rfl ?_
      refine J_aload_n (q := 13) C dX5_kindsBy_12 rfl rfl 1 rfl ?_
      obtain ⟨r1, ec1, h⟩ := bnd_of h
      refine J_callIV (q := 16) (As := [.int x3, .ref (ad b1)]) C (c_X5_canBe hap hb1 ec1) ok_X5_canBe kM_X5_236 (by decide) rfl rfl rfl rfl rfl rfl ⟨Nat.le_of_ble_eq_true rfl, Nat.le_of_ble_eq_true rfl⟩ (Nat.le_of_ble_eq_true rfl) dX5_kindsBy_13 rfl ?_
      refine jn_elim h (fun k25 ek25 h => ?_)
      have hk25 : ∀ (u2_25 : Int32), k25 u2_25 = some r → Jd p l e (rmF 4 100) s m args below meth c D 74 ad (celC cI cR ad) okC 4 (MQ below (QI D (tysC cI cR) 74 ad (celC cI cR ad) okC r σ) args s 0 0 (inA 74 ad)) 25 [(0, .ref (ad 0)), (1, .ref (ad b1)), (2, .int u2_25), (3, .int x3)] [] σ := by
        intro u2_25 h
        rw [ek25] at h
        refine jn_elim h (fun y2 ey2 h => ?_)
        refine J_iinc (v := y2) (q := 28) C dX5_kindsBy_25 rfl 3 rfl (by rw [ey2]; rfl) (by decide) rfl ?_
        refine J_goto (tgt := 4) C dX5_kindsBy_28 (by decide) ?_
        refine J_sub [1, 2, 3, 0] rfl ?_
        exact ih _ _ h
      refine J_ifeq_b (tgt := 25) (q := 19) C dX5_kindsBy_16 rfl (by decide) h (fun _ h => ?_) (fun _ h => ?_)
      · refine J_iload_n (q := 20) C dX5_kindsBy_19 rfl rfl 2 rfl ?_
        refine J_iconst (v := 1 ) (q := 21) C dX5_kindsBy_20 rfl rfl ?_
        refine J_iload_n (q := 22) C dX5_kindsBy_21 rfl rfl 3 rfl ?_
        refine J_ishl (q := 23) C dX5_kindsBy_22 rfl ?_
        refine J_ior (q := 24) C dX5_kindsBy_23 rfl ?_
        refine J_nmi h (fun y3 ey3 h => ?_)
        refine J_istore_n (q := 25) C dX5_kindsBy_24 rfl rfl (by decide) rfl ?_
        refine J_sub [1, 2, 0, 3] rfl ?_
        exact hk25 _ h
      · exact hk25 _ h
set_option maxHeartbeats 4000000 in
set_option maxRecDepth 100000 in
theorem c_X5_kindsBy {l : Launch} {D : va_G} {cI cR : ClassId} {ad : Nat → Nat} (hap : apN 74 ad) {g1 : Nat} {σ : Sg} {r : Int32} (ho1 : isI g1) (h : f_X5_kindsBy g1 σ = some r) : MI l D (tysC cI cR) 74 ad (celC cI cR ad) okC yX5_kindsBy cX5_kindsBy 4 .int 4 100 [.ref (ad 0), .ref (ad g1)] σ r σ := by
  unfold f_X5_kindsBy at h
  refine entI "WokenYears" hap (by decide +kernel) rfl (Nat.le_of_ble_eq_true rfl) (fun p e s m args below meth c C => ?_)
  refine J_sub (lv' := [(0, .ref (ad 0)), (1, .ref (ad g1))]) [0, 1] rfl ?_
  refine J_iconst (v := 0 ) (q := 1) C dX5_kindsBy_0 rfl rfl ?_
  refine J_istore_n (q := 2) C dX5_kindsBy_1 rfl rfl (by decide) rfl ?_
  refine J_iconst (v := 0 ) (q := 3) C dX5_kindsBy_2 rfl rfl ?_
  refine J_istore_n (q := 4) C dX5_kindsBy_3 rfl rfl (by decide) rfl ?_
  refine J_sub [2, 3, 1, 0] rfl ?_
  refine cl_X5_kindsBy_4 hap C ho1 r  (fun v2_31 h => ?_) FU _ _ h
  · refine J_iload_n (q := 32) C dX5_kindsBy_31 rfl rfl 0 rfl ?_
    obtain rfl := Option.some.inj h
    exact J_iret C dX5_kindsBy_32
set_option maxHeartbeats 4000000 in
set_option maxRecDepth 100000 in
theorem cl_X5_partOf_6 {p : Program} {l : Launch} {e : Env} {s : State} {m : MethodId} {args : Array Value} {below : List Frame} {meth : Method} {c : Code} {D : va_G} {cI cR : ClassId} {ad : Nat → Nat} (hap : apN 74 ad) (C : Cx p s m args meth c cX5_partOf 6 "WokenYears" D (tysC cI cR) 74 ad (some .int)) {a1 : Int32} {a2 : Int32} {a3 : Int32} {k55 : Int32 → Option Int32} {σ : Sg} (r : Int32)  (hk55 : ∀ (u4 : Int32), k55 u4 = some r → Jd p l e (rmF 3 77) s m args below meth c D 74 ad (celC cI cR ad) okC 6 (MQ below (QI D (tysC cI cR) 74 ad (celC cI cR ad) okC r σ) args s 0 0 (inA 74 ad)) 55 [(4, .int u4)] [] σ) : ∀ (n : Nat) (x4 : Int32) (x5 : Int32), l_X5_partOf_6 a1 a2 a3 σ k55 n x4 x5 = some r → Jd p l e (rmF 3 77) s m args below meth c D 74 ad (celC cI cR ad) okC 6 (MQ below (QI D (tysC cI cR) 74 ad (celC cI cR ad) okC r σ) args s 0 0 (inA 74 ad)) 6 [(0, .ref (ad 0)), (1, .int a1), (2, .int a2), (3, .int a3), (4, .int x4), (5, .int x5)] [] σ := by
  intro n
  induction n with
  | zero => intro x4 x5 h; cases h
  | succ n ih =>
    intro x4 x5 h
    unfold l_X5_partOf_6 at h
    refine J_iload (q := 8) C dX5_partOf_6 rfl 5 rfl ?_
    refine J_bipush (v := 6) (q := 10) C dX5_partOf_8 rfl rfl ?_
    refine J_icmp_ge (tgt := 55) (q := 13) C dX5_partOf_10 rfl (by decide) h (fun _ h => ?_) (fun _ h => ?_)
    · refine J_sub [4] rfl ?_
      exact hk55 _ h
    · refine J_iload (q := 15) C dX5_partOf_13 rfl 4 rfl ?_
      refine J_iload_n (q := 16) C dX5_partOf_15 rfl rfl 1 rfl ?_
      refine J_iload (q := 18) C dX5_partOf_16 rfl 5 rfl ?_
      obtain ⟨r1, ec1, h⟩ := bnd_of h
      refine J_callIS (q := 21) (As := [.int a1, .int x5]) C (c_X5_holds hap  ec1) ok_X5_holds kM_X5_240 rfl rfl rfl ⟨Nat.le_of_ble_eq_true rfl, Nat.le_of_ble_eq_true rfl⟩ (Nat.le_of_ble_eq_true rfl) dX5_partOf_18 rfl ?_
      refine jn_elim h (fun k46 ek46 h => ?_)
      have hk46 : ∀ (t0_46 : Bool), k46 t0_46 = some r → Jd p l e (rmF 3 77) s m args below meth c D 74 ad (celC cI cR ad) okC 6 (MQ below (QI D (tysC cI cR) 74 ad (celC cI cR ad) okC r σ) args s 0 0 (inA 74 ad)) 46 [(0, .ref (ad 0)), (1, .int a1), (2, .int a2), (3, .int a3), (5, .int x5)] [.int (b2i t0_46), .int x4] σ := by
        intro t0_46 h
        rw [ek46] at h
        refine J_iadd (q := 47) C dX5_partOf_46 rfl ?_
        refine J_nmi h (fun y2 ey2 h => ?_)
        refine J_istore (q := 49) C dX5_partOf_47 rfl (by decide) rfl ?_
        refine jn_elim h (fun y3 ey3 h => ?_)
        refine J_iinc (v := y3) (q := 52) C dX5_partOf_49 rfl 5 rfl (by rw [ey3]; rfl) (by decide) rfl ?_
        refine J_goto (tgt := 6) C dX5_partOf_52 (by decide) ?_
        refine J_sub [2, 3, 4, 5, 1, 0] rfl ?_
        exact ih _ _ h
      refine jn_elim h (fun k45 ek45 h => ?_)
      have hk45 : k45 = some r → Jd p l e (rmF 3 77) s m args below meth c D 74 ad (celC cI cR ad) okC 6 (MQ below (QI D (tysC cI cR) 74 ad (celC cI cR ad) okC r σ) args s 0 0 (inA 74 ad)) 45 [(0, .ref (ad 0)), (1, .int a1), (2, .int a2), (3, .int a3), (5, .int x5)] [.int x4] σ := by
        intro  h
        rw [ek45] at h
        refine J_iconst (v := 0 ) (q := 46) C dX5_partOf_45 rfl rfl ?_
        exact hk46 _ h
      refine J_ifeq_b (tgt := 45) (q := 24) C dX5_partOf_21 rfl (by decide) h (fun _ h => ?_) (fun _ h => ?_)
      · refine J_iload (q := 26) C dX5_partOf_24 rfl 5 rfl ?_
        refine J_iload_n (q := 27) C dX5_partOf_26 rfl rfl 2 rfl ?_
        refine J_aload_n (q := 28) C dX5_partOf_27 rfl rfl 0 rfl ?_
        refine JC_g_X5_street (q := 31) C kF_X5_49 dX5_partOf_28 rfl (fun hs4 => ?_)
        refine JC_g_X4_frost (q := 34) C hs4 kF_X5_152 dX5_partOf_31 rfl ?_
        obtain ⟨r5, ec5, h⟩ := bnd_of h
        refine J_callIS (q := 37) (As := [.int x5, .int a2, .int (gS σ (16 * (gR σ 0) + 10))]) C (c_X5_tookOf hap  ec5) ok_X5_tookOf kM_X5_233 rfl rfl rfl ⟨Nat.le_of_ble_eq_true rfl, Nat.le_of_ble_eq_true rfl⟩ (Nat.le_of_ble_eq_true rfl) dX5_partOf_34 rfl ?_
        refine J_iload_n (q := 38) C dX5_partOf_37 rfl rfl 3 rfl ?_
        refine J_icmp_ne (tgt := 45) (q := 41) C dX5_partOf_38 rfl (by decide) h (fun _ h => ?_) (fun _ h => ?_)
        · refine J_iconst (v := 1 ) (q := 42) C dX5_partOf_41 rfl rfl ?_
          refine J_goto (tgt := 46) C dX5_partOf_42 (by decide) ?_
          refine J_sub [0, 1, 2, 3, 5] rfl ?_
          exact hk46 _ h
        · refine J_sub [0, 1, 2, 3, 5] rfl ?_
          exact hk45 h
      · refine J_sub [0, 1, 2, 3, 5] rfl ?_
        exact hk45 h
set_option maxHeartbeats 4000000 in
set_option maxRecDepth 100000 in
theorem c_X5_partOf {l : Launch} {D : va_G} {cI cR : ClassId} {ad : Nat → Nat} (hap : apN 74 ad) {i1 : Int32} {i2 : Int32} {i3 : Int32} {σ : Sg} {r : Int32}  (h : f_X5_partOf i1 i2 i3 σ = some r) : MI l D (tysC cI cR) 74 ad (celC cI cR ad) okC yX5_partOf cX5_partOf 6 .int 3 77 [.ref (ad 0), .int i1, .int i2, .int i3] σ r σ := by
  unfold f_X5_partOf at h
  refine entI "WokenYears" hap (by decide +kernel) rfl (Nat.le_of_ble_eq_true rfl) (fun p e s m args below meth c C => ?_)
  refine J_sub (lv' := [(0, .ref (ad 0)), (1, .int i1), (2, .int i2), (3, .int i3)]) [0, 1, 2, 3] rfl ?_
  refine J_iconst (v := 0 ) (q := 1) C dX5_partOf_0 rfl rfl ?_
  refine J_istore (q := 3) C dX5_partOf_1 rfl (by decide) rfl ?_
  refine J_iconst (v := 0 ) (q := 4) C dX5_partOf_3 rfl rfl ?_
  refine J_istore (q := 6) C dX5_partOf_4 rfl (by decide) rfl ?_
  refine J_sub [2, 3, 4, 5, 1, 0] rfl ?_
  refine cl_X5_partOf_6 hap C r  (fun v4_55 h => ?_) FU _ _ h
  · refine J_iload (q := 57) C dX5_partOf_55 rfl 0 rfl ?_
    obtain rfl := Option.some.inj h
    exact J_iret C dX5_partOf_57
set_option maxHeartbeats 4000000 in
set_option maxRecDepth 100000 in
theorem cl_X5_greatestPart_5 {p : Program} {l : Launch} {e : Env} {s : State} {m : MethodId} {args : Array Value} {below : List Frame} {meth : Method} {c : Code} {D : va_G} {cI cR : ClassId} {ad : Nat → Nat} (hap : apN 74 ad) (C : Cx p s m args meth c cX5_greatestPart 6 "WokenYears" D (tysC cI cR) 74 ad (some .int)) {a1 : Int32} {a2 : Int32} {k55 : Int32 → Option Int32} {σ : Sg} (r : Int32)  (hk55 : ∀ (u3 : Int32), k55 u3 = some r → Jd p l e (rmF 4 102) s m args below meth c D 74 ad (celC cI cR ad) okC 6 (MQ below (QI D (tysC cI cR) 74 ad (celC cI cR ad) okC r σ) args s 0 0 (inA 74 ad)) 55 [(3, .int u3)] [] σ) : ∀ (n : Nat) (x3 : Int32) (x4 : Int32), l_X5_greatestPart_5 a1 a2 σ k55 n x3 x4 = some r → Jd p l e (rmF 4 102) s m args below meth c D 74 ad (celC cI cR ad) okC 6 (MQ below (QI D (tysC cI cR) 74 ad (celC cI cR ad) okC r σ) args s 0 0 (inA 74 ad)) 5 [(0, .ref (ad 0)), (1, .int a1), (2, .int a2), (3, .int x3), (4, .int x4)] [] σ := by
  intro n
  induction n with
  | zero => intro x3 x4 h; cases h
  | succ n ih =>
    intro x3 x4 h
    unfold l_X5_greatestPart_5 at h
    refine J_iload (q := 7) C dX5_greatestPart_5 rfl 4 rfl ?_
    refine J_bipush (v := 6) (q := 9) C dX5_greatestPart_7 rfl rfl ?_
    refine J_icmp_ge (tgt := 55) (q := 12) C dX5_greatestPart_9 rfl (by decide) h (fun _ h => ?_) (fun _ h => ?_)
    · refine J_sub [3] rfl ?_
      exact hk55 _ h
    · refine J_iload_n (q := 13) C dX5_greatestPart_12 rfl rfl 1 rfl ?_
      refine J_iload (q := 15) C dX5_greatestPart_13 rfl 4 rfl ?_
      obtain ⟨r1, ec1, h⟩ := bnd_of h
      refine J_callIS (q := 18) (As := [.int a1, .int x4]) C (c_X5_holds hap  ec1) ok_X5_holds kM_X5_240 rfl rfl rfl ⟨Nat.le_of_ble_eq_true rfl, Nat.le_of_ble_eq_true rfl⟩ (Nat.le_of_ble_eq_true rfl) dX5_greatestPart_15 rfl ?_
      refine jn_elim h (fun k49 ek49 h => ?_)
      have hk49 : ∀ (u3_49 : Int32), k49 u3_49 = some r → Jd p l e (rmF 4 102) s m args below meth c D 74 ad (celC cI cR ad) okC 6 (MQ below (QI D (tysC cI cR) 74 ad (celC cI cR ad) okC r σ) args s 0 0 (inA 74 ad)) 49 [(0, .ref (ad 0)), (1, .int a1), (2, .int a2), (3, .int u3_49), (4, .int x4)] [] σ := by
        intro u3_49 h
        rw [ek49] at h
        refine jn_elim h (fun y2 ey2 h => ?_)
        refine J_iinc (v := y2) (q := 52) C dX5_greatestPart_49 rfl 4 rfl (by rw [ey2]; rfl) (by decide) rfl ?_
        refine J_goto (tgt := 5) C dX5_greatestPart_52 (by decide) ?_
        refine J_sub [1, 2, 3, 4, 0] rfl ?_
        exact ih _ _ h
      refine J_ifeq_b (tgt := 49) (q := 21) C dX5_greatestPart_18 rfl (by decide) h (fun _ h => ?_) (fun _ h => ?_)
      · refine J_iload (q := 23) C dX5_greatestPart_21 rfl 4 rfl ?_
        refine J_iload_n (q := 24) C dX5_greatestPart_23 rfl rfl 2 rfl ?_
        refine J_aload_n (q := 25) C dX5_greatestPart_24 rfl rfl 0 rfl ?_
        refine JC_g_X5_street (q := 28) C kF_X5_49 dX5_greatestPart_25 rfl (fun hs3 => ?_)
        refine JC_g_X4_frost (q := 31) C hs3 kF_X5_152 dX5_greatestPart_28 rfl ?_
        obtain ⟨r4, ec4, h⟩ := bnd_of h
        refine J_callIS (q := 34) (As := [.int x4, .int a2, .int (gS σ (16 * (gR σ 0) + 10))]) C (c_X5_tookOf hap  ec4) ok_X5_tookOf kM_X5_233 rfl rfl rfl ⟨Nat.le_of_ble_eq_true rfl, Nat.le_of_ble_eq_true rfl⟩ (Nat.le_of_ble_eq_true rfl) dX5_greatestPart_31 rfl ?_
        refine J_istore (q := 36) C dX5_greatestPart_34 rfl (by decide) rfl ?_
        refine J_iload_n (q := 37) C dX5_greatestPart_36 rfl rfl 4 rfl ?_
        refine J_aload_n (q := 38) C dX5_greatestPart_37 rfl rfl 1 rfl ?_
        refine J_iload_n (q := 39) C dX5_greatestPart_38 rfl rfl 2 rfl ?_
        refine J_iload_n (q := 40) C dX5_greatestPart_39 rfl rfl 3 rfl ?_
        refine J_iload (q := 42) C dX5_greatestPart_40 rfl 0 rfl ?_
        obtain ⟨r5, ec5, h⟩ := bnd_of h
        refine J_callIV (q := 45) (As := [.int a1, .int a2, .int r4]) C (c_X5_partOf hap  ec5) ok_X5_partOf kM_X5_243 (by decide) rfl rfl rfl rfl rfl rfl ⟨Nat.le_of_ble_eq_true rfl, Nat.le_of_ble_eq_true rfl⟩ (Nat.le_of_ble_eq_true rfl) dX5_greatestPart_42 rfl ?_
        refine J_mmax (q := 48) C kM_X5_79 kMath_max_s kMath_max_c (Nat.le_of_ble_eq_true rfl) (Nat.le_of_ble_eq_true rfl) dX5_greatestPart_45 rfl ?_
        refine J_nmi h (fun y6 ey6 h => ?_)
        refine J_istore_n (q := 49) C dX5_greatestPart_48 rfl rfl (by decide) rfl ?_
        refine J_sub [2, 3, 4, 0, 5] rfl ?_
        exact hk49 _ h
      · exact hk49 _ h
set_option maxHeartbeats 4000000 in
set_option maxRecDepth 100000 in
theorem c_X5_greatestPart {l : Launch} {D : va_G} {cI cR : ClassId} {ad : Nat → Nat} (hap : apN 74 ad) {i1 : Int32} {i2 : Int32} {σ : Sg} {r : Int32}  (h : f_X5_greatestPart i1 i2 σ = some r) : MI l D (tysC cI cR) 74 ad (celC cI cR ad) okC yX5_greatestPart cX5_greatestPart 6 .int 4 102 [.ref (ad 0), .int i1, .int i2] σ r σ := by
  unfold f_X5_greatestPart at h
  refine entI "WokenYears" hap (by decide +kernel) rfl (Nat.le_of_ble_eq_true rfl) (fun p e s m args below meth c C => ?_)
  refine J_sub (lv' := [(0, .ref (ad 0)), (1, .int i1), (2, .int i2)]) [0, 1, 2] rfl ?_
  refine J_iconst (v := 0 ) (q := 1) C dX5_greatestPart_0 rfl rfl ?_
  refine J_istore_n (q := 2) C dX5_greatestPart_1 rfl rfl (by decide) rfl ?_
  refine J_iconst (v := 0 ) (q := 3) C dX5_greatestPart_2 rfl rfl ?_
  refine J_istore (q := 5) C dX5_greatestPart_3 rfl (by decide) rfl ?_
  refine J_sub [2, 3, 4, 1, 0] rfl ?_
  refine cl_X5_greatestPart_5 hap C r  (fun v3_55 h => ?_) FU _ _ h
  · refine J_iload_n (q := 56) C dX5_greatestPart_55 rfl rfl 0 rfl ?_
    obtain rfl := Option.some.inj h
    exact J_iret C dX5_greatestPart_56
set_option maxHeartbeats 4000000 in
set_option maxRecDepth 100000 in
theorem cl_X5_whose_31 {p : Program} {l : Launch} {e : Env} {s : State} {m : MethodId} {args : Array Value} {below : List Frame} {meth : Method} {c : Code} {D : va_G} {cI cR : ClassId} {ad : Nat → Nat} (hap : apN 74 ad) (C : Cx p s m args meth c cX5_whose 6 "WokenYears" D (tysC cI cR) 74 ad (some .int)) {b2 : Nat} (hb2 : isI b2) {k78 : Int32 → Option (Int32 × Sg)} {σ : Sg} (r : Int32) (σo : Sg)  (hk78 : ∀ (u4 : Int32), k78 u4 = some (r, σo) → Jd p l e (rmF 5 117) s m args below meth c D 74 ad (celC cI cR ad) okC 6 (MQ below (QI D (tysC cI cR) 74 ad (celC cI cR ad) okC r σo) args s 0 0 (inA 74 ad)) 78 [(4, .int u4)] [] σ) : ∀ (n : Nat) (x4 : Int32) (x5 : Int32), l_X5_whose_31 b2 σ k78 n x4 x5 = some (r, σo) → Jd p l e (rmF 5 117) s m args below meth c D 74 ad (celC cI cR ad) okC 6 (MQ below (QI D (tysC cI cR) 74 ad (celC cI cR ad) okC r σo) args s 0 0 (inA 74 ad)) 31 [(0, .ref (ad 0)), (2, .ref (ad b2)), (4, .int x4), (5, .int x5)] [] σ := by
  intro n
  induction n with
  | zero => intro x4 x5 h; cases h
  | succ n ih =>
    intro x4 x5 h
    unfold l_X5_whose_31 at h
    refine J_iload (q := 33) C dX5_whose_31 rfl 3 rfl ?_
    refine J_aload_n (q := 34) C dX5_whose_33 rfl rfl 0 rfl ?_
    refine JC_g_X5_street (q := 37) C kF_X5_49 dX5_whose_34 rfl (fun hs4 => ?_)
    refine JC_g_X4_size (q := 40) C hs4 kF_X5_131 dX5_whose_37 rfl ?_
    refine J_icmp_ge (tgt := 78) (q := 43) C dX5_whose_40 rfl (by decide) h (fun _ h => ?_) (fun _ h => ?_)
    · refine J_sub [2] rfl ?_
      exact hk78 _ h
    · refine J_aload_n (q := 44) C dX5_whose_43 rfl rfl 0 rfl ?_
      refine J_aload_n (q := 45) C dX5_whose_44 rfl rfl 0 rfl ?_
      refine JC_g_X5_street (q := 48) C kF_X5_49 dX5_whose_45 rfl (fun hs5 => ?_)
      refine JC_g_X4_kinds (q := 51) C hs5 kF_X5_138 dX5_whose_48 rfl ?_
      refine J_iload (q := 53) C dX5_whose_51 rfl 3 rfl ?_
      obtain ⟨r6, ec6, h⟩ := bnd_of h
      refine J_callIV (q := 56) (As := [.int x5]) C (c_X0_get hap (isI_st hs5 0 (by decide)) ec6) ok_X0_get kM_X5_68 (lt74I (isI_st hs5 0 (by decide))) (celC_I (isI_st hs5 0 (by decide))) rfl rfl rfl rfl rfl ⟨Nat.le_of_ble_eq_true rfl, Nat.le_of_ble_eq_true rfl⟩ (Nat.le_of_ble_eq_true rfl) dX5_whose_53 rfl ?_
      refine J_aload_n (q := 57) C dX5_whose_56 rfl rfl 1 rfl ?_
      obtain ⟨r7, ec7, h⟩ := bnd_of h
      refine J_callIV (q := 60) (As := [.int r6, .ref (ad b2)]) C (c_X5_canBe hap hb2 ec7) ok_X5_canBe kM_X5_236 (by decide) rfl rfl rfl rfl rfl rfl ⟨Nat.le_of_ble_eq_true rfl, Nat.le_of_ble_eq_true rfl⟩ (Nat.le_of_ble_eq_true rfl) dX5_whose_57 rfl ?_
      refine jn_elim h (fun k72 ek72 h => ?_)
      have hk72 : ∀ (u4_72 : Int32), k72 u4_72 = some (r, σo) → Jd p l e (rmF 5 117) s m args below meth c D 74 ad (celC cI cR ad) okC 6 (MQ below (QI D (tysC cI cR) 74 ad (celC cI cR ad) okC r σo) args s 0 0 (inA 74 ad)) 72 [(0, .ref (ad 0)), (2, .ref (ad b2)), (4, .int u4_72), (5, .int x5)] [] σ := by
        intro u4_72 h
        rw [ek72] at h
        refine jn_elim h (fun y8 ey8 h => ?_)
        refine J_iinc (v := y8) (q := 75) C dX5_whose_72 rfl 3 rfl (by rw [ey8]; rfl) (by decide) rfl ?_
        refine J_goto (tgt := 31) C dX5_whose_75 (by decide) ?_
        refine J_sub [1, 2, 3, 0] rfl ?_
        exact ih _ _ h
      refine J_ifeq_b (tgt := 72) (q := 63) C dX5_whose_60 rfl (by decide) h (fun _ h => ?_) (fun _ h => ?_)
      · refine J_iload (q := 65) C dX5_whose_63 rfl 2 rfl ?_
        refine J_iconst (v := 1 ) (q := 66) C dX5_whose_65 rfl rfl ?_
        refine J_iload (q := 68) C dX5_whose_66 rfl 3 rfl ?_
        refine J_ishl (q := 69) C dX5_whose_68 rfl ?_
        refine J_ior (q := 70) C dX5_whose_69 rfl ?_
        refine J_nmi h (fun y9 ey9 h => ?_)
        refine J_istore (q := 72) C dX5_whose_70 rfl (by decide) rfl ?_
        refine J_sub [1, 2, 0, 3] rfl ?_
        exact hk72 _ h
      · exact hk72 _ h
set_option maxHeartbeats 4000000 in
set_option maxRecDepth 100000 in
theorem c_X5_whose {l : Launch} {D : va_G} {cI cR : ClassId} {ad : Nat → Nat} (hap : apN 74 ad) {i1 : Int32} {σ : Sg} {r : Int32} {σo : Sg}  (h : f_X5_whose i1 σ = some (r, σo)) : MI l D (tysC cI cR) 74 ad (celC cI cR ad) okC yX5_whose cX5_whose 6 .int 5 117 [.ref (ad 0), .int i1] σ r σo := by
  unfold f_X5_whose at h
  refine entI "WokenYears" hap (by decide +kernel) rfl (Nat.le_of_ble_eq_true rfl) (fun p e s m args below meth c C => ?_)
  refine J_sub (lv' := [(0, .ref (ad 0)), (1, .int i1)]) [0, 1] rfl ?_
  refine J_aload_n (q := 1) C dX5_whose_0 rfl rfl 0 rfl ?_
  refine JC_g_X5_rows (q := 4) C kF_X5_13 dX5_whose_1 rfl ?_
  refine J_iload_n (q := 5) C dX5_whose_4 rfl rfl 1 rfl ?_
  obtain ⟨r1, ec1, h⟩ := bnd_of h
  refine J_callRS (q := 8) (As := [.ref (ad 71), .int i1]) C (c_X5_pick hap isRA_71 ec1) ok_X5_pick kM_X5_99 rfl rfl rfl ⟨Nat.le_of_ble_eq_true rfl, Nat.le_of_ble_eq_true rfl⟩ (Nat.le_of_ble_eq_true rfl) dX5_whose_5 rfl ?_
  cases r1 with
  | none =>
    have h := oc_none h
    refine J_st (st' := [.null]) rfl ?_
    refine J_astore_nN (q := 9) C dX5_whose_8 rfl rfl (by decide) rfl ?_
    refine J_aload_n (q := 10) C dX5_whose_9 rfl rfl 1 rfl ?_
    refine J_aload_nN (q := 11) C dX5_whose_10 rfl rfl 0 rfl ?_
    obtain ⟨r2, σ2, ec2, h⟩ := bnd2_of h
    refine J_callIV (q := 14) (As := [.null]) C (c_X5_refusedPairs hap noneI ec2) ok_X5_refusedPairs kM_X5_246 (by decide) rfl rfl rfl rfl rfl rfl ⟨Nat.le_of_ble_eq_true rfl, Nat.le_of_ble_eq_true rfl⟩ (Nat.le_of_ble_eq_true rfl) dX5_whose_11 rfl ?_
    refine J_istore_n (q := 15) C dX5_whose_14 rfl rfl (by decide) rfl ?_
    refine J_aload_nN (q := 16) C dX5_whose_15 rfl rfl 1 rfl ?_
    refine J_ifnullN (tgt := 23) C dX5_whose_16 (by decide) ?_
    refine J_iload_n (q := 24) C dX5_whose_23 rfl rfl 0 rfl ?_
    obtain ⟨rfl, rfl⟩ := Prod.mk.inj (Option.some.inj h)
    exact J_iret C dX5_whose_24
  | some g1 =>
    have h := oc_some h
    have ho1 := X5_pick_isI isRA_71 ec1
    refine J_st (st' := [.ref (ad g1)]) rfl ?_
    refine J_astore_n (q := 9) C dX5_whose_8 rfl rfl (by decide) rfl ?_
    refine J_aload_n (q := 10) C dX5_whose_9 rfl rfl 1 rfl ?_
    refine J_aload_n (q := 11) C dX5_whose_10 rfl rfl 0 rfl ?_
    obtain ⟨r3, σ3, ec3, h⟩ := bnd2_of h
    refine J_callIV (q := 14) (As := [.ref (ad g1)]) C (c_X5_refusedPairs hap (someI ho1) ec3) ok_X5_refusedPairs kM_X5_246 (by decide) rfl rfl rfl rfl rfl rfl ⟨Nat.le_of_ble_eq_true rfl, Nat.le_of_ble_eq_true rfl⟩ (Nat.le_of_ble_eq_true rfl) dX5_whose_11 rfl ?_
    refine J_istore_n (q := 15) C dX5_whose_14 rfl rfl (by decide) rfl ?_
    refine J_aload_n (q := 16) C dX5_whose_15 rfl rfl 1 rfl ?_
    refine J_ifnull (q := 19) C dX5_whose_16 rfl ?_
    refine J_iload_n (q := 20) C dX5_whose_19 rfl rfl 0 rfl ?_
    refine J_if_eq (tgt := 25) (q := 23) C dX5_whose_20 rfl (by decide) h (fun _ h => ?_) (fun _ h => ?_)
    · refine J_iconst (v := 0 ) (q := 26) C dX5_whose_25 rfl rfl ?_
      refine J_istore (q := 28) C dX5_whose_26 rfl (by decide) rfl ?_
      refine J_iconst (v := 0 ) (q := 29) C dX5_whose_28 rfl rfl ?_
      refine J_istore (q := 31) C dX5_whose_29 rfl (by decide) rfl ?_
      refine J_sub [4, 3, 1, 0] rfl ?_
      refine cl_X5_whose_31 hap C ho1 r σo  (fun v4_78 h => ?_) FU _ _ h
      · refine J_iload (q := 80) C dX5_whose_78 rfl 0 rfl ?_
        obtain ⟨rfl, rfl⟩ := Prod.mk.inj (Option.some.inj h)
        exact J_iret C dX5_whose_80
    · refine J_iload_n (q := 24) C dX5_whose_23 rfl rfl 0 rfl ?_
      obtain ⟨rfl, rfl⟩ := Prod.mk.inj (Option.some.inj h)
      exact J_iret C dX5_whose_24
set_option maxHeartbeats 4000000 in
set_option maxRecDepth 100000 in
theorem c_X5_kinds {l : Launch} {D : va_G} {cI cR : ClassId} {ad : Nat → Nat} (hap : apN 74 ad) {i1 : Int32} {σ : Sg} {r : Int32} {σo : Sg}  (h : f_X5_kinds i1 σ = some (r, σo)) : MI l D (tysC cI cR) 74 ad (celC cI cR ad) okC yX5_kinds cX5_kinds 4 .int 5 123 [.ref (ad 0), .int i1] σ r σo := by
  unfold f_X5_kinds at h
  refine entI "WokenYears" hap (by decide +kernel) rfl (Nat.le_of_ble_eq_true rfl) (fun p e s m args below meth c C => ?_)
  refine J_sub (lv' := [(0, .ref (ad 0)), (1, .int i1)]) [0, 1] rfl ?_
  refine J_aload_n (q := 1) C dX5_kinds_0 rfl rfl 0 rfl ?_
  refine JC_g_X5_rows (q := 4) C kF_X5_13 dX5_kinds_1 rfl ?_
  refine J_iload_n (q := 5) C dX5_kinds_4 rfl rfl 1 rfl ?_
  obtain ⟨r1, ec1, h⟩ := bnd_of h
  refine J_callRS (q := 8) (As := [.ref (ad 71), .int i1]) C (c_X5_pick hap isRA_71 ec1) ok_X5_pick kM_X5_99 rfl rfl rfl ⟨Nat.le_of_ble_eq_true rfl, Nat.le_of_ble_eq_true rfl⟩ (Nat.le_of_ble_eq_true rfl) dX5_kinds_5 rfl ?_
  cases r1 with
  | none =>
    have h := oc_none h
    refine J_st (st' := [.null]) rfl ?_
    refine J_astore_nN (q := 9) C dX5_kinds_8 rfl rfl (by decide) rfl ?_
    refine J_aload_n (q := 10) C dX5_kinds_9 rfl rfl 1 rfl ?_
    refine J_aload_nN (q := 11) C dX5_kinds_10 rfl rfl 0 rfl ?_
    obtain ⟨r2, σ2, ec2, h⟩ := bnd2_of h
    refine J_callIV (q := 14) (As := [.null]) C (c_X5_refusedPairs hap noneI ec2) ok_X5_refusedPairs kM_X5_246 (by decide) rfl rfl rfl rfl rfl rfl ⟨Nat.le_of_ble_eq_true rfl, Nat.le_of_ble_eq_true rfl⟩ (Nat.le_of_ble_eq_true rfl) dX5_kinds_11 rfl ?_
    refine J_istore_n (q := 15) C dX5_kinds_14 rfl rfl (by decide) rfl ?_
    refine J_aload_nN (q := 16) C dX5_kinds_15 rfl rfl 1 rfl ?_
    refine J_ifnullN (tgt := 23) C dX5_kinds_16 (by decide) ?_
    refine J_iload_n (q := 24) C dX5_kinds_23 rfl rfl 0 rfl ?_
    obtain ⟨rfl, rfl⟩ := Prod.mk.inj (Option.some.inj h)
    exact J_iret C dX5_kinds_24
  | some g1 =>
    have h := oc_some h
    have ho1 := X5_pick_isI isRA_71 ec1
    refine J_st (st' := [.ref (ad g1)]) rfl ?_
    refine J_astore_n (q := 9) C dX5_kinds_8 rfl rfl (by decide) rfl ?_
    refine J_aload_n (q := 10) C dX5_kinds_9 rfl rfl 1 rfl ?_
    refine J_aload_n (q := 11) C dX5_kinds_10 rfl rfl 0 rfl ?_
    obtain ⟨r3, σ3, ec3, h⟩ := bnd2_of h
    refine J_callIV (q := 14) (As := [.ref (ad g1)]) C (c_X5_refusedPairs hap (someI ho1) ec3) ok_X5_refusedPairs kM_X5_246 (by decide) rfl rfl rfl rfl rfl rfl ⟨Nat.le_of_ble_eq_true rfl, Nat.le_of_ble_eq_true rfl⟩ (Nat.le_of_ble_eq_true rfl) dX5_kinds_11 rfl ?_
    refine J_istore_n (q := 15) C dX5_kinds_14 rfl rfl (by decide) rfl ?_
    refine J_aload_n (q := 16) C dX5_kinds_15 rfl rfl 1 rfl ?_
    refine J_ifnull (q := 19) C dX5_kinds_16 rfl ?_
    refine J_iload_n (q := 20) C dX5_kinds_19 rfl rfl 0 rfl ?_
    refine J_if_eq (tgt := 25) (q := 23) C dX5_kinds_20 rfl (by decide) h (fun _ h => ?_) (fun _ h => ?_)
    · refine J_aload_n (q := 26) C dX5_kinds_25 rfl rfl 2 rfl ?_
      refine J_aload_n (q := 27) C dX5_kinds_26 rfl rfl 1 rfl ?_
      obtain ⟨r4, ec4, h⟩ := bnd_of h
      refine J_callIV (q := 30) (As := [.ref (ad g1)]) C (c_X5_kindsBy hap ho1 ec4) ok_X5_kindsBy kM_X5_249 (by decide) rfl rfl rfl rfl rfl rfl ⟨Nat.le_of_ble_eq_true rfl, Nat.le_of_ble_eq_true rfl⟩ (Nat.le_of_ble_eq_true rfl) dX5_kinds_27 rfl ?_
      obtain ⟨rfl, rfl⟩ := Prod.mk.inj (Option.some.inj h)
      exact J_iret C dX5_kinds_30
    · refine J_iload_n (q := 24) C dX5_kinds_23 rfl rfl 0 rfl ?_
      obtain ⟨rfl, rfl⟩ := Prod.mk.inj (Option.some.inj h)
      exact J_iret C dX5_kinds_24
set_option maxHeartbeats 4000000 in
set_option maxRecDepth 100000 in
theorem cl_X5_test_55 {p : Program} {l : Launch} {e : Env} {s : State} {m : MethodId} {args : Array Value} {below : List Frame} {meth : Method} {c : Code} {D : va_G} {cI cR : ClassId} {ad : Nat → Nat} (hap : apN 74 ad) (C : Cx p s m args meth c cX5_test 9 "WokenYears" D (tysC cI cR) 74 ad (some .int)) {a4 : Int32} {k93 : Int32 → Int32 → Option (Int32 × Sg)} {σ : Sg} (r : Int32) (σo : Sg)  (hk93 : ∀ (u5 : Int32) (u6 : Int32), k93 u5 u6 = some (r, σo) → Jd p l e (rmF 5 127) s m args below meth c D 74 ad (celC cI cR ad) okC 9 (MQ below (QI D (tysC cI cR) 74 ad (celC cI cR ad) okC r σo) args s 0 0 (inA 74 ad)) 93 [(0, .ref (ad 0)), (5, .int u5), (6, .int u6)] [] σ) : ∀ (n : Nat) (x5 : Int32) (x6 : Int32) (x7 : Int32), l_X5_test_55 a4 σ k93 n x5 x6 x7 = some (r, σo) → Jd p l e (rmF 5 127) s m args below meth c D 74 ad (celC cI cR ad) okC 9 (MQ below (QI D (tysC cI cR) 74 ad (celC cI cR ad) okC r σo) args s 0 0 (inA 74 ad)) 55 [(0, .ref (ad 0)), (4, .int a4), (5, .int x5), (6, .int x6), (7, .int x7)] [] σ := by
  intro n
  induction n with
  | zero => intro x5 x6 x7 h; cases h
  | succ n ih =>
    intro x5 x6 x7 h
    unfold l_X5_test_55 at h
    refine J_iload (q := 57) C dX5_test_55 rfl 4 rfl ?_
    refine J_bipush (v := 99) (q := 59) C dX5_test_57 rfl rfl ?_
    refine J_icmp_gt (tgt := 93) (q := 62) C dX5_test_59 rfl (by decide) h (fun _ h => ?_) (fun _ h => ?_)
    · refine J_sub [0, 2, 3] rfl ?_
      exact hk93 _ _ h
    · refine J_aload_n (q := 63) C dX5_test_62 rfl rfl 0 rfl ?_
      refine J_iload (q := 65) C dX5_test_63 rfl 1 rfl ?_
      refine J_iload (q := 67) C dX5_test_65 rfl 4 rfl ?_
      obtain ⟨r6, ec6, h⟩ := bnd_of h
      refine J_callIV (q := 70) (As := [.int a4, .int x7]) C (c_X5_greatestPart hap  ec6) ok_X5_greatestPart kM_X5_252 (by decide) rfl rfl rfl rfl rfl rfl ⟨Nat.le_of_ble_eq_true rfl, Nat.le_of_ble_eq_true rfl⟩ (Nat.le_of_ble_eq_true rfl) dX5_test_67 rfl ?_
      refine J_istore (q := 72) C dX5_test_70 rfl (by decide) rfl ?_
      refine J_iload (q := 74) C dX5_test_72 rfl 0 rfl ?_
      refine J_iload (q := 76) C dX5_test_74 rfl 4 rfl ?_
      refine jn_elim h (fun k87 ek87 h => ?_)
      have hk87 : ∀ (u5_87 : Int32) (u6_87 : Int32), k87 u5_87 u6_87 = some (r, σo) → Jd p l e (rmF 5 127) s m args below meth c D 74 ad (celC cI cR ad) okC 9 (MQ below (QI D (tysC cI cR) 74 ad (celC cI cR ad) okC r σo) args s 0 0 (inA 74 ad)) 87 [(0, .ref (ad 0)), (4, .int a4), (5, .int u5_87), (6, .int u6_87), (7, .int x7)] [] σ := by
        intro u5_87 u6_87 h
        rw [ek87] at h
        refine jn_elim h (fun y7 ey7 h => ?_)
        refine J_iinc (v := y7) (q := 90) C dX5_test_87 rfl 4 rfl (by rw [ey7]; rfl) (by decide) rfl ?_
        refine J_goto (tgt := 55) C dX5_test_90 (by decide) ?_
        refine J_sub [1, 2, 3, 4, 0] rfl ?_
        exact ih _ _ _ h
      refine J_icmp_ge (tgt := 87) (q := 79) C dX5_test_76 rfl (by decide) h (fun _ h => ?_) (fun _ h => ?_)
      · refine J_sub [1, 2, 3, 4, 5] rfl ?_
        exact hk87 _ _ h
      · refine J_iload (q := 81) C dX5_test_79 rfl 0 rfl ?_
        refine J_istore (q := 83) C dX5_test_81 rfl (by decide) rfl ?_
        refine J_iload (q := 85) C dX5_test_83 rfl 5 rfl ?_
        refine J_istore (q := 87) C dX5_test_85 rfl (by decide) rfl ?_
        refine J_sub [3, 4, 0, 1, 5] rfl ?_
        exact hk87 _ _ h
set_option maxHeartbeats 4000000 in
set_option maxRecDepth 100000 in
theorem c_X5_test {l : Launch} {D : va_G} {cI cR : ClassId} {ad : Nat → Nat} (hap : apN 74 ad) {i1 : Int32} {σ : Sg} {r : Int32} {σo : Sg}  (h : f_X5_test i1 σ = some (r, σo)) : MI l D (tysC cI cR) 74 ad (celC cI cR ad) okC yX5_test cX5_test 9 .int 5 127 [.ref (ad 0), .int i1] σ r σo := by
  unfold f_X5_test at h
  refine entI "WokenYears" hap (by decide +kernel) rfl (Nat.le_of_ble_eq_true rfl) (fun p e s m args below meth c C => ?_)
  refine J_sub (lv' := [(0, .ref (ad 0)), (1, .int i1)]) [0, 1] rfl ?_
  refine J_aload_n (q := 1) C dX5_test_0 rfl rfl 0 rfl ?_
  refine JC_g_X5_rows (q := 4) C kF_X5_13 dX5_test_1 rfl ?_
  refine J_iload_n (q := 5) C dX5_test_4 rfl rfl 1 rfl ?_
  obtain ⟨r1, ec1, h⟩ := bnd_of h
  refine J_callRS (q := 8) (As := [.ref (ad 71), .int i1]) C (c_X5_pick hap isRA_71 ec1) ok_X5_pick kM_X5_99 rfl rfl rfl ⟨Nat.le_of_ble_eq_true rfl, Nat.le_of_ble_eq_true rfl⟩ (Nat.le_of_ble_eq_true rfl) dX5_test_5 rfl ?_
  cases r1 with
  | none =>
    have h := oc_none h
    refine J_st (st' := [.null]) rfl ?_
    refine J_astore_nN (q := 9) C dX5_test_8 rfl rfl (by decide) rfl ?_
    refine J_aload_n (q := 10) C dX5_test_9 rfl rfl 1 rfl ?_
    refine J_aload_nN (q := 11) C dX5_test_10 rfl rfl 0 rfl ?_
    obtain ⟨r2, σ2, ec2, h⟩ := bnd2_of h
    refine J_callIV (q := 14) (As := [.null]) C (c_X5_refusedPairs hap noneI ec2) ok_X5_refusedPairs kM_X5_246 (by decide) rfl rfl rfl rfl rfl rfl ⟨Nat.le_of_ble_eq_true rfl, Nat.le_of_ble_eq_true rfl⟩ (Nat.le_of_ble_eq_true rfl) dX5_test_11 rfl ?_
    refine J_istore_n (q := 15) C dX5_test_14 rfl rfl (by decide) rfl ?_
    refine J_aload_nN (q := 16) C dX5_test_15 rfl rfl 1 rfl ?_
    refine J_ifnullN (tgt := 23) C dX5_test_16 (by decide) ?_
    refine J_iload_n (q := 24) C dX5_test_23 rfl rfl 0 rfl ?_
    obtain ⟨rfl, rfl⟩ := Prod.mk.inj (Option.some.inj h)
    exact J_iret C dX5_test_24
  | some g1 =>
    have h := oc_some h
    have ho1 := X5_pick_isI isRA_71 ec1
    refine J_st (st' := [.ref (ad g1)]) rfl ?_
    refine J_astore_n (q := 9) C dX5_test_8 rfl rfl (by decide) rfl ?_
    refine J_aload_n (q := 10) C dX5_test_9 rfl rfl 1 rfl ?_
    refine J_aload_n (q := 11) C dX5_test_10 rfl rfl 0 rfl ?_
    obtain ⟨r3, σ3, ec3, h⟩ := bnd2_of h
    refine J_callIV (q := 14) (As := [.ref (ad g1)]) C (c_X5_refusedPairs hap (someI ho1) ec3) ok_X5_refusedPairs kM_X5_246 (by decide) rfl rfl rfl rfl rfl rfl ⟨Nat.le_of_ble_eq_true rfl, Nat.le_of_ble_eq_true rfl⟩ (Nat.le_of_ble_eq_true rfl) dX5_test_11 rfl ?_
    refine J_istore_n (q := 15) C dX5_test_14 rfl rfl (by decide) rfl ?_
    refine J_aload_n (q := 16) C dX5_test_15 rfl rfl 1 rfl ?_
    refine J_ifnull (q := 19) C dX5_test_16 rfl ?_
    refine J_iload_n (q := 20) C dX5_test_19 rfl rfl 0 rfl ?_
    refine J_if_eq (tgt := 25) (q := 23) C dX5_test_20 rfl (by decide) h (fun _ h => ?_) (fun _ h => ?_)
    · refine J_aload_n (q := 26) C dX5_test_25 rfl rfl 2 rfl ?_
      refine J_aload_n (q := 27) C dX5_test_26 rfl rfl 1 rfl ?_
      obtain ⟨r4, ec4, h⟩ := bnd_of h
      refine J_callIV (q := 30) (As := [.ref (ad g1)]) C (c_X5_kindsBy hap ho1 ec4) ok_X5_kindsBy kM_X5_249 (by decide) rfl rfl rfl rfl rfl rfl ⟨Nat.le_of_ble_eq_true rfl, Nat.le_of_ble_eq_true rfl⟩ (Nat.le_of_ble_eq_true rfl) dX5_test_27 rfl ?_
      refine J_istore (q := 32) C dX5_test_30 rfl (by decide) rfl ?_
      refine J_iload (q := 34) C dX5_test_32 rfl 0 rfl ?_
      refine J_if_ne (tgt := 40) (q := 37) C dX5_test_34 rfl (by decide) h (fun _ h => ?_) (fun _ h => ?_)
      · refine J_bipush (v := -9) (q := 39) C dX5_test_37 rfl rfl ?_
        obtain ⟨rfl, rfl⟩ := Prod.mk.inj (Option.some.inj h)
        exact J_iret C dX5_test_39
      · refine J_iconst (v := 0 ) (q := 41) C dX5_test_40 rfl rfl ?_
        refine J_istore (q := 43) C dX5_test_41 rfl (by decide) rfl ?_
        refine J_aload_n (q := 44) C dX5_test_43 rfl rfl 4 rfl ?_
        refine J_iload (q := 46) C dX5_test_44 rfl 1 rfl ?_
        refine J_iconst (v := 0 ) (q := 47) C dX5_test_46 rfl rfl ?_
        obtain ⟨r5, ec5, h⟩ := bnd_of h
        refine J_callIV (q := 50) (As := [.int r4, .int (0 : Int32)]) C (c_X5_greatestPart hap  ec5) ok_X5_greatestPart kM_X5_252 (by decide) rfl rfl rfl rfl rfl rfl ⟨Nat.le_of_ble_eq_true rfl, Nat.le_of_ble_eq_true rfl⟩ (Nat.le_of_ble_eq_true rfl) dX5_test_47 rfl ?_
        refine J_istore (q := 52) C dX5_test_50 rfl (by decide) rfl ?_
        refine J_iconst (v := 1 ) (q := 53) C dX5_test_52 rfl rfl ?_
        refine J_istore (q := 55) C dX5_test_53 rfl (by decide) rfl ?_
        refine J_sub [6, 3, 2, 1, 0] rfl ?_
        refine cl_X5_test_55 hap C r σo  (fun v5_93 v6_93 h => ?_) FU _ _ _ h
        · refine J_aload_n (q := 94) C dX5_test_93 rfl rfl 0 rfl ?_
          refine J_iload (q := 96) C dX5_test_94 rfl 2 rfl ?_
          refine JC_p_X5_asked (q := 99) C kF_X5_107 dX5_test_96 rfl ?_
          refine jn_elim h (fun σ8 eσ8 h => ?_)
          rw [← eσ8]
          refine J_iload (q := 101) C dX5_test_99 rfl 1 rfl ?_
          obtain ⟨rfl, rfl⟩ := Prod.mk.inj (Option.some.inj h)
          exact J_iret C dX5_test_101
    · refine J_iload_n (q := 24) C dX5_test_23 rfl rfl 0 rfl ?_
      obtain ⟨rfl, rfl⟩ := Prod.mk.inj (Option.some.inj h)
      exact J_iret C dX5_test_24
