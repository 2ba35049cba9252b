set_option maxHeartbeats 4000000 in
set_option maxRecDepth 100000 in
theorem c_X2_sign {l : Launch} {D : va_G} {cI cR : ClassId} {ad : Nat → Nat} (hap : apN 77 ad)  {σ : Sg} {r : Int32}  (h : f_X2_sign σ = some r) : MI l D (tysC cI cR) 77 ad (celC cI cR ad) okC yX2_sign cX2_sign 1 .int 2 51 [.ref (ad 1)] σ r σ := by
  unfold f_X2_sign at h
  refine entI "WokenYears$Reader" hap (by decide +kernel) rfl (Nat.le_of_ble_eq_true rfl) (fun p e s m args below meth c C => ?_)
  refine J_sub (lv' := [(0, .ref (ad 1))]) [0] rfl ?_
  refine J_aload_n (q := 1) C dX2_sign_0 rfl rfl 0 rfl ?_
  refine JC_g_X2_text (q := 4) C kF_X2_9 dX2_sign_1 rfl (fun hok => ?_)
  rcases okC_tx hok with etx | ⟨g1, etx, hog1⟩
  · have h := oc_n etx h
    refine J_st (st' := [.null]) (by rw [etx]; rfl) ?_
    refine J_ifnonnullN (q := 7) C dX2_sign_4 rfl ?_
    refine J_iconst (v := 0 ) (q := 8) C dX2_sign_7 rfl rfl ?_
    refine J_goto (tgt := 22) C dX2_sign_8 (by decide) ?_
    obtain rfl := Option.some.inj h
    exact J_iret C dX2_sign_22
  · have h := oc_s etx h
    refine J_st (st' := [.ref (ad g1)]) (by rw [etx]; rfl) ?_
    refine J_ifnonnull (tgt := 11) C dX2_sign_4 (by decide) ?_
    refine J_aload_n (q := 12) C dX2_sign_11 rfl rfl 0 rfl ?_
    refine JC_g_X2_text (q := 15) C kF_X2_9 dX2_sign_12 rfl (fun hok => ?_)
    rcases okC_tx hok with etx | ⟨g2, etx, hog2⟩
    · have h := oc_n etx h
      refine J_st (st' := [.null]) (by rw [etx]; rfl) ?_
      refine J_aload_n (q := 16) C dX2_sign_15 rfl rfl 0 rfl ?_
      refine JC_g_X2_place (q := 19) C kF_X2_15 dX2_sign_16 rfl ?_
      cases h
    · have h := oc_s etx h
      refine J_st (st' := [.ref (ad g2)]) (by rw [etx]; rfl) ?_
      refine J_aload_n (q := 16) C dX2_sign_15 rfl rfl 0 rfl ?_
      refine JC_g_X2_place (q := 19) C kF_X2_15 dX2_sign_16 rfl ?_
      obtain ⟨r3, ec3, h⟩ := bnd_of h
      refine J_callIV (q := 22) (As := [.int (gS σ 17)]) C (c_X0_get hap hog2 ec3) ok_X0_get kM_X2_65 (lt77I hog2) (celC_I hog2) rfl rfl rfl rfl rfl ⟨Nat.le_of_ble_eq_true rfl, Nat.le_of_ble_eq_true rfl⟩ (Nat.le_of_ble_eq_true rfl) dX2_sign_19 rfl ?_
      obtain rfl := Option.some.inj h
      exact J_iret C dX2_sign_22
set_option maxHeartbeats 4000000 in
set_option maxRecDepth 100000 in
theorem c_X2_figure {l : Launch} {D : va_G} {cI cR : ClassId} {ad : Nat → Nat} (hap : apN 77 ad) {i1 : Int32} {σ : Sg} {r : Int32} {σo : Sg}  (h : f_X2_figure i1 σ = some (r, σo)) : MI l D (tysC cI cR) 77 ad (celC cI cR ad) okC yX2_figure cX2_figure 3 .int 3 71 [.ref (ad 1), .int i1] σ r σo := by
  unfold f_X2_figure at h
  refine entI "WokenYears$Reader" hap (by decide +kernel) rfl (Nat.le_of_ble_eq_true rfl) (fun p e s m args below meth c C => ?_)
  refine J_sub (lv' := [(0, .ref (ad 1)), (1, .int i1)]) [0, 1] rfl ?_
  refine J_aload_n (q := 1) C dX2_figure_0 rfl rfl 0 rfl ?_
  obtain ⟨r1, ec1, h⟩ := bnd_of h
  refine J_callIV (q := 4) (As := []) C (c_X2_sign hap  ec1) ok_X2_sign kM_X2_53 (by decide) rfl rfl rfl rfl rfl rfl ⟨Nat.le_of_ble_eq_true rfl, Nat.le_of_ble_eq_true rfl⟩ (Nat.le_of_ble_eq_true rfl) dX2_figure_1 rfl ?_
  refine J_bipush (v := 48) (q := 6) C dX2_figure_4 rfl rfl ?_
  refine J_isub (q := 7) C dX2_figure_6 rfl ?_
  refine J_nmi h (fun y2 ey2 h => ?_)
  refine J_istore_n (q := 8) C dX2_figure_7 rfl rfl (by decide) rfl ?_
  refine J_aload_n (q := 9) C dX2_figure_8 rfl rfl 1 rfl ?_
  refine J_aload_n (q := 10) C dX2_figure_9 rfl rfl 1 rfl ?_
  refine JC_g_X2_good (q := 13) C kF_X2_19 dX2_figure_10 rfl ?_
  refine jn_elim h (fun k30 ek30 h => ?_)
  have hk30 : ∀ (t0_30 : Bool), k30 t0_30 = some (r, σo) → Jd p l e (rmF 3 71) s m args below meth c D 77 ad (celC cI cR ad) okC 3 (MQ below (QI D (tysC cI cR) 77 ad (celC cI cR ad) okC r σo) args s 0 0 (inA 77 ad)) 30 [(0, .ref (ad 1)), (2, .int y2)] [.int (b2i t0_30), .ref (ad 1)] σ := by
    intro t0_30 h
    rw [ek30] at h
    refine JC_p_X2_good (v := t0_30) (q := 33) C kF_X2_19 dX2_figure_30 rfl ?_
    refine jn_elim h (fun σ3 eσ3 h => ?_)
    rw [← eσ3]
    refine J_aload_n (q := 34) C dX2_figure_33 rfl rfl 0 rfl ?_
    refine J_dup (q := 35) C dX2_figure_34 rfl rfl ?_
    refine JC_g_X2_place (q := 38) C kF_X2_15 dX2_figure_35 rfl ?_
    refine J_aload_n (q := 39) C dX2_figure_38 rfl rfl 0 rfl ?_
    refine JC_g_X2_good (q := 42) C kF_X2_19 dX2_figure_39 rfl ?_
    refine jn_elim h (fun k50 ek50 h => ?_)
    have hk50 : ∀ (t0_50 : Bool), k50 t0_50 = some (r, σo) → Jd p l e (rmF 3 71) s m args below meth c D 77 ad (celC cI cR ad) okC 3 (MQ below (QI D (tysC cI cR) 77 ad (celC cI cR ad) okC r σo) args s 0 0 (inA 77 ad)) 50 [(0, .ref (ad 1)), (2, .int y2)] [.int (b2i t0_50), .int (gS σ3 17), .ref (ad 1)] σ3 := by
      intro t0_50 h
      rw [ek50] at h
      refine J_iadd (q := 51) C dX2_figure_50 rfl ?_
      refine JC_p_X2_place (q := 54) C kF_X2_15 dX2_figure_51 rfl ?_
      refine jn_elim h (fun σ4 eσ4 h => ?_)
      rw [← eσ4]
      refine J_aload_n (q := 55) C dX2_figure_54 rfl rfl 0 rfl ?_
      refine JC_g_X2_good (q := 58) C kF_X2_19 dX2_figure_55 rfl ?_
      refine J_if_eq (tgt := 65) (q := 61) C dX2_figure_58 rfl (by decide) h (fun _ h => ?_) (fun _ h => ?_)
      · refine J_iconst (v := 0 ) (q := 66) C dX2_figure_65 rfl rfl ?_
        obtain ⟨rfl, rfl⟩ := Prod.mk.inj (Option.some.inj h)
        exact J_iret C dX2_figure_66
      · refine J_iload_n (q := 62) C dX2_figure_61 rfl rfl 1 rfl ?_
        refine J_goto (tgt := 66) C dX2_figure_62 (by decide) ?_
        obtain ⟨rfl, rfl⟩ := Prod.mk.inj (Option.some.inj h)
        exact J_iret C dX2_figure_66
    refine J_if_eq (tgt := 49) (q := 45) C dX2_figure_42 rfl (by decide) h (fun _ h => ?_) (fun _ h => ?_)
    · refine J_iconst (v := 0 ) (q := 50) C dX2_figure_49 rfl rfl ?_
      exact hk50 _ h
    · refine J_iconst (v := 1 ) (q := 46) C dX2_figure_45 rfl rfl ?_
      refine J_goto (tgt := 50) C dX2_figure_46 (by decide) ?_
      exact hk50 _ h
  refine jn_elim h (fun k29 ek29 h => ?_)
  have hk29 : k29 = some (r, σo) → Jd p l e (rmF 3 71) s m args below meth c D 77 ad (celC cI cR ad) okC 3 (MQ below (QI D (tysC cI cR) 77 ad (celC cI cR ad) okC r σo) args s 0 0 (inA 77 ad)) 29 [(0, .ref (ad 1)), (2, .int y2)] [.ref (ad 1)] σ := by
    intro  h
    rw [ek29] at h
    refine J_iconst (v := 0 ) (q := 30) C dX2_figure_29 rfl rfl ?_
    exact hk30 _ h
  refine J_if_eq (tgt := 29) (q := 16) C dX2_figure_13 rfl (by decide) h (fun _ h => ?_) (fun _ h => ?_)
  · refine J_sub [1, 0] rfl ?_
    exact hk29 h
  · refine J_iload_n (q := 17) C dX2_figure_16 rfl rfl 0 rfl ?_
    refine J_if_lt (tgt := 29) (q := 20) C dX2_figure_17 rfl (by decide) h (fun _ h => ?_) (fun _ h => ?_)
    · refine J_sub [1, 0] rfl ?_
      exact hk29 h
    · refine J_iload_n (q := 21) C dX2_figure_20 rfl rfl 0 rfl ?_
      refine J_iload_n (q := 22) C dX2_figure_21 rfl rfl 2 rfl ?_
      refine J_icmp_gt (tgt := 29) (q := 25) C dX2_figure_22 rfl (by decide) h (fun _ h => ?_) (fun _ h => ?_)
      · refine J_sub [1, 0] rfl ?_
        exact hk29 h
      · refine J_iconst (v := 1 ) (q := 26) C dX2_figure_25 rfl rfl ?_
        refine J_goto (tgt := 30) C dX2_figure_26 (by decide) ?_
        refine J_sub [1, 0] rfl ?_
        exact hk30 _ h
set_option maxHeartbeats 4000000 in
set_option maxRecDepth 100000 in
theorem c_X2_letter {l : Launch} {D : va_G} {cI cR : ClassId} {ad : Nat → Nat} (hap : apN 77 ad) {i1 : Int32} {σ : Sg} {σo : Sg}  (h : f_X2_letter i1 σ = some σo) : MV l D (tysC cI cR) 77 ad (celC cI cR ad) okC yX2_letter cX2_letter 2 3 71 [.ref (ad 1), .int i1] σ σo := by
  unfold f_X2_letter at h
  refine entV "WokenYears$Reader" hap (by decide +kernel) rfl (Nat.le_of_ble_eq_true rfl) (fun p e s m args below meth c C => ?_)
  refine J_sub (lv' := [(0, .ref (ad 1)), (1, .int i1)]) [0, 1] rfl ?_
  refine J_aload_n (q := 1) C dX2_letter_0 rfl rfl 0 rfl ?_
  refine J_aload_n (q := 2) C dX2_letter_1 rfl rfl 0 rfl ?_
  refine JC_g_X2_good (q := 5) C kF_X2_19 dX2_letter_2 rfl ?_
  refine jn_elim h (fun k21 ek21 h => ?_)
  have hk21 : ∀ (t0_21 : Bool), k21 t0_21 = some σo → Jd p l e (rmF 3 71) s m args below meth c D 77 ad (celC cI cR ad) okC 2 (MQ below (QV D (tysC cI cR) 77 ad (celC cI cR ad) okC σo) args s 0 0 (inA 77 ad)) 21 [(0, .ref (ad 1))] [.int (b2i t0_21), .ref (ad 1)] σ := by
    intro t0_21 h
    rw [ek21] at h
    refine JC_p_X2_good (v := t0_21) (q := 24) C kF_X2_19 dX2_letter_21 rfl ?_
    refine jn_elim h (fun σ1 eσ1 h => ?_)
    rw [← eσ1]
    refine J_aload_n (q := 25) C dX2_letter_24 rfl rfl 0 rfl ?_
    refine J_dup (q := 26) C dX2_letter_25 rfl rfl ?_
    refine JC_g_X2_place (q := 29) C kF_X2_15 dX2_letter_26 rfl ?_
    refine J_aload_n (q := 30) C dX2_letter_29 rfl rfl 0 rfl ?_
    refine JC_g_X2_good (q := 33) C kF_X2_19 dX2_letter_30 rfl ?_
    refine J_if_eq (tgt := 40) (q := 36) C dX2_letter_33 rfl (by decide) h (fun _ h => ?_) (fun _ h => ?_)
    · refine J_iconst (v := 0 ) (q := 41) C dX2_letter_40 rfl rfl ?_
      refine J_iadd (q := 42) C dX2_letter_41 rfl ?_
      refine JC_p_X2_place (q := 45) C kF_X2_15 dX2_letter_42 rfl ?_
      refine jn_elim h (fun σ2 eσ2 h => ?_)
      rw [← eσ2]
      obtain rfl := Option.some.inj h
      exact J_vret C dX2_letter_45
    · refine J_iconst (v := 1 ) (q := 37) C dX2_letter_36 rfl rfl ?_
      refine J_goto (tgt := 41) C dX2_letter_37 (by decide) ?_
      refine J_iadd (q := 42) C dX2_letter_41 rfl ?_
      refine JC_p_X2_place (q := 45) C kF_X2_15 dX2_letter_42 rfl ?_
      refine jn_elim h (fun σ3 eσ3 h => ?_)
      rw [← eσ3]
      obtain rfl := Option.some.inj h
      exact J_vret C dX2_letter_45
  refine jn_elim h (fun k20 ek20 h => ?_)
  have hk20 : k20 = some σo → Jd p l e (rmF 3 71) s m args below meth c D 77 ad (celC cI cR ad) okC 2 (MQ below (QV D (tysC cI cR) 77 ad (celC cI cR ad) okC σo) args s 0 0 (inA 77 ad)) 20 [(0, .ref (ad 1))] [.ref (ad 1)] σ := by
    intro  h
    rw [ek20] at h
    refine J_iconst (v := 0 ) (q := 21) C dX2_letter_20 rfl rfl ?_
    exact hk21 _ h
  refine J_if_eq (tgt := 20) (q := 8) C dX2_letter_5 rfl (by decide) h (fun _ h => ?_) (fun _ h => ?_)
  · refine J_sub [0] rfl ?_
    exact hk20 h
  · refine J_aload_n (q := 9) C dX2_letter_8 rfl rfl 0 rfl ?_
    obtain ⟨r4, ec4, h⟩ := bnd_of h
    refine J_callIV (q := 12) (As := []) C (c_X2_sign hap  ec4) ok_X2_sign kM_X2_53 (by decide) rfl rfl rfl rfl rfl rfl ⟨Nat.le_of_ble_eq_true rfl, Nat.le_of_ble_eq_true rfl⟩ (Nat.le_of_ble_eq_true rfl) dX2_letter_9 rfl ?_
    refine J_iload_n (q := 13) C dX2_letter_12 rfl rfl 1 rfl ?_
    refine J_icmp_ne (tgt := 20) (q := 16) C dX2_letter_13 rfl (by decide) h (fun _ h => ?_) (fun _ h => ?_)
    · refine J_iconst (v := 1 ) (q := 17) C dX2_letter_16 rfl rfl ?_
      refine J_goto (tgt := 21) C dX2_letter_17 (by decide) ?_
      refine J_sub [0] rfl ?_
      exact hk21 _ h
    · refine J_sub [0] rfl ?_
      exact hk20 h
set_option maxHeartbeats 4000000 in
set_option maxRecDepth 100000 in
theorem c_X2_twoFigures {l : Launch} {D : va_G} {cI cR : ClassId} {ad : Nat → Nat} (hap : apN 77 ad)  {σ : Sg} {r : Int32} {σo : Sg}  (h : f_X2_twoFigures σ = some (r, σo)) : MI l D (tysC cI cR) 77 ad (celC cI cR ad) okC yX2_twoFigures cX2_twoFigures 2 .int 4 93 [.ref (ad 1)] σ r σo := by
  unfold f_X2_twoFigures at h
  refine entI "WokenYears$Reader" hap (by decide +kernel) rfl (Nat.le_of_ble_eq_true rfl) (fun p e s m args below meth c C => ?_)
  refine J_sub (lv' := [(0, .ref (ad 1))]) [0] rfl ?_
  refine J_aload_n (q := 1) C dX2_twoFigures_0 rfl rfl 0 rfl ?_
  refine J_bipush (v := 9) (q := 3) C dX2_twoFigures_1 rfl rfl ?_
  obtain ⟨r1, σ1, ec1, h⟩ := bnd2_of h
  refine J_callIV (q := 6) (As := [.int (9 : Int32)]) C (c_X2_figure hap  ec1) ok_X2_figure kM_X2_30 (by decide) rfl rfl rfl rfl rfl rfl ⟨Nat.le_of_ble_eq_true rfl, Nat.le_of_ble_eq_true rfl⟩ (Nat.le_of_ble_eq_true rfl) dX2_twoFigures_3 rfl ?_
  refine J_istore_n (q := 7) C dX2_twoFigures_6 rfl rfl (by decide) rfl ?_
  refine J_bipush (v := 10) (q := 9) C dX2_twoFigures_7 rfl rfl ?_
  refine J_iload_n (q := 10) C dX2_twoFigures_9 rfl rfl 0 rfl ?_
  refine J_imul (q := 11) C dX2_twoFigures_10 rfl ?_
  refine J_aload_n (q := 12) C dX2_twoFigures_11 rfl rfl 1 rfl ?_
  refine J_bipush (v := 9) (q := 14) C dX2_twoFigures_12 rfl rfl ?_
  obtain ⟨r2, σ2, ec2, h⟩ := bnd2_of h
  refine J_callIV (q := 17) (As := [.int (9 : Int32)]) C (c_X2_figure hap  ec2) ok_X2_figure kM_X2_30 (by decide) rfl rfl rfl rfl rfl rfl ⟨Nat.le_of_ble_eq_true rfl, Nat.le_of_ble_eq_true rfl⟩ (Nat.le_of_ble_eq_true rfl) dX2_twoFigures_14 rfl ?_
  refine J_iadd (q := 18) C dX2_twoFigures_17 rfl ?_
  obtain ⟨rfl, rfl⟩ := Prod.mk.inj (Option.some.inj h)
  exact J_iret C dX2_twoFigures_18
set_option maxHeartbeats 4000000 in
set_option maxRecDepth 100000 in
theorem c_X4_build {l : Launch} {D : va_G} {cI cR : ClassId} {ad : Nat → Nat} (hap : apN 77 ad) {g0 : Nat} {i1 : Int32} {i2 : Int32} {i3 : Int32} {σ : Sg} {σo : Sg} (ho0 : isS g0) (h : f_X4_build g0 i1 i2 i3 σ = some σo) : MV l D (tysC cI cR) 77 ad (celC cI cR ad) okC yX4_build cX4_build 4 2 51 [.ref (ad g0), .int i1, .int i2, .int i3] σ σo := by
  unfold f_X4_build at h
  refine entV "WokenYears$Street" hap (by decide +kernel) rfl (Nat.le_of_ble_eq_true rfl) (fun p e s m args below meth c C => ?_)
  refine J_sub (lv' := [(0, .ref (ad g0)), (1, .int i1), (2, .int i2), (3, .int i3)]) [0, 1, 2, 3] rfl ?_
  refine J_aload_n (q := 1) C dX4_build_0 rfl rfl 0 rfl ?_
  refine JC_g_X4_kinds (q := 4) C ho0 kF_X4_14 dX4_build_1 rfl ?_
  refine J_iload_n (q := 5) C dX4_build_4 rfl rfl 1 rfl ?_
  obtain ⟨σ1, ec1, h⟩ := bnd_of h
  refine J_callXV (q := 8) (As := [.int i1]) C (c_X0_add hap (isI_st ho0 0 (by decide)) ec1) ok_X0_add kM_X4_52 (lt77I (isI_st ho0 0 (by decide))) (celC_I (isI_st ho0 0 (by decide))) rfl rfl rfl rfl rfl ⟨Nat.le_of_ble_eq_true rfl, Nat.le_of_ble_eq_true rfl⟩ (Nat.le_of_ble_eq_true rfl) dX4_build_5 rfl ?_
  refine J_aload_n (q := 9) C dX4_build_8 rfl rfl 0 rfl ?_
  refine JC_g_X4_firstDates (q := 12) C ho0 kF_X4_23 dX4_build_9 rfl ?_
  refine J_iload_n (q := 13) C dX4_build_12 rfl rfl 2 rfl ?_
  obtain ⟨σ2, ec2, h⟩ := bnd_of h
  refine J_callXV (q := 16) (As := [.int i2]) C (c_X0_add hap (isI_st ho0 2 (by decide)) ec2) ok_X0_add kM_X4_52 (lt77I (isI_st ho0 2 (by decide))) (celC_I (isI_st ho0 2 (by decide))) rfl rfl rfl rfl rfl ⟨Nat.le_of_ble_eq_true rfl, Nat.le_of_ble_eq_true rfl⟩ (Nat.le_of_ble_eq_true rfl) dX4_build_13 rfl ?_
  refine J_aload_n (q := 17) C dX4_build_16 rfl rfl 0 rfl ?_
  refine JC_g_X4_wants (q := 20) C ho0 kF_X4_20 dX4_build_17 rfl ?_
  refine J_iload_n (q := 21) C dX4_build_20 rfl rfl 3 rfl ?_
  obtain ⟨σ3, ec3, h⟩ := bnd_of h
  refine J_callXV (q := 24) (As := [.int i3]) C (c_X0_add hap (isI_st ho0 1 (by decide)) ec3) ok_X0_add kM_X4_52 (lt77I (isI_st ho0 1 (by decide))) (celC_I (isI_st ho0 1 (by decide))) rfl rfl rfl rfl rfl ⟨Nat.le_of_ble_eq_true rfl, Nat.le_of_ble_eq_true rfl⟩ (Nat.le_of_ble_eq_true rfl) dX4_build_21 rfl ?_
  refine J_aload_n (q := 25) C dX4_build_24 rfl rfl 0 rfl ?_
  refine J_aload_n (q := 26) C dX4_build_25 rfl rfl 0 rfl ?_
  refine JC_g_X4_kinds (q := 29) C ho0 kF_X4_14 dX4_build_26 rfl ?_
  refine JC_g_X0_size (q := 32) C (isI_st ho0 0 (by decide)) kF_X4_55 dX4_build_29 rfl ?_
  refine JC_p_X4_size (q := 35) C ho0 kF_X4_42 dX4_build_32 rfl ?_
  refine jn_elim h (fun σ4 eσ4 h => ?_)
  rw [← eσ4]
  obtain rfl := Option.some.inj h
  exact J_vret C dX4_build_35
set_option maxHeartbeats 4000000 in
set_option maxRecDepth 100000 in
theorem c_X2_readHouse {l : Launch} {D : va_G} {cI cR : ClassId} {ad : Nat → Nat} (hap : apN 77 ad) {g1 : Nat} {σ : Sg} {σo : Sg} (ho1 : isS g1) (h : f_X2_readHouse g1 σ = some σo) : MV l D (tysC cI cR) 77 ad (celC cI cR ad) okC yX2_readHouse cX2_readHouse 5 5 114 [.ref (ad 1), .ref (ad g1)] σ σo := by
  unfold f_X2_readHouse at h
  refine entV "WokenYears$Reader" hap (by decide +kernel) rfl (Nat.le_of_ble_eq_true rfl) (fun p e s m args below meth c C => ?_)
  refine J_sub (lv' := [(0, .ref (ad 1)), (1, .ref (ad g1))]) [0, 1] rfl ?_
  refine J_aload_n (q := 1) C dX2_readHouse_0 rfl rfl 0 rfl ?_
  obtain ⟨r1, ec1, h⟩ := bnd_of h
  refine J_callIV (q := 4) (As := []) C (c_X2_sign hap  ec1) ok_X2_sign kM_X2_53 (by decide) rfl rfl rfl rfl rfl rfl ⟨Nat.le_of_ble_eq_true rfl, Nat.le_of_ble_eq_true rfl⟩ (Nat.le_of_ble_eq_true rfl) dX2_readHouse_1 rfl ?_
  obtain ⟨r2, ec2, h⟩ := bnd_of h
  refine J_callIS (q := 7) (As := [.int r1]) C (c_X1_byLetter hap  ec2) ok_X1_byLetter kM_X2_56 rfl rfl rfl ⟨Nat.le_of_ble_eq_true rfl, Nat.le_of_ble_eq_true rfl⟩ (Nat.le_of_ble_eq_true rfl) dX2_readHouse_4 rfl ?_
  refine J_istore_n (q := 8) C dX2_readHouse_7 rfl rfl (by decide) rfl ?_
  refine J_aload_n (q := 9) C dX2_readHouse_8 rfl rfl 1 rfl ?_
  refine J_aload_n (q := 10) C dX2_readHouse_9 rfl rfl 1 rfl ?_
  refine JC_g_X2_good (q := 13) C kF_X2_19 dX2_readHouse_10 rfl ?_
  refine jn_elim h (fun k27 ek27 h => ?_)
  have hk27 : ∀ (t0_27 : Bool), k27 t0_27 = some σo → Jd p l e (rmF 5 114) s m args below meth c D 77 ad (celC cI cR ad) okC 5 (MQ below (QV D (tysC cI cR) 77 ad (celC cI cR ad) okC σo) args s 0 0 (inA 77 ad)) 27 [(0, .ref (ad 1)), (1, .ref (ad g1)), (2, .int r2)] [.int (b2i t0_27), .ref (ad 1)] σ := by
    intro t0_27 h
    rw [ek27] at h
    refine JC_p_X2_good (v := t0_27) (q := 30) C kF_X2_19 dX2_readHouse_27 rfl ?_
    refine jn_elim h (fun σ3 eσ3 h => ?_)
    rw [← eσ3]
    refine J_aload_n (q := 31) C dX2_readHouse_30 rfl rfl 0 rfl ?_
    refine J_dup (q := 32) C dX2_readHouse_31 rfl rfl ?_
    refine JC_g_X2_place (q := 35) C kF_X2_15 dX2_readHouse_32 rfl ?_
    refine J_aload_n (q := 36) C dX2_readHouse_35 rfl rfl 0 rfl ?_
    refine JC_g_X2_good (q := 39) C kF_X2_19 dX2_readHouse_36 rfl ?_
    refine jn_elim h (fun k47 ek47 h => ?_)
    have hk47 : ∀ (t0_47 : Bool), k47 t0_47 = some σo → Jd p l e (rmF 5 114) s m args below meth c D 77 ad (celC cI cR ad) okC 5 (MQ below (QV D (tysC cI cR) 77 ad (celC cI cR ad) okC σo) args s 0 0 (inA 77 ad)) 47 [(0, .ref (ad 1)), (1, .ref (ad g1)), (2, .int r2)] [.int (b2i t0_47), .int (gS σ3 17), .ref (ad 1)] σ3 := by
      intro t0_47 h
      rw [ek47] at h
      refine J_iadd (q := 48) C dX2_readHouse_47 rfl ?_
      refine JC_p_X2_place (q := 51) C kF_X2_15 dX2_readHouse_48 rfl ?_
      refine jn_elim h (fun σ4 eσ4 h => ?_)
      rw [← eσ4]
      refine J_aload_n (q := 52) C dX2_readHouse_51 rfl rfl 0 rfl ?_
      obtain ⟨r5, σ5, ec5, h⟩ := bnd2_of h
      refine J_callIV (q := 55) (As := []) C (c_X2_twoFigures hap  ec5) ok_X2_twoFigures kM_X2_34 (by decide) rfl rfl rfl rfl rfl rfl ⟨Nat.le_of_ble_eq_true rfl, Nat.le_of_ble_eq_true rfl⟩ (Nat.le_of_ble_eq_true rfl) dX2_readHouse_52 rfl ?_
      refine J_istore_n (q := 56) C dX2_readHouse_55 rfl rfl (by decide) rfl ?_
      refine J_aload_n (q := 57) C dX2_readHouse_56 rfl rfl 1 rfl ?_
      obtain ⟨r6, σ6, ec6, h⟩ := bnd2_of h
      refine J_callIV (q := 60) (As := []) C (c_X2_twoFigures hap  ec6) ok_X2_twoFigures kM_X2_34 (by decide) rfl rfl rfl rfl rfl rfl ⟨Nat.le_of_ble_eq_true rfl, Nat.le_of_ble_eq_true rfl⟩ (Nat.le_of_ble_eq_true rfl) dX2_readHouse_57 rfl ?_
      refine J_istore (q := 62) C dX2_readHouse_60 rfl (by decide) rfl ?_
      refine J_aload_n (q := 63) C dX2_readHouse_62 rfl rfl 2 rfl ?_
      refine JC_g_X2_good (q := 66) C kF_X2_19 dX2_readHouse_63 rfl ?_
      refine J_if_eq (tgt := 77) (q := 69) C dX2_readHouse_66 rfl (by decide) h (fun _ h => ?_) (fun _ h => ?_)
      · obtain rfl := Option.some.inj h
        exact J_vret C dX2_readHouse_77
      · refine J_aload_n (q := 70) C dX2_readHouse_69 rfl rfl 3 rfl ?_
        refine J_iload_n (q := 71) C dX2_readHouse_70 rfl rfl 4 rfl ?_
        refine J_iload_n (q := 72) C dX2_readHouse_71 rfl rfl 1 rfl ?_
        refine J_iload (q := 74) C dX2_readHouse_72 rfl 0 rfl ?_
        obtain ⟨σ7, ec7, h⟩ := bnd_of h
        refine J_callXV (q := 77) (As := [.int r2, .int r5, .int r6]) C (c_X4_build hap ho1 ec7) ok_X4_build kM_X2_61 (lt77S ho1) (celC_S ho1) rfl rfl rfl rfl rfl ⟨Nat.le_of_ble_eq_true rfl, Nat.le_of_ble_eq_true rfl⟩ (Nat.le_of_ble_eq_true rfl) dX2_readHouse_74 rfl ?_
        obtain rfl := Option.some.inj h
        exact J_vret C dX2_readHouse_77
    refine J_if_eq (tgt := 46) (q := 42) C dX2_readHouse_39 rfl (by decide) h (fun _ h => ?_) (fun _ h => ?_)
    · refine J_iconst (v := 0 ) (q := 47) C dX2_readHouse_46 rfl rfl ?_
      exact hk47 _ h
    · refine J_iconst (v := 1 ) (q := 43) C dX2_readHouse_42 rfl rfl ?_
      refine J_goto (tgt := 47) C dX2_readHouse_43 (by decide) ?_
      exact hk47 _ h
  refine jn_elim h (fun k26 ek26 h => ?_)
  have hk26 : k26 = some σo → Jd p l e (rmF 5 114) s m args below meth c D 77 ad (celC cI cR ad) okC 5 (MQ below (QV D (tysC cI cR) 77 ad (celC cI cR ad) okC σo) args s 0 0 (inA 77 ad)) 26 [(0, .ref (ad 1)), (1, .ref (ad g1)), (2, .int r2)] [.ref (ad 1)] σ := by
    intro  h
    rw [ek26] at h
    refine J_iconst (v := 0 ) (q := 27) C dX2_readHouse_26 rfl rfl ?_
    exact hk27 _ h
  refine J_if_eq (tgt := 26) (q := 16) C dX2_readHouse_13 rfl (by decide) h (fun _ h => ?_) (fun _ h => ?_)
  · refine J_sub [1, 2, 0] rfl ?_
    exact hk26 h
  · refine J_iload_n (q := 17) C dX2_readHouse_16 rfl rfl 0 rfl ?_
    refine J_bipush (v := -9) (q := 19) C dX2_readHouse_17 rfl rfl ?_
    refine J_icmp_eq (tgt := 26) (q := 22) C dX2_readHouse_19 rfl (by decide) h (fun _ h => ?_) (fun _ h => ?_)
    · refine J_sub [1, 2, 0] rfl ?_
      exact hk26 h
    · refine J_iconst (v := 1 ) (q := 23) C dX2_readHouse_22 rfl rfl ?_
      refine J_goto (tgt := 27) C dX2_readHouse_23 (by decide) ?_
      refine J_sub [1, 2, 0] rfl ?_
      exact hk27 _ h
set_option maxHeartbeats 4000000 in
set_option maxRecDepth 100000 in
theorem cl_X2_skipBlanks_2 {p : Program} {l : Launch} {e : Env} {s : State} {m : MethodId} {args : Array Value} {below : List Frame} {meth : Method} {c : Code} {D : va_G} {cI cR : ClassId} {ad : Nat → Nat} (hap : apN 77 ad) (C : Cx p s m args meth c cX2_skipBlanks 2 "WokenYears$Reader" D (tysC cI cR) 77 ad (none)) {k33 : Sg → Option Sg} (σo : Sg)  (hk33 : ∀ (σ1 : Sg), k33 σ1 = some σo → Jd p l e (rmF 3 71) s m args below meth c D 77 ad (celC cI cR ad) okC 2 (MQ below (QV D (tysC cI cR) 77 ad (celC cI cR ad) okC σo) args s 0 0 (inA 77 ad)) 33 [] [] σ1) : ∀ (n : Nat) (x1 : Int32) (σx : Sg), l_X2_skipBlanks_2 k33 n x1 σx = some σo → Jd p l e (rmF 3 71) s m args below meth c D 77 ad (celC cI cR ad) okC 2 (MQ below (QV D (tysC cI cR) 77 ad (celC cI cR ad) okC σo) args s 0 0 (inA 77 ad)) 2 [(0, .ref (ad 1)), (1, .int x1)] [] σx := by
  intro n
  induction n with
  | zero => intro x1 σx h; cases h
  | succ n ih =>
    intro x1 σx h
    unfold l_X2_skipBlanks_2 at h
    refine J_iload_n (q := 3) C dX2_skipBlanks_2 rfl rfl 1 rfl ?_
    refine J_bipush (v := 60) (q := 5) C dX2_skipBlanks_3 rfl rfl ?_
    refine J_icmp_ge (tgt := 33) (q := 8) C dX2_skipBlanks_5 rfl (by decide) h (fun _ h => ?_) (fun _ h => ?_)
    · refine J_sub [] rfl ?_
      exact hk33 _ h
    · refine J_aload_n (q := 9) C dX2_skipBlanks_8 rfl rfl 0 rfl ?_
      obtain ⟨r1, ec1, h⟩ := bnd_of h
      refine J_callIV (q := 12) (As := []) C (c_X2_sign hap  ec1) ok_X2_sign kM_X2_53 (by decide) rfl rfl rfl rfl rfl rfl ⟨Nat.le_of_ble_eq_true rfl, Nat.le_of_ble_eq_true rfl⟩ (Nat.le_of_ble_eq_true rfl) dX2_skipBlanks_9 rfl ?_
      refine J_bipush (v := 32) (q := 14) C dX2_skipBlanks_12 rfl rfl ?_
      refine J_icmp_ne (tgt := 33) (q := 17) C dX2_skipBlanks_14 rfl (by decide) h (fun _ h => ?_) (fun _ h => ?_)
      · refine J_aload_n (q := 18) C dX2_skipBlanks_17 rfl rfl 0 rfl ?_
        refine J_dup (q := 19) C dX2_skipBlanks_18 rfl rfl ?_
        refine JC_g_X2_place (q := 22) C kF_X2_15 dX2_skipBlanks_19 rfl ?_
        refine J_iconst (v := 1 ) (q := 23) C dX2_skipBlanks_22 rfl rfl ?_
        refine J_iadd (q := 24) C dX2_skipBlanks_23 rfl ?_
        refine JC_p_X2_place (q := 27) C kF_X2_15 dX2_skipBlanks_24 rfl ?_
        refine jn_elim h (fun σ2 eσ2 h => ?_)
        rw [← eσ2]
        refine jn_elim h (fun y3 ey3 h => ?_)
        refine J_iinc (v := y3) (q := 30) C dX2_skipBlanks_27 rfl 1 rfl (by rw [ey3]; rfl) (by decide) rfl ?_
        refine J_goto (tgt := 2) C dX2_skipBlanks_30 (by decide) ?_
        refine J_sub [1, 0] rfl ?_
        exact ih _ _ h
      · refine J_sub [] rfl ?_
        exact hk33 _ h
set_option maxHeartbeats 4000000 in
set_option maxRecDepth 100000 in
theorem c_X2_skipBlanks {l : Launch} {D : va_G} {cI cR : ClassId} {ad : Nat → Nat} (hap : apN 77 ad)  {σ : Sg} {σo : Sg}  (h : f_X2_skipBlanks σ = some σo) : MV l D (tysC cI cR) 77 ad (celC cI cR ad) okC yX2_skipBlanks cX2_skipBlanks 2 3 71 [.ref (ad 1)] σ σo := by
  unfold f_X2_skipBlanks at h
  refine entV "WokenYears$Reader" hap (by decide +kernel) rfl (Nat.le_of_ble_eq_true rfl) (fun p e s m args below meth c C => ?_)
  refine J_sub (lv' := [(0, .ref (ad 1))]) [0] rfl ?_
  refine J_iconst (v := 0 ) (q := 1) C dX2_skipBlanks_0 rfl rfl ?_
  refine J_istore_n (q := 2) C dX2_skipBlanks_1 rfl rfl (by decide) rfl ?_
  refine J_sub [1, 0] rfl ?_
  refine cl_X2_skipBlanks_2 hap C σo  (fun σv33 h => ?_) FU _ _ h
  · obtain rfl := Option.some.inj h
    exact J_vret C dX2_skipBlanks_33
set_option maxHeartbeats 4000000 in
set_option maxRecDepth 100000 in
theorem c_X4_begin {l : Launch} {D : va_G} {cI cR : ClassId} {ad : Nat → Nat} (hap : apN 77 ad) {g0 : Nat} {i1 : Int32} {i2 : Int32} {σ : Sg} {σo : Sg} (ho0 : isS g0) (h : f_X4_begin g0 i1 i2 σ = some σo) : MV l D (tysC cI cR) 77 ad (celC cI cR ad) okC yX4_begin cX4_begin 3 2 63 [.ref (ad g0), .int i1, .int i2] σ σo := by
  unfold f_X4_begin at h
  refine entV "WokenYears$Street" hap (by decide +kernel) rfl (Nat.le_of_ble_eq_true rfl) (fun p e s m args below meth c C => ?_)
  refine J_sub (lv' := [(0, .ref (ad g0)), (1, .int i1), (2, .int i2)]) [0, 1, 2] rfl ?_
  refine J_aload_n (q := 1) C dX4_begin_0 rfl rfl 0 rfl ?_
  refine J_iconst (v := 0 ) (q := 2) C dX4_begin_1 rfl rfl ?_
  refine JC_p_X4_size (q := 5) C ho0 kF_X4_42 dX4_begin_2 rfl ?_
  refine jn_elim h (fun σ1 eσ1 h => ?_)
  rw [← eσ1]
  refine J_aload_n (q := 6) C dX4_begin_5 rfl rfl 0 rfl ?_
  refine J_iload_n (q := 7) C dX4_begin_6 rfl rfl 1 rfl ?_
  refine JC_p_X4_firstFrost (q := 10) C ho0 kF_X4_46 dX4_begin_7 rfl ?_
  refine jn_elim h (fun σ2 eσ2 h => ?_)
  rw [← eσ2]
  refine J_aload_n (q := 11) C dX4_begin_10 rfl rfl 0 rfl ?_
  refine J_iload_n (q := 12) C dX4_begin_11 rfl rfl 2 rfl ?_
  refine JC_p_X4_quarrel (q := 15) C ho0 kF_X4_49 dX4_begin_12 rfl ?_
  refine jn_elim h (fun σ3 eσ3 h => ?_)
  rw [← eσ3]
  refine J_aload_n (q := 16) C dX4_begin_15 rfl rfl 0 rfl ?_
  refine JC_g_X4_kinds (q := 19) C ho0 kF_X4_14 dX4_begin_16 rfl ?_
  refine J_iconst (v := 0 ) (q := 20) C dX4_begin_19 rfl rfl ?_
  refine J_iconst (v := 0 ) (q := 21) C dX4_begin_20 rfl rfl ?_
  obtain ⟨σ4, ec4, h⟩ := bnd_of h
  refine J_callXV (q := 24) (As := [.int (0 : Int32), .int (0 : Int32)]) C (c_X0_fill hap (isI_st ho0 0 (by decide)) ec4) ok_X0_fill kM_X4_38 (lt77I (isI_st ho0 0 (by decide))) (celC_I (isI_st ho0 0 (by decide))) rfl rfl rfl rfl rfl ⟨Nat.le_of_ble_eq_true rfl, Nat.le_of_ble_eq_true rfl⟩ (Nat.le_of_ble_eq_true rfl) dX4_begin_21 rfl ?_
  refine J_aload_n (q := 25) C dX4_begin_24 rfl rfl 0 rfl ?_
  refine JC_g_X4_wants (q := 28) C ho0 kF_X4_20 dX4_begin_25 rfl ?_
  refine J_iconst (v := 0 ) (q := 29) C dX4_begin_28 rfl rfl ?_
  refine J_iconst (v := 0 ) (q := 30) C dX4_begin_29 rfl rfl ?_
  obtain ⟨σ5, ec5, h⟩ := bnd_of h
  refine J_callXV (q := 33) (As := [.int (0 : Int32), .int (0 : Int32)]) C (c_X0_fill hap (isI_st ho0 1 (by decide)) ec5) ok_X0_fill kM_X4_38 (lt77I (isI_st ho0 1 (by decide))) (celC_I (isI_st ho0 1 (by decide))) rfl rfl rfl rfl rfl ⟨Nat.le_of_ble_eq_true rfl, Nat.le_of_ble_eq_true rfl⟩ (Nat.le_of_ble_eq_true rfl) dX4_begin_30 rfl ?_
  refine J_aload_n (q := 34) C dX4_begin_33 rfl rfl 0 rfl ?_
  refine JC_g_X4_firstDates (q := 37) C ho0 kF_X4_23 dX4_begin_34 rfl ?_
  refine J_iconst (v := 0 ) (q := 38) C dX4_begin_37 rfl rfl ?_
  refine J_iconst (v := 0 ) (q := 39) C dX4_begin_38 rfl rfl ?_
  obtain ⟨σ6, ec6, h⟩ := bnd_of h
  refine J_callXV (q := 42) (As := [.int (0 : Int32), .int (0 : Int32)]) C (c_X0_fill hap (isI_st ho0 2 (by decide)) ec6) ok_X0_fill kM_X4_38 (lt77I (isI_st ho0 2 (by decide))) (celC_I (isI_st ho0 2 (by decide))) rfl rfl rfl rfl rfl ⟨Nat.le_of_ble_eq_true rfl, Nat.le_of_ble_eq_true rfl⟩ (Nat.le_of_ble_eq_true rfl) dX4_begin_39 rfl ?_
  obtain rfl := Option.some.inj h
  exact J_vret C dX4_begin_42
set_option maxHeartbeats 4000000 in
set_option maxRecDepth 100000 in
theorem cl_X2_read_43 {p : Program} {l : Launch} {e : Env} {s : State} {m : MethodId} {args : Array Value} {below : List Frame} {meth : Method} {c : Code} {D : va_G} {cI cR : ClassId} {ad : Nat → Nat} (hap : apN 77 ad) (C : Cx p s m args meth c cX2_read 6 "WokenYears$Reader" D (tysC cI cR) 77 ad (some .int)) {b1 : Nat} {b2 : Nat} (hb1 : isI b1) (hb2 : isS b2) (r : Int32) (σo : Sg)   : ∀ (n : Nat) (x4 : Int32) (σx : Sg), l_X2_read_43 b1 b2 n x4 σx = some (r, σo) → Jd p l e (rmF 6 138) s m args below meth c D 77 ad (celC cI cR ad) okC 6 (MQ below (QI D (tysC cI cR) 77 ad (celC cI cR ad) okC r σo) args s 0 0 (inA 77 ad)) 43 [(0, .ref (ad 1)), (1, .ref (ad b1)), (2, .ref (ad b2)), (4, .int x4)] [] σx := by
  intro n
  induction n with
  | zero => intro x4 σx h; cases h
  | succ n ih =>
    intro x4 σx h
    unfold l_X2_read_43 at h
    refine J_iload (q := 45) C dX2_read_43 rfl 3 rfl ?_
    refine J_bipush (v := 6) (q := 47) C dX2_read_45 rfl rfl ?_
    refine J_icmp_gt (tgt := 124) (q := 50) C dX2_read_47 rfl (by decide) h (fun _ h => ?_) (fun _ h => ?_)
    · refine J_aload_n (q := 125) C dX2_read_124 rfl rfl 0 rfl ?_
      refine JC_g_X2_place (q := 128) C kF_X2_15 dX2_read_125 rfl ?_
      obtain ⟨rfl, rfl⟩ := Prod.mk.inj (Option.some.inj h)
      exact J_iret C dX2_read_128
    · refine J_aload_n (q := 51) C dX2_read_50 rfl rfl 0 rfl ?_
      refine JC_g_X2_good (q := 54) C kF_X2_19 dX2_read_51 rfl ?_
      refine J_if_eq (tgt := 124) (q := 57) C dX2_read_54 rfl (by decide) h (fun _ h => ?_) (fun _ h => ?_)
      · refine J_aload_n (q := 125) C dX2_read_124 rfl rfl 0 rfl ?_
        refine JC_g_X2_place (q := 128) C kF_X2_15 dX2_read_125 rfl ?_
        obtain ⟨rfl, rfl⟩ := Prod.mk.inj (Option.some.inj h)
        exact J_iret C dX2_read_128
      · refine J_aload_n (q := 58) C dX2_read_57 rfl rfl 0 rfl ?_
        obtain ⟨σ9, ec9, h⟩ := bnd_of h
        refine J_callXV (q := 61) (As := []) C (c_X2_skipBlanks hap  ec9) ok_X2_skipBlanks kM_X2_23 (by decide) rfl rfl rfl rfl rfl rfl ⟨Nat.le_of_ble_eq_true rfl, Nat.le_of_ble_eq_true rfl⟩ (Nat.le_of_ble_eq_true rfl) dX2_read_58 rfl ?_
        refine J_aload_n (q := 62) C dX2_read_61 rfl rfl 0 rfl ?_
        refine JC_g_X2_place (q := 65) C kF_X2_15 dX2_read_62 rfl ?_
        refine J_aload_n (q := 66) C dX2_read_65 rfl rfl 1 rfl ?_
        refine JC_g_X0_size (q := 69) C hb1 kF_X2_44 dX2_read_66 rfl ?_
        refine jn_elim h (fun k77 ek77 h => ?_)
        have hk77 : ∀ (t0_77 : Bool), k77 t0_77 = some (r, σo) → Jd p l e (rmF 6 138) s m args below meth c D 77 ad (celC cI cR ad) okC 6 (MQ below (QI D (tysC cI cR) 77 ad (celC cI cR ad) okC r σo) args s 0 0 (inA 77 ad)) 77 [(0, .ref (ad 1)), (1, .ref (ad b1)), (2, .ref (ad b2)), (4, .int x4)] [.int (b2i t0_77)] σ9 := by
          intro t0_77 h
          rw [ek77] at h
          refine J_istore (q := 79) C dX2_read_77 rfl (by decide) rfl ?_
          refine J_iload (q := 81) C dX2_read_79 rfl 0 rfl ?_
          refine jn_elim h (fun k92 ek92 h => ?_)
          have hk92 : k92 = some (r, σo) → Jd p l e (rmF 6 138) s m args below meth c D 77 ad (celC cI cR ad) okC 6 (MQ below (QI D (tysC cI cR) 77 ad (celC cI cR ad) okC r σo) args s 0 0 (inA 77 ad)) 92 [(0, .ref (ad 1)), (1, .ref (ad b1)), (2, .ref (ad b2)), (4, .int x4), (5, .int (b2i t0_77))] [] σ9 := by
            intro  h
            rw [ek92] at h
            refine J_aload_n (q := 93) C dX2_read_92 rfl rfl 0 rfl ?_
            refine J_iload (q := 95) C dX2_read_93 rfl 4 rfl ?_
            refine jn_elim h (fun k110 ek110 h => ?_)
            have hk110 : ∀ (t0_110 : Bool), k110 t0_110 = some (r, σo) → Jd p l e (rmF 6 138) s m args below meth c D 77 ad (celC cI cR ad) okC 6 (MQ below (QI D (tysC cI cR) 77 ad (celC cI cR ad) okC r σo) args s 0 0 (inA 77 ad)) 110 [(0, .ref (ad 1)), (1, .ref (ad b1)), (2, .ref (ad b2)), (4, .int x4)] [.int (b2i t0_110), .ref (ad 1)] σ9 := by
              intro t0_110 h
              rw [ek110] at h
              refine JC_p_X2_good (v := t0_110) (q := 113) C kF_X2_19 dX2_read_110 rfl ?_
              refine jn_elim h (fun σ10 eσ10 h => ?_)
              rw [← eσ10]
              refine J_aload_n (q := 114) C dX2_read_113 rfl rfl 0 rfl ?_
              refine J_aload_n (q := 115) C dX2_read_114 rfl rfl 2 rfl ?_
              obtain ⟨σ11, ec11, h⟩ := bnd_of h
              refine J_callXV (q := 118) (As := [.ref (ad b2)]) C (c_X2_readHouse hap hb2 ec11) ok_X2_readHouse kM_X2_49 (by decide) rfl rfl rfl rfl rfl rfl ⟨Nat.le_of_ble_eq_true rfl, Nat.le_of_ble_eq_true rfl⟩ (Nat.le_of_ble_eq_true rfl) dX2_read_115 rfl ?_
              refine jn_elim h (fun y12 ey12 h => ?_)
              refine J_iinc (v := y12) (q := 121) C dX2_read_118 rfl 3 rfl (by rw [ey12]; rfl) (by decide) rfl ?_
              refine J_goto (tgt := 43) C dX2_read_121 (by decide) ?_
              refine J_sub [1, 2, 3, 0] rfl ?_
              exact ih _ _ h
            refine jn_elim h (fun k109 ek109 h => ?_)
            have hk109 : k109 = some (r, σo) → Jd p l e (rmF 6 138) s m args below meth c D 77 ad (celC cI cR ad) okC 6 (MQ below (QI D (tysC cI cR) 77 ad (celC cI cR ad) okC r σo) args s 0 0 (inA 77 ad)) 109 [(0, .ref (ad 1)), (1, .ref (ad b1)), (2, .ref (ad b2)), (4, .int x4)] [.ref (ad 1)] σ9 := by
              intro  h
              rw [ek109] at h
              refine J_iconst (v := 0 ) (q := 110) C dX2_read_109 rfl rfl ?_
              exact hk110 _ h
            refine J_ifne_b (tgt := 109) (q := 98) C dX2_read_95 rfl (by decide) h (fun _ h => ?_) (fun _ h => ?_)
            · refine J_sub [0, 1, 2, 3] rfl ?_
              exact hk109 h
            · refine J_iload (q := 100) C dX2_read_98 rfl 3 rfl ?_
              refine J_bipush (v := 6) (q := 102) C dX2_read_100 rfl rfl ?_
              refine J_icmp_ge (tgt := 109) (q := 105) C dX2_read_102 rfl (by decide) h (fun _ h => ?_) (fun _ h => ?_)
              · refine J_sub [0, 1, 2, 3] rfl ?_
                exact hk109 h
              · refine J_iconst (v := 1 ) (q := 106) C dX2_read_105 rfl rfl ?_
                refine J_goto (tgt := 110) C dX2_read_106 (by decide) ?_
                refine J_sub [0, 1, 2, 3] rfl ?_
                exact hk110 _ h
          refine J_ifeq_b (tgt := 92) (q := 84) C dX2_read_81 rfl (by decide) h (fun _ h => ?_) (fun _ h => ?_)
          · refine J_iload (q := 86) C dX2_read_84 rfl 4 rfl ?_
            refine J_if_le (tgt := 92) (q := 89) C dX2_read_86 rfl (by decide) h (fun _ h => ?_) (fun _ h => ?_)
            · refine J_sub [1, 2, 3, 4, 0] rfl ?_
              exact hk92 h
            · refine J_bipush (v := -9) (q := 91) C dX2_read_89 rfl rfl ?_
              obtain ⟨rfl, rfl⟩ := Prod.mk.inj (Option.some.inj h)
              exact J_iret C dX2_read_91
          · refine J_sub [1, 2, 3, 4, 0] rfl ?_
            exact hk92 h
        refine J_icmp_lt (tgt := 76) (q := 72) C dX2_read_69 rfl (by decide) h (fun _ h => ?_) (fun _ h => ?_)
        · refine J_iconst (v := 0 ) (q := 77) C dX2_read_76 rfl rfl ?_
          exact hk77 _ h
        · refine J_iconst (v := 1 ) (q := 73) C dX2_read_72 rfl rfl ?_
          refine J_goto (tgt := 77) C dX2_read_73 (by decide) ?_
          exact hk77 _ h
set_option maxHeartbeats 4000000 in
set_option maxRecDepth 100000 in
theorem c_X2_read {l : Launch} {D : va_G} {cI cR : ClassId} {ad : Nat → Nat} (hap : apN 77 ad) {g1 : Nat} {g2 : Nat} {σ : Sg} {r : Int32} {σo : Sg} (ho1 : isI g1) (ho2 : isS g2) (h : f_X2_read g1 g2 σ = some (r, σo)) : MI l D (tysC cI cR) 77 ad (celC cI cR ad) okC yX2_read cX2_read 6 .int 6 138 [.ref (ad 1), .ref (ad g1), .ref (ad g2)] σ r σo := by
  unfold f_X2_read at h
  refine entI "WokenYears$Reader" hap (by decide +kernel) rfl (Nat.le_of_ble_eq_true rfl) (fun p e s m args below meth c C => ?_)
  refine J_sub (lv' := [(0, .ref (ad 1)), (1, .ref (ad g1)), (2, .ref (ad g2))]) [0, 1, 2] rfl ?_
  refine J_aload_n (q := 1) C dX2_read_0 rfl rfl 0 rfl ?_
  refine J_aload_n (q := 2) C dX2_read_1 rfl rfl 1 rfl ?_
  refine JC_p_X2_text (q := 5) C ho1 kF_X2_9 dX2_read_2 rfl ?_
  refine jn_elim h (fun σ1 eσ1 h => ?_)
  rw [← eσ1]
  refine J_aload_n (q := 6) C dX2_read_5 rfl rfl 0 rfl ?_
  refine J_iconst (v := 0 ) (q := 7) C dX2_read_6 rfl rfl ?_
  refine JC_p_X2_place (q := 10) C kF_X2_15 dX2_read_7 rfl ?_
  refine jn_elim h (fun σ2 eσ2 h => ?_)
  rw [← eσ2]
  refine J_aload_n (q := 11) C dX2_read_10 rfl rfl 0 rfl ?_
  refine J_iconst (v := 1 ) (q := 12) C dX2_read_11 rfl rfl ?_
  refine JC_p_X2_good (v := true) (q := 15) C kF_X2_19 dX2_read_12 rfl ?_
  refine jn_elim h (fun σ3 eσ3 h => ?_)
  rw [← eσ3]
  refine J_aload_n (q := 16) C dX2_read_15 rfl rfl 0 rfl ?_
  obtain ⟨σ4, ec4, h⟩ := bnd_of h
  refine J_callXV (q := 19) (As := []) C (c_X2_skipBlanks hap  ec4) ok_X2_skipBlanks kM_X2_23 (by decide) rfl rfl rfl rfl rfl rfl ⟨Nat.le_of_ble_eq_true rfl, Nat.le_of_ble_eq_true rfl⟩ (Nat.le_of_ble_eq_true rfl) dX2_read_16 rfl ?_
  refine J_aload_n (q := 20) C dX2_read_19 rfl rfl 0 rfl ?_
  refine J_bipush (v := 115) (q := 22) C dX2_read_20 rfl rfl ?_
  obtain ⟨σ5, ec5, h⟩ := bnd_of h
  refine J_callXV (q := 25) (As := [.int (115 : Int32)]) C (c_X2_letter hap  ec5) ok_X2_letter kM_X2_26 (by decide) rfl rfl rfl rfl rfl rfl ⟨Nat.le_of_ble_eq_true rfl, Nat.le_of_ble_eq_true rfl⟩ (Nat.le_of_ble_eq_true rfl) dX2_read_22 rfl ?_
  refine J_aload_n (q := 26) C dX2_read_25 rfl rfl 0 rfl ?_
  refine J_iconst (v := 1 ) (q := 27) C dX2_read_26 rfl rfl ?_
  obtain ⟨r6, σ6, ec6, h⟩ := bnd2_of h
  refine J_callIV (q := 30) (As := [.int (1 : Int32)]) C (c_X2_figure hap  ec6) ok_X2_figure kM_X2_30 (by decide) rfl rfl rfl rfl rfl rfl ⟨Nat.le_of_ble_eq_true rfl, Nat.le_of_ble_eq_true rfl⟩ (Nat.le_of_ble_eq_true rfl) dX2_read_27 rfl ?_
  refine J_istore_n (q := 31) C dX2_read_30 rfl rfl (by decide) rfl ?_
  refine J_aload_n (q := 32) C dX2_read_31 rfl rfl 3 rfl ?_
  refine J_iload_n (q := 33) C dX2_read_32 rfl rfl 0 rfl ?_
  refine J_aload_n (q := 34) C dX2_read_33 rfl rfl 1 rfl ?_
  obtain ⟨r7, σ7, ec7, h⟩ := bnd2_of h
  refine J_callIV (q := 37) (As := []) C (c_X2_twoFigures hap  ec7) ok_X2_twoFigures kM_X2_34 (by decide) rfl rfl rfl rfl rfl rfl ⟨Nat.le_of_ble_eq_true rfl, Nat.le_of_ble_eq_true rfl⟩ (Nat.le_of_ble_eq_true rfl) dX2_read_34 rfl ?_
  obtain ⟨σ8, ec8, h⟩ := bnd_of h
  refine J_callXV (q := 40) (As := [.int r6, .int r7]) C (c_X4_begin hap ho2 ec8) ok_X4_begin kM_X2_38 (lt77S ho2) (celC_S ho2) rfl rfl rfl rfl rfl ⟨Nat.le_of_ble_eq_true rfl, Nat.le_of_ble_eq_true rfl⟩ (Nat.le_of_ble_eq_true rfl) dX2_read_37 rfl ?_
  refine J_iconst (v := 0 ) (q := 41) C dX2_read_40 rfl rfl ?_
  refine J_istore (q := 43) C dX2_read_41 rfl (by decide) rfl ?_
  refine J_sub [2, 3, 4, 0] rfl ?_
  refine cl_X2_read_43 hap C ho1 ho2 r σo  FU _ _ h
set_option maxHeartbeats 4000000 in
set_option maxRecDepth 100000 in
theorem c_X4_isHouse {l : Launch} {D : va_G} {cI cR : ClassId} {ad : Nat → Nat} (hap : apN 77 ad) {g0 : Nat} {i1 : Int32} {σ : Sg} {r : Bool} (ho0 : isS g0) (h : f_X4_isHouse g0 i1 σ = some r) : MI l D (tysC cI cR) 77 ad (celC cI cR ad) okC yX4_isHouse cX4_isHouse 2 .boolean 1 30 [.ref (ad g0), .int i1] σ (b2i r) σ := by
  unfold f_X4_isHouse at h
  refine entI "WokenYears$Street" hap (by decide +kernel) rfl (Nat.le_of_ble_eq_true rfl) (fun p e s m args below meth c C => ?_)
  refine J_sub (lv' := [(0, .ref (ad g0)), (1, .int i1)]) [0, 1] rfl ?_
  refine J_iload_n (q := 1) C dX4_isHouse_0 rfl rfl 1 rfl ?_
  refine J_if_lt (tgt := 16) (q := 4) C dX4_isHouse_1 rfl (by decide) h (fun _ h => ?_) (fun _ h => ?_)
  · refine J_iconst (v := 0 ) (q := 17) C dX4_isHouse_16 rfl rfl ?_
    obtain rfl := Option.some.inj h
    exact J_zret (b := false) C dX4_isHouse_17
  · refine J_iload_n (q := 5) C dX4_isHouse_4 rfl rfl 1 rfl ?_
    refine J_aload_n (q := 6) C dX4_isHouse_5 rfl rfl 0 rfl ?_
    refine JC_g_X4_size (q := 9) C ho0 kF_X4_42 dX4_isHouse_6 rfl ?_
    refine J_icmp_ge (tgt := 16) (q := 12) C dX4_isHouse_9 rfl (by decide) h (fun _ h => ?_) (fun _ h => ?_)
    · refine J_iconst (v := 0 ) (q := 17) C dX4_isHouse_16 rfl rfl ?_
      obtain rfl := Option.some.inj h
      exact J_zret (b := false) C dX4_isHouse_17
    · refine J_iconst (v := 1 ) (q := 13) C dX4_isHouse_12 rfl rfl ?_
      refine J_goto (tgt := 17) C dX4_isHouse_13 (by decide) ?_
      obtain rfl := Option.some.inj h
      exact J_zret (b := true) C dX4_isHouse_17
set_option maxHeartbeats 4000000 in
set_option maxRecDepth 100000 in
theorem c_X4_isAwake {l : Launch} {D : va_G} {cI cR : ClassId} {ad : Nat → Nat} (hap : apN 77 ad) {g0 : Nat} {i1 : Int32} {σ : Sg} {r : Bool} (ho0 : isS g0) (h : f_X4_isAwake g0 i1 σ = some r) : MI l D (tysC cI cR) 77 ad (celC cI cR ad) okC yX4_isAwake cX4_isAwake 2 .boolean 2 51 [.ref (ad g0), .int i1] σ (b2i r) σ := by
  unfold f_X4_isAwake at h
  refine entI "WokenYears$Street" hap (by decide +kernel) rfl (Nat.le_of_ble_eq_true rfl) (fun p e s m args below meth c C => ?_)
  refine J_sub (lv' := [(0, .ref (ad g0)), (1, .int i1)]) [0, 1] rfl ?_
  refine J_aload_n (q := 1) C dX4_isAwake_0 rfl rfl 0 rfl ?_
  refine J_iload_n (q := 2) C dX4_isAwake_1 rfl rfl 1 rfl ?_
  obtain ⟨r1, ec1, h⟩ := bnd_of h
  refine J_callIV (q := 5) (As := [.int i1]) C (c_X4_isHouse hap ho0 ec1) ok_X4_isHouse kM_X4_114 (lt77S ho0) (celC_S ho0) rfl rfl rfl rfl rfl ⟨Nat.le_of_ble_eq_true rfl, Nat.le_of_ble_eq_true rfl⟩ (Nat.le_of_ble_eq_true rfl) dX4_isAwake_2 rfl ?_
  refine J_ifeq_b (tgt := 25) (q := 8) C dX4_isAwake_5 rfl (by decide) h (fun _ h => ?_) (fun _ h => ?_)
  · refine J_aload_n (q := 9) C dX4_isAwake_8 rfl rfl 0 rfl ?_
    refine JC_g_X4_years (q := 12) C ho0 kF_X4_32 dX4_isAwake_9 rfl ?_
    refine J_iload_n (q := 13) C dX4_isAwake_12 rfl rfl 1 rfl ?_
    obtain ⟨r2, ec2, h⟩ := bnd_of h
    refine J_callIV (q := 16) (As := [.int i1]) C (c_X0_get hap (isI_st ho0 5 (by decide)) ec2) ok_X0_get kM_X4_78 (lt77I (isI_st ho0 5 (by decide))) (celC_I (isI_st ho0 5 (by decide))) rfl rfl rfl rfl rfl ⟨Nat.le_of_ble_eq_true rfl, Nat.le_of_ble_eq_true rfl⟩ (Nat.le_of_ble_eq_true rfl) dX4_isAwake_13 rfl ?_
    refine J_bipush (v := -9) (q := 18) C dX4_isAwake_16 rfl rfl ?_
    refine J_icmp_eq (tgt := 25) (q := 21) C dX4_isAwake_18 rfl (by decide) h (fun _ h => ?_) (fun _ h => ?_)
    · refine J_iconst (v := 0 ) (q := 26) C dX4_isAwake_25 rfl rfl ?_
      obtain rfl := Option.some.inj h
      exact J_zret (b := false) C dX4_isAwake_26
    · refine J_iconst (v := 1 ) (q := 22) C dX4_isAwake_21 rfl rfl ?_
      refine J_goto (tgt := 26) C dX4_isAwake_22 (by decide) ?_
      obtain rfl := Option.some.inj h
      exact J_zret (b := true) C dX4_isAwake_26
  · refine J_iconst (v := 0 ) (q := 26) C dX4_isAwake_25 rfl rfl ?_
    obtain rfl := Option.some.inj h
    exact J_zret (b := false) C dX4_isAwake_26
set_option maxHeartbeats 4000000 in
set_option maxRecDepth 100000 in
theorem c_X4_tapsFor {l : Launch} {D : va_G} {cI cR : ClassId} {ad : Nat → Nat} (hap : apN 77 ad) {g0 : Nat} {i1 : Int32} {i2 : Int32} {σ : Sg} {r : Int32} (ho0 : isS g0) (h : f_X4_tapsFor g0 i1 i2 σ = some r) : MI l D (tysC cI cR) 77 ad (celC cI cR ad) okC yX4_tapsFor cX4_tapsFor 3 .int 2 54 [.ref (ad g0), .int i1, .int i2] σ r σ := by
  unfold f_X4_tapsFor at h
  refine entI "WokenYears$Street" hap (by decide +kernel) rfl (Nat.le_of_ble_eq_true rfl) (fun p e s m args below meth c C => ?_)
  refine J_sub (lv' := [(0, .ref (ad g0)), (1, .int i1), (2, .int i2)]) [0, 1, 2] rfl ?_
  refine J_aload_n (q := 1) C dX4_tapsFor_0 rfl rfl 0 rfl ?_
  refine JC_g_X4_kinds (q := 4) C ho0 kF_X4_14 dX4_tapsFor_1 rfl ?_
  refine J_iload_n (q := 5) C dX4_tapsFor_4 rfl rfl 1 rfl ?_
  obtain ⟨r1, ec1, h⟩ := bnd_of h
  refine J_callIV (q := 8) (As := [.int i1]) C (c_X0_get hap (isI_st ho0 0 (by decide)) ec1) ok_X0_get kM_X4_78 (lt77I (isI_st ho0 0 (by decide))) (celC_I (isI_st ho0 0 (by decide))) rfl rfl rfl rfl rfl ⟨Nat.le_of_ble_eq_true rfl, Nat.le_of_ble_eq_true rfl⟩ (Nat.le_of_ble_eq_true rfl) dX4_tapsFor_5 rfl ?_
  refine J_iload_n (q := 9) C dX4_tapsFor_8 rfl rfl 2 rfl ?_
  refine J_aload_n (q := 10) C dX4_tapsFor_9 rfl rfl 0 rfl ?_
  refine JC_g_X4_frost (q := 13) C ho0 kF_X4_66 dX4_tapsFor_10 rfl ?_
  obtain ⟨r2, ec2, h⟩ := bnd_of h
  refine J_callIS (q := 16) (As := [.int r1, .int i2, .int (gS σ (16 * g0 + 10))]) C (c_X1_taps hap  ec2) ok_X1_taps kM_X4_117 rfl rfl rfl ⟨Nat.le_of_ble_eq_true rfl, Nat.le_of_ble_eq_true rfl⟩ (Nat.le_of_ble_eq_true rfl) dX4_tapsFor_13 rfl ?_
  obtain rfl := Option.some.inj h
  exact J_iret C dX4_tapsFor_16
set_option maxHeartbeats 4000000 in
set_option maxRecDepth 100000 in
theorem c_X4_more {l : Launch} {D : va_G} {cI cR : ClassId} {ad : Nat → Nat} (hap : apN 77 ad) {g0 : Nat} {i1 : Int32} {σ : Sg} {r : Int32} (ho0 : isS g0) (h : f_X4_more g0 i1 σ = some r) : MI l D (tysC cI cR) 77 ad (celC cI cR ad) okC yX4_more cX4_more 3 .int 3 76 [.ref (ad g0), .int i1] σ r σ := by
  unfold f_X4_more at h
  refine entI "WokenYears$Street" hap (by decide +kernel) rfl (Nat.le_of_ble_eq_true rfl) (fun p e s m args below meth c C => ?_)
  refine J_sub (lv' := [(0, .ref (ad g0)), (1, .int i1)]) [0, 1] rfl ?_
  refine J_aload_n (q := 1) C dX4_more_0 rfl rfl 0 rfl ?_
  refine J_iload_n (q := 2) C dX4_more_1 rfl rfl 1 rfl ?_
  obtain ⟨r1, ec1, h⟩ := bnd_of h
  refine J_callIV (q := 5) (As := [.int i1]) C (c_X4_isAwake hap ho0 ec1) ok_X4_isAwake kM_X4_104 (lt77S ho0) (celC_S ho0) rfl rfl rfl rfl rfl ⟨Nat.le_of_ble_eq_true rfl, Nat.le_of_ble_eq_true rfl⟩ (Nat.le_of_ble_eq_true rfl) dX4_more_2 rfl ?_
  refine J_ifeq_b (tgt := 10) (q := 8) C dX4_more_5 rfl (by decide) h (fun _ h => ?_) (fun _ h => ?_)
  · refine J_iconst (v := 0 ) (q := 9) C dX4_more_8 rfl rfl ?_
    obtain rfl := Option.some.inj h
    exact J_iret C dX4_more_9
  · refine J_aload_n (q := 11) C dX4_more_10 rfl rfl 0 rfl ?_
    refine J_iload_n (q := 12) C dX4_more_11 rfl rfl 1 rfl ?_
    refine J_aload_n (q := 13) C dX4_more_12 rfl rfl 0 rfl ?_
    refine JC_g_X4_dates (q := 16) C ho0 kF_X4_26 dX4_more_13 rfl ?_
    refine J_iload_n (q := 17) C dX4_more_16 rfl rfl 1 rfl ?_
    obtain ⟨r2, ec2, h⟩ := bnd_of h
    refine J_callIV (q := 20) (As := [.int i1]) C (c_X0_get hap (isI_st ho0 3 (by decide)) ec2) ok_X0_get kM_X4_78 (lt77I (isI_st ho0 3 (by decide))) (celC_I (isI_st ho0 3 (by decide))) rfl rfl rfl rfl rfl ⟨Nat.le_of_ble_eq_true rfl, Nat.le_of_ble_eq_true rfl⟩ (Nat.le_of_ble_eq_true rfl) dX4_more_17 rfl ?_
    obtain ⟨r3, ec3, h⟩ := bnd_of h
    refine J_callIV (q := 23) (As := [.int i1, .int r2]) C (c_X4_tapsFor hap ho0 ec3) ok_X4_tapsFor kM_X4_100 (lt77S ho0) (celC_S ho0) rfl rfl rfl rfl rfl ⟨Nat.le_of_ble_eq_true rfl, Nat.le_of_ble_eq_true rfl⟩ (Nat.le_of_ble_eq_true rfl) dX4_more_20 rfl ?_
    refine J_istore_n (q := 24) C dX4_more_23 rfl rfl (by decide) rfl ?_
    refine J_iload_n (q := 25) C dX4_more_24 rfl rfl 0 rfl ?_
    refine J_bipush (v := -9) (q := 27) C dX4_more_25 rfl rfl ?_
    refine J_icmp_ne (tgt := 35) (q := 30) C dX4_more_27 rfl (by decide) h (fun _ h => ?_) (fun _ h => ?_)
    · refine J_bipush (v := -9) (q := 32) C dX4_more_30 rfl rfl ?_
      refine J_goto (tgt := 49) C dX4_more_32 (by decide) ?_
      obtain rfl := Option.some.inj h
      exact J_iret C dX4_more_49
    · refine J_iconst (v := 1 ) (q := 36) C dX4_more_35 rfl rfl ?_
      refine J_iload_n (q := 37) C dX4_more_36 rfl rfl 0 rfl ?_
      refine J_aload_n (q := 38) C dX4_more_37 rfl rfl 1 rfl ?_
      refine JC_g_X4_tapped (q := 41) C ho0 kF_X4_29 dX4_more_38 rfl ?_
      refine J_iload_n (q := 42) C dX4_more_41 rfl rfl 2 rfl ?_
      obtain ⟨r4, ec4, h⟩ := bnd_of h
      refine J_callIV (q := 45) (As := [.int i1]) C (c_X0_get hap (isI_st ho0 4 (by decide)) ec4) ok_X0_get kM_X4_78 (lt77I (isI_st ho0 4 (by decide))) (celC_I (isI_st ho0 4 (by decide))) rfl rfl rfl rfl rfl ⟨Nat.le_of_ble_eq_true rfl, Nat.le_of_ble_eq_true rfl⟩ (Nat.le_of_ble_eq_true rfl) dX4_more_42 rfl ?_
      refine J_isub (q := 46) C dX4_more_45 rfl ?_
      refine J_mmax (q := 49) C kM_X4_124 kMath_max_s kMath_max_c (Nat.le_of_ble_eq_true rfl) (Nat.le_of_ble_eq_true rfl) dX4_more_46 rfl ?_
      obtain rfl := Option.some.inj h
      exact J_iret C dX4_more_49
set_option maxHeartbeats 4000000 in
set_option maxRecDepth 100000 in
theorem cl_X3_start_26 {p : Program} {l : Launch} {e : Env} {s : State} {m : MethodId} {args : Array Value} {below : List Frame} {meth : Method} {c : Code} {D : va_G} {cI cR : ClassId} {ad : Nat → Nat} (hap : apN 77 ad) (C : Cx p s m args meth c cX3_start 3 "WokenYears$Rounds" D (tysC cI cR) 77 ad (none)) {b1 : Nat} (hb1 : isS b1) {k74 : Sg → Option Sg} (σo : Sg)  (hk74 : ∀ (σ1 : Sg), k74 σ1 = some σo → Jd p l e (rmF 4 98) s m args below meth c D 77 ad (celC cI cR ad) okC 3 (MQ below (QV D (tysC cI cR) 77 ad (celC cI cR ad) okC σo) args s 0 0 (inA 77 ad)) 74 [] [] σ1) : ∀ (n : Nat) (x2 : Int32) (σx : Sg), l_X3_start_26 b1 k74 n x2 σx = some σo → Jd p l e (rmF 4 98) s m args below meth c D 77 ad (celC cI cR ad) okC 3 (MQ below (QV D (tysC cI cR) 77 ad (celC cI cR ad) okC σo) args s 0 0 (inA 77 ad)) 26 [(0, .ref (ad 2)), (1, .ref (ad b1)), (2, .int x2)] [] σx := by
  intro n
  induction n with
  | zero => intro x2 σx h; cases h
  | succ n ih =>
    intro x2 σx h
    unfold l_X3_start_26 at h
    refine J_iload_n (q := 27) C dX3_start_26 rfl rfl 2 rfl ?_
    refine J_aload_n (q := 28) C dX3_start_27 rfl rfl 1 rfl ?_
    refine JC_g_X4_size (q := 31) C hb1 kF_X3_32 dX3_start_28 rfl ?_
    refine J_icmp_ge (tgt := 74) (q := 34) C dX3_start_31 rfl (by decide) h (fun _ h => ?_) (fun _ h => ?_)
    · refine J_sub [] rfl ?_
      exact hk74 _ h
    · refine J_aload_n (q := 35) C dX3_start_34 rfl rfl 0 rfl ?_
      refine JC_g_X3_more (q := 38) C kF_X3_23 dX3_start_35 rfl ?_
      refine J_iload_n (q := 39) C dX3_start_38 rfl rfl 2 rfl ?_
      refine J_aload_n (q := 40) C dX3_start_39 rfl rfl 1 rfl ?_
      refine J_iload_n (q := 41) C dX3_start_40 rfl rfl 2 rfl ?_
      obtain ⟨r3, ec3, h⟩ := bnd_of h
      refine J_callIV (q := 44) (As := [.int x2]) C (c_X4_more hap hb1 ec3) ok_X4_more kM_X3_42 (lt77S hb1) (celC_S hb1) rfl rfl rfl rfl rfl ⟨Nat.le_of_ble_eq_true rfl, Nat.le_of_ble_eq_true rfl⟩ (Nat.le_of_ble_eq_true rfl) dX3_start_41 rfl ?_
      obtain ⟨σ4, ec4, h⟩ := bnd_of h
      refine J_callXV (q := 47) (As := [.int x2, .int r3]) C (c_X0_set hap isI_35 ec4) ok_X0_set kM_X3_45 (lt77I isI_35) (celC_I isI_35) rfl rfl rfl rfl rfl ⟨Nat.le_of_ble_eq_true rfl, Nat.le_of_ble_eq_true rfl⟩ (Nat.le_of_ble_eq_true rfl) dX3_start_44 rfl ?_
      refine J_aload_n (q := 48) C dX3_start_47 rfl rfl 0 rfl ?_
      refine JC_g_X3_spare (q := 51) C kF_X3_26 dX3_start_48 rfl ?_
      refine J_iload_n (q := 52) C dX3_start_51 rfl rfl 2 rfl ?_
      refine J_aload_n (q := 53) C dX3_start_52 rfl rfl 1 rfl ?_
      refine JC_g_X4_wants (q := 56) C hb1 kF_X3_48 dX3_start_53 rfl ?_
      refine J_iload_n (q := 57) C dX3_start_56 rfl rfl 2 rfl ?_
      obtain ⟨r5, ec5, h⟩ := bnd_of h
      refine J_callIV (q := 60) (As := [.int x2]) C (c_X0_get hap (isI_st hb1 1 (by decide)) ec5) ok_X0_get kM_X3_51 (lt77I (isI_st hb1 1 (by decide))) (celC_I (isI_st hb1 1 (by decide))) rfl rfl rfl rfl rfl ⟨Nat.le_of_ble_eq_true rfl, Nat.le_of_ble_eq_true rfl⟩ (Nat.le_of_ble_eq_true rfl) dX3_start_57 rfl ?_
      refine J_aload_n (q := 61) C dX3_start_60 rfl rfl 1 rfl ?_
      refine JC_g_X4_minute (q := 64) C hb1 kF_X3_54 dX3_start_61 rfl ?_
      refine J_isub (q := 65) C dX3_start_64 rfl ?_
      obtain ⟨σ6, ec6, h⟩ := bnd_of h
      refine J_callXV (q := 68) (As := [.int x2, .int (r5 - (gS σ4 (16 * b1 + 11)))]) C (c_X0_set hap isI_36 ec6) ok_X0_set kM_X3_45 (lt77I isI_36) (celC_I isI_36) rfl rfl rfl rfl rfl ⟨Nat.le_of_ble_eq_true rfl, Nat.le_of_ble_eq_true rfl⟩ (Nat.le_of_ble_eq_true rfl) dX3_start_65 rfl ?_
      refine jn_elim h (fun y7 ey7 h => ?_)
      refine J_iinc (v := y7) (q := 71) C dX3_start_68 rfl 2 rfl (by rw [ey7]; rfl) (by decide) rfl ?_
      refine J_goto (tgt := 26) C dX3_start_71 (by decide) ?_
      refine J_sub [1, 2, 0] rfl ?_
      exact ih _ _ h
set_option maxHeartbeats 4000000 in
set_option maxRecDepth 100000 in
theorem c_X3_start {l : Launch} {D : va_G} {cI cR : ClassId} {ad : Nat → Nat} (hap : apN 77 ad) {g1 : Nat} {σ : Sg} {σo : Sg} (ho1 : isS g1) (h : f_X3_start g1 σ = some σo) : MV l D (tysC cI cR) 77 ad (celC cI cR ad) okC yX3_start cX3_start 3 4 98 [.ref (ad 2), .ref (ad g1)] σ σo := by
  unfold f_X3_start at h
  refine entV "WokenYears$Rounds" hap (by decide +kernel) rfl (Nat.le_of_ble_eq_true rfl) (fun p e s m args below meth c C => ?_)
  refine J_sub (lv' := [(0, .ref (ad 2)), (1, .ref (ad g1))]) [0, 1] rfl ?_
  refine J_aload_n (q := 1) C dX3_start_0 rfl rfl 0 rfl ?_
  refine JC_g_X3_more (q := 4) C kF_X3_23 dX3_start_1 rfl ?_
  refine J_aload_n (q := 5) C dX3_start_4 rfl rfl 1 rfl ?_
  refine JC_g_X4_size (q := 8) C ho1 kF_X3_32 dX3_start_5 rfl ?_
  refine J_iconst (v := 0 ) (q := 9) C dX3_start_8 rfl rfl ?_
  obtain ⟨σ1, ec1, h⟩ := bnd_of h
  refine J_callXV (q := 12) (As := [.int (gS σ (16 * g1 + 7)), .int (0 : Int32)]) C (c_X0_fill hap isI_35 ec1) ok_X0_fill kM_X3_38 (lt77I isI_35) (celC_I isI_35) rfl rfl rfl rfl rfl ⟨Nat.le_of_ble_eq_true rfl, Nat.le_of_ble_eq_true rfl⟩ (Nat.le_of_ble_eq_true rfl) dX3_start_9 rfl ?_
  refine J_aload_n (q := 13) C dX3_start_12 rfl rfl 0 rfl ?_
  refine JC_g_X3_spare (q := 16) C kF_X3_26 dX3_start_13 rfl ?_
  refine J_aload_n (q := 17) C dX3_start_16 rfl rfl 1 rfl ?_
  refine JC_g_X4_size (q := 20) C ho1 kF_X3_32 dX3_start_17 rfl ?_
  refine J_iconst (v := 0 ) (q := 21) C dX3_start_20 rfl rfl ?_
  obtain ⟨σ2, ec2, h⟩ := bnd_of h
  refine J_callXV (q := 24) (As := [.int (gS σ1 (16 * g1 + 7)), .int (0 : Int32)]) C (c_X0_fill hap isI_36 ec2) ok_X0_fill kM_X3_38 (lt77I isI_36) (celC_I isI_36) rfl rfl rfl rfl rfl ⟨Nat.le_of_ble_eq_true rfl, Nat.le_of_ble_eq_true rfl⟩ (Nat.le_of_ble_eq_true rfl) dX3_start_21 rfl ?_
  refine J_iconst (v := 0 ) (q := 25) C dX3_start_24 rfl rfl ?_
  refine J_istore_n (q := 26) C dX3_start_25 rfl rfl (by decide) rfl ?_
  refine J_sub [1, 2, 0] rfl ?_
  refine cl_X3_start_26 hap C ho1 σo  (fun σv74 h => ?_) FU _ _ h
  · obtain rfl := Option.some.inj h
    exact J_vret C dX3_start_74
set_option maxHeartbeats 4000000 in
set_option maxRecDepth 100000 in
theorem c_X5_holds {l : Launch} {D : va_G} {cI cR : ClassId} {ad : Nat → Nat} (hap : apN 77 ad) {i0 : Int32} {i1 : Int32} {σ : Sg} {r : Bool}  (h : f_X5_holds i0 i1 = some r) : MI l D (tysC cI cR) 77 ad (celC cI cR ad) okC yX5_holds cX5_holds 2 .boolean 1 30 [.int i0, .int i1] σ (b2i r) σ := by
  unfold f_X5_holds at h
  refine entI "WokenYears" hap (by decide +kernel) rfl (Nat.le_of_ble_eq_true rfl) (fun p e s m args below meth c C => ?_)
  refine J_sub (lv' := [(0, .int i0), (1, .int i1)]) [0, 1] rfl ?_
  refine J_iload_n (q := 1) C dX5_holds_0 rfl rfl 0 rfl ?_
  refine J_iload_n (q := 2) C dX5_holds_1 rfl rfl 1 rfl ?_
  refine J_ishr (q := 3) C dX5_holds_2 rfl ?_
  refine J_iconst (v := 1 ) (q := 4) C dX5_holds_3 rfl rfl ?_
  refine J_iand (q := 5) C dX5_holds_4 rfl ?_
  refine J_if_eq (tgt := 12) (q := 8) C dX5_holds_5 rfl (by decide) h (fun _ h => ?_) (fun _ h => ?_)
  · refine J_iconst (v := 0 ) (q := 13) C dX5_holds_12 rfl rfl ?_
    obtain rfl := Option.some.inj h
    exact J_zret (b := false) C dX5_holds_13
  · refine J_iconst (v := 1 ) (q := 9) C dX5_holds_8 rfl rfl ?_
    refine J_goto (tgt := 13) C dX5_holds_9 (by decide) ?_
    obtain rfl := Option.some.inj h
    exact J_zret (b := true) C dX5_holds_13
set_option maxHeartbeats 4000000 in
set_option maxRecDepth 100000 in
theorem cl_X3_walkOver_8 {p : Program} {l : Launch} {e : Env} {s : State} {m : MethodId} {args : Array Value} {below : List Frame} {meth : Method} {c : Code} {D : va_G} {cI cR : ClassId} {ad : Nat → Nat} (hap : apN 77 ad) (C : Cx p s m args meth c cX3_walkOver 5 "WokenYears$Rounds" D (tysC cI cR) 77 ad (some .int)) {a0 : Int32} {a1 : Int32} {k40 : Int32 → Int32 → Option Int32} {σ : Sg} (r : Int32)  (hk40 : ∀ (u2 : Int32) (u3 : Int32), k40 u2 u3 = some r → Jd p l e (rmF 2 51) s m args below meth c D 77 ad (celC cI cR ad) okC 5 (MQ below (QI D (tysC cI cR) 77 ad (celC cI cR ad) okC r σ) args s 0 0 (inA 77 ad)) 40 [(0, .int a0), (1, .int a1), (2, .int u2), (3, .int u3)] [] σ) : ∀ (n : Nat) (x2 : Int32) (x3 : Int32) (x4 : Int32), l_X3_walkOver_8 a0 a1 k40 n x2 x3 x4 = some r → Jd p l e (rmF 2 51) s m args below meth c D 77 ad (celC cI cR ad) okC 5 (MQ below (QI D (tysC cI cR) 77 ad (celC cI cR ad) okC r σ) args s 0 0 (inA 77 ad)) 8 [(0, .int a0), (1, .int a1), (2, .int x2), (3, .int x3), (4, .int x4)] [] σ := by
  intro n
  induction n with
  | zero => intro x2 x3 x4 h; cases h
  | succ n ih =>
    intro x2 x3 x4 h
    unfold l_X3_walkOver_8 at h
    refine J_iload (q := 10) C dX3_walkOver_8 rfl 4 rfl ?_
    refine J_bipush (v := 6) (q := 12) C dX3_walkOver_10 rfl rfl ?_
    refine J_icmp_ge (tgt := 40) (q := 15) C dX3_walkOver_12 rfl (by decide) h (fun _ h => ?_) (fun _ h => ?_)
    · refine J_sub [0, 1, 2, 3] rfl ?_
      exact hk40 _ _ h
    · refine J_iload_n (q := 16) C dX3_walkOver_15 rfl rfl 0 rfl ?_
      refine J_iload (q := 18) C dX3_walkOver_16 rfl 4 rfl ?_
      obtain ⟨r1, ec1, h⟩ := bnd_of h
      refine J_callISN (q := 21) (As := [.int a0, .int x4]) C (c_X5_holds hap  ec1) ok_X5_holds C.2.2.2.2.2.2.2.2.2.2.2.2 rfl rfl rfl ⟨Nat.le_of_ble_eq_true rfl, Nat.le_of_ble_eq_true rfl⟩ (Nat.le_of_ble_eq_true rfl) dX3_walkOver_18 rfl ?_
      refine jn_elim h (fun k34 ek34 h => ?_)
      have hk34 : ∀ (u2_34 : Int32) (u3_34 : Int32), k34 u2_34 u3_34 = some r → Jd p l e (rmF 2 51) s m args below meth c D 77 ad (celC cI cR ad) okC 5 (MQ below (QI D (tysC cI cR) 77 ad (celC cI cR ad) okC r σ) args s 0 0 (inA 77 ad)) 34 [(0, .int a0), (1, .int a1), (2, .int u2_34), (3, .int u3_34), (4, .int x4)] [] σ := by
        intro u2_34 u3_34 h
        rw [ek34] at h
        refine jn_elim h (fun y2 ey2 h => ?_)
        refine J_iinc (v := y2) (q := 37) C dX3_walkOver_34 rfl 4 rfl (by rw [ey2]; rfl) (by decide) rfl ?_
        refine J_goto (tgt := 8) C dX3_walkOver_37 (by decide) ?_
        refine J_sub [1, 2, 3, 4, 0] rfl ?_
        exact ih _ _ _ h
      refine J_ifeq_b (tgt := 34) (q := 24) C dX3_walkOver_21 rfl (by decide) h (fun _ h => ?_) (fun _ h => ?_)
      · refine J_iload_n (q := 25) C dX3_walkOver_24 rfl rfl 2 rfl ?_
        refine J_iload (q := 27) C dX3_walkOver_25 rfl 4 rfl ?_
        refine J_mmin (q := 30) C kM_X3_61 kMath_min_s kMath_min_c (Nat.le_of_ble_eq_true rfl) (Nat.le_of_ble_eq_true rfl) dX3_walkOver_27 rfl ?_
        refine J_nmi h (fun y3 ey3 h => ?_)
        refine J_istore_n (q := 31) C dX3_walkOver_30 rfl rfl (by decide) rfl ?_
        refine J_iload (q := 33) C dX3_walkOver_31 rfl 4 rfl ?_
        refine J_istore_n (q := 34) C dX3_walkOver_33 rfl rfl (by decide) rfl ?_
        refine J_sub [2, 3, 1, 0, 4] rfl ?_
        exact hk34 _ _ h
      · exact hk34 _ _ h
set_option maxHeartbeats 4000000 in
set_option maxRecDepth 100000 in
theorem c_X3_walkOver {l : Launch} {D : va_G} {cI cR : ClassId} {ad : Nat → Nat} (hap : apN 77 ad) {i0 : Int32} {i1 : Int32} {σ : Sg} {r : Int32}  (h : f_X3_walkOver i0 i1 = some r) : MI l D (tysC cI cR) 77 ad (celC cI cR ad) okC yX3_walkOver cX3_walkOver 5 .int 2 51 [.int i0, .int i1] σ r σ := by
  unfold f_X3_walkOver at h
  refine entI "WokenYears$Rounds" hap (by decide +kernel) rfl (Nat.le_of_ble_eq_true rfl) (fun p e s m args below meth c C => ?_)
  refine J_sub (lv' := [(0, .int i0), (1, .int i1)]) [0, 1] rfl ?_
  refine J_bipush (v := 6) (q := 2) C dX3_walkOver_0 rfl rfl ?_
  refine J_istore_n (q := 3) C dX3_walkOver_2 rfl rfl (by decide) rfl ?_
  refine J_iconst (v := 0 ) (q := 4) C dX3_walkOver_3 rfl rfl ?_
  refine J_istore_n (q := 5) C dX3_walkOver_4 rfl rfl (by decide) rfl ?_
  refine J_iconst (v := 0 ) (q := 6) C dX3_walkOver_5 rfl rfl ?_
  refine J_istore (q := 8) C dX3_walkOver_6 rfl (by decide) rfl ?_
  refine J_sub [3, 4, 2, 1, 0] rfl ?_
  refine cl_X3_walkOver_8 hap C r  (fun v2_40 v3_40 h => ?_) FU _ _ _ h
  · refine J_iload_n (q := 41) C dX3_walkOver_40 rfl rfl 1 rfl ?_
    refine J_iload_n (q := 42) C dX3_walkOver_41 rfl rfl 2 rfl ?_
    refine J_isub (q := 43) C dX3_walkOver_42 rfl ?_
    refine J_mabs (q := 46) C kM_X3_67 kMath_abs_s kMath_abs_c (Nat.le_of_ble_eq_true rfl) (Nat.le_of_ble_eq_true rfl) dX3_walkOver_43 rfl ?_
    refine J_iload_n (q := 47) C dX3_walkOver_46 rfl rfl 1 rfl ?_
    refine J_iload_n (q := 48) C dX3_walkOver_47 rfl rfl 3 rfl ?_
    refine J_isub (q := 49) C dX3_walkOver_48 rfl ?_
    refine J_mabs (q := 52) C kM_X3_67 kMath_abs_s kMath_abs_c (Nat.le_of_ble_eq_true rfl) (Nat.le_of_ble_eq_true rfl) dX3_walkOver_49 rfl ?_
    refine J_mmin (q := 55) C kM_X3_61 kMath_min_s kMath_min_c (Nat.le_of_ble_eq_true rfl) (Nat.le_of_ble_eq_true rfl) dX3_walkOver_52 rfl ?_
    refine J_nmi h (fun y4 ey4 h => ?_)
    refine J_istore (q := 57) C dX3_walkOver_55 rfl (by decide) rfl ?_
    refine J_iload_n (q := 58) C dX3_walkOver_57 rfl rfl 1 rfl ?_
    refine J_if_ne (tgt := 65) (q := 61) C dX3_walkOver_58 rfl (by decide) h (fun _ h => ?_) (fun _ h => ?_)
    · refine J_iconst (v := 0 ) (q := 62) C dX3_walkOver_61 rfl rfl ?_
      refine J_goto (tgt := 71) C dX3_walkOver_62 (by decide) ?_
      obtain rfl := Option.some.inj h
      exact J_iret C dX3_walkOver_71
    · refine J_iload_n (q := 66) C dX3_walkOver_65 rfl rfl 4 rfl ?_
      refine J_iload_n (q := 67) C dX3_walkOver_66 rfl rfl 3 rfl ?_
      refine J_isub (q := 68) C dX3_walkOver_67 rfl ?_
      refine J_iload (q := 70) C dX3_walkOver_68 rfl 0 rfl ?_
      refine J_iadd (q := 71) C dX3_walkOver_70 rfl ?_
      obtain rfl := Option.some.inj h
      exact J_iret C dX3_walkOver_71
set_option maxHeartbeats 4000000 in
set_option maxRecDepth 100000 in
theorem cl_X3_seek_47 {p : Program} {l : Launch} {e : Env} {s : State} {m : MethodId} {args : Array Value} {below : List Frame} {meth : Method} {c : Code} {D : va_G} {cI cR : ClassId} {ad : Nat → Nat} (hap : apN 77 ad) {N0 : Nat} (C : Cx p s m args meth c cX3_seek 9 "WokenYears$Rounds" D (tysC cI cR) 77 ad (none)) {self : Int32 → Int32 → Int32 → Int32 → Int32 → Sg → Option Sg} {a1 : Int32} {a2 : Int32} {a3 : Int32} {a4 : Int32} {a5 : Int32} {k143 : Sg → Option Sg} (σo : Sg)  (hself : ∀ {i1 : Int32} {i2 : Int32} {i3 : Int32} {i4 : Int32} {i5 : Int32} {σ σo : Sg}, self i1 i2 i3 i4 i5 σ = some σo → MV l D (tysC cI cR) 77 ad (celC cI cR ad) okC yX3_seek cX3_seek 9 (8 + N0) (200 + 48 * N0) [.ref (ad 2), .int i1, .int i2, .int i3, .int i4, .int i5] σ σo) (hk143 : ∀ (σ1 : Sg), k143 σ1 = some σo → Jd p l e (rmF (8 + (N0 + 1)) (200 + 48 * (N0 + 1))) s m args below meth c D 77 ad (celC cI cR ad) okC 9 (MQ below (QV D (tysC cI cR) 77 ad (celC cI cR ad) okC σo) args s 0 0 (inA 77 ad)) 143 [] [] σ1) : ∀ (n : Nat) (x6 : Int32) (σx : Sg), l_X3_seek_47 self a1 a2 a3 a4 a5 k143 n x6 σx = some σo → Jd p l e (rmF (8 + (N0 + 1)) (200 + 48 * (N0 + 1))) s m args below meth c D 77 ad (celC cI cR ad) okC 9 (MQ below (QV D (tysC cI cR) 77 ad (celC cI cR ad) okC σo) args s 0 0 (inA 77 ad)) 47 [(0, .ref (ad 2)), (1, .int a1), (2, .int a2), (3, .int a3), (4, .int a4), (5, .int a5), (6, .int x6)] [] σx := by
  intro n
  induction n with
  | zero => intro x6 σx h; cases h
  | succ n ih =>
    intro x6 σx h
    unfold l_X3_seek_47 at h
    refine J_iload (q := 49) C dX3_seek_47 rfl 6 rfl ?_
    refine J_bipush (v := 6) (q := 51) C dX3_seek_49 rfl rfl ?_
    refine J_icmp_ge (tgt := 143) (q := 54) C dX3_seek_51 rfl (by decide) h (fun _ h => ?_) (fun _ h => ?_)
    · refine J_sub [] rfl ?_
      exact hk143 _ h
    · refine J_iload (q := 56) C dX3_seek_54 rfl 6 rfl ?_
      refine J_iload_n (q := 57) C dX3_seek_56 rfl rfl 3 rfl ?_
      refine J_isub (q := 58) C dX3_seek_57 rfl ?_
      refine J_mabs (q := 61) C kM_X3_67 kMath_abs_s kMath_abs_c (Nat.le_of_ble_eq_true rfl) (Nat.le_of_ble_eq_true rfl) dX3_seek_58 rfl ?_
      refine J_nmi h (fun y4 ey4 h => ?_)
      refine J_istore (q := 63) C dX3_seek_61 rfl (by decide) rfl ?_
      refine J_iload (q := 65) C dX3_seek_63 rfl 5 rfl ?_
      refine J_iload (q := 67) C dX3_seek_65 rfl 0 rfl ?_
      refine J_iadd (q := 68) C dX3_seek_67 rfl ?_
      refine J_aload_n (q := 69) C dX3_seek_68 rfl rfl 1 rfl ?_
      refine JC_g_X3_more (q := 72) C kF_X3_23 dX3_seek_69 rfl ?_
      refine J_iload (q := 74) C dX3_seek_72 rfl 7 rfl ?_
      obtain ⟨r5, ec5, h⟩ := bnd_of h
      refine J_callIV (q := 77) (As := [.int x6]) C (c_X0_get hap isI_35 ec5) ok_X0_get kM_X3_51 (lt77I isI_35) (celC_I isI_35) rfl rfl rfl rfl rfl ⟨rmle (by omega), rmlf (by omega)⟩ (Nat.le_of_ble_eq_true rfl) dX3_seek_74 rfl ?_
      refine J_iadd (q := 78) C dX3_seek_77 rfl ?_
      refine J_nmi h (fun y6 ey6 h => ?_)
      refine J_istore (q := 80) C dX3_seek_78 rfl (by decide) rfl ?_
      refine J_iload_n (q := 81) C dX3_seek_80 rfl rfl 4 rfl ?_
      refine J_iload (q := 83) C dX3_seek_81 rfl 8 rfl ?_
      obtain ⟨r7, ec7, h⟩ := bnd_of h
      refine J_callISN (q := 86) (As := [.int a2, .int x6]) C (c_X5_holds hap  ec7) ok_X5_holds C.2.2.2.2.2.2.2.2.2.2.2.2 rfl rfl rfl ⟨rmle (by omega), rmlf (by omega)⟩ (Nat.le_of_ble_eq_true rfl) dX3_seek_83 rfl ?_
      refine jn_elim h (fun k137 ek137 h => ?_)
      have hk137 : ∀ (σj137 : Sg), k137 σj137 = some σo → Jd p l e (rmF (8 + (N0 + 1)) (200 + 48 * (N0 + 1))) s m args below meth c D 77 ad (celC cI cR ad) okC 9 (MQ below (QV D (tysC cI cR) 77 ad (celC cI cR ad) okC σo) args s 0 0 (inA 77 ad)) 137 [(0, .ref (ad 2)), (1, .int a1), (2, .int a2), (3, .int a3), (4, .int a4), (5, .int a5), (6, .int x6)] [] σj137 := by
        intro σj137 h
        rw [ek137] at h
        refine jn_elim h (fun y8 ey8 h => ?_)
        refine J_iinc (v := y8) (q := 140) C dX3_seek_137 rfl 6 rfl (by rw [ey8]; rfl) (by decide) rfl ?_
        refine J_goto (tgt := 47) C dX3_seek_140 (by decide) ?_
        refine J_sub [1, 2, 3, 4, 5, 6, 0] rfl ?_
        exact ih _ _ h
      refine J_ifeq_b (tgt := 137) (q := 89) C dX3_seek_86 rfl (by decide) h (fun _ h => ?_) (fun _ h => ?_)
      · refine J_iload (q := 91) C dX3_seek_89 rfl 0 rfl ?_
        refine J_aload_n (q := 92) C dX3_seek_91 rfl rfl 2 rfl ?_
        refine JC_g_X3_spare (q := 95) C kF_X3_26 dX3_seek_92 rfl ?_
        refine J_iload (q := 97) C dX3_seek_95 rfl 8 rfl ?_
        obtain ⟨r9, ec9, h⟩ := bnd_of h
        refine J_callIV (q := 100) (As := [.int x6]) C (c_X0_get hap isI_36 ec9) ok_X0_get kM_X3_51 (lt77I isI_36) (celC_I isI_36) rfl rfl rfl rfl rfl ⟨rmle (by omega), rmlf (by omega)⟩ (Nat.le_of_ble_eq_true rfl) dX3_seek_97 rfl ?_
        refine J_icmp_gt (tgt := 137) (q := 103) C dX3_seek_100 rfl (by decide) h (fun _ h => ?_) (fun _ h => ?_)
        · refine J_sub [2, 3, 4, 5, 6, 7, 8] rfl ?_
          exact hk137 _ h
        · refine J_aload_n (q := 104) C dX3_seek_103 rfl rfl 2 rfl ?_
          refine JC_g_X3_order (q := 107) C kF_X3_20 dX3_seek_104 rfl ?_
          refine J_iload_n (q := 108) C dX3_seek_107 rfl rfl 3 rfl ?_
          refine J_iload (q := 110) C dX3_seek_108 rfl 8 rfl ?_
          obtain ⟨σ10, ec10, h⟩ := bnd_of h
          refine J_callXV (q := 113) (As := [.int a1, .int x6]) C (c_X0_set hap isI_34 ec10) ok_X0_set kM_X3_45 (lt77I isI_34) (celC_I isI_34) rfl rfl rfl rfl rfl ⟨rmle (by omega), rmlf (by omega)⟩ (Nat.le_of_ble_eq_true rfl) dX3_seek_110 rfl ?_
          refine J_aload_n (q := 114) C dX3_seek_113 rfl rfl 2 rfl ?_
          refine J_iload_n (q := 115) C dX3_seek_114 rfl rfl 3 rfl ?_
          refine J_iconst (v := 1 ) (q := 116) C dX3_seek_115 rfl rfl ?_
          refine J_iadd (q := 117) C dX3_seek_116 rfl ?_
          refine J_iload_n (q := 118) C dX3_seek_117 rfl rfl 4 rfl ?_
          refine J_iconst (v := 1 ) (q := 119) C dX3_seek_118 rfl rfl ?_
          refine J_iload (q := 121) C dX3_seek_119 rfl 8 rfl ?_
          refine J_ishl (q := 122) C dX3_seek_121 rfl ?_
          refine J_iconst (v := -1 ) (q := 123) C dX3_seek_122 rfl rfl ?_
          refine J_ixor (q := 124) C dX3_seek_123 rfl ?_
          refine J_iand (q := 125) C dX3_seek_124 rfl ?_
          refine J_iload (q := 127) C dX3_seek_125 rfl 8 rfl ?_
          refine J_iload (q := 129) C dX3_seek_127 rfl 0 rfl ?_
          refine J_iload (q := 131) C dX3_seek_129 rfl 7 rfl ?_
          refine J_iload (q := 133) C dX3_seek_131 rfl 1 rfl ?_
          refine J_iadd (q := 134) C dX3_seek_133 rfl ?_
          obtain ⟨σ11, ec11, h⟩ := bnd_of h
          refine J_callXS (q := 137) (As := [.ref (ad 2), .int (a1 + (1 : Int32)), .int (a2 &&& (((1 : Int32) <<< (x6 &&& 31)) ^^^ (-1 : Int32))), .int x6, .int y6, .int (a5 + y4)]) C (hself ec11) ok_X3_seek kM_X3_88 rfl rfl rfl ⟨rmle (by omega), rmlf (by omega)⟩ (Nat.le_of_ble_eq_true rfl) dX3_seek_134 rfl ?_
          refine J_sub [2, 3, 4, 5, 6, 7, 8] rfl ?_
          exact hk137 _ h
      · refine J_sub [2, 3, 4, 5, 6, 7, 8] rfl ?_
        exact hk137 _ h
set_option maxHeartbeats 4000000 in
set_option maxRecDepth 100000 in
theorem c_X3_seek {l : Launch} {D : va_G} {cI cR : ClassId} {ad : Nat → Nat} (hap : apN 77 ad) : ∀ (N0 : Nat) {i1 : Int32} {i2 : Int32} {i3 : Int32} {i4 : Int32} {i5 : Int32} {σ : Sg} {σo : Sg}  (h : f_X3_seek N0 i1 i2 i3 i4 i5 σ = some σo), MV l D (tysC cI cR) 77 ad (celC cI cR ad) okC yX3_seek cX3_seek 9 (8 + N0) (200 + 48 * N0) [.ref (ad 2), .int i1, .int i2, .int i3, .int i4, .int i5] σ σo := by
  intro N0
  induction N0 with
  | zero => intro i1 i2 i3 i4 i5 σ σo h; cases h
  | succ N0 ihr =>
    intro i1 i2 i3 i4 i5 σ σo h
    refine entV "WokenYears$Rounds" hap (by decide +kernel) rfl (Nat.le_of_ble_eq_true rfl) (fun p e s m args below meth c C => ?_)
    refine J_sub (lv' := [(0, .ref (ad 2)), (1, .int i1), (2, .int i2), (3, .int i3), (4, .int i4), (5, .int i5)]) [0, 1, 2, 3, 4, 5] rfl ?_
    have hself : ∀ {i1 : Int32} {i2 : Int32} {i3 : Int32} {i4 : Int32} {i5 : Int32} {σ σo : Sg}, f_X3_seek N0 i1 i2 i3 i4 i5 σ = some σo → MV l D (tysC cI cR) 77 ad (celC cI cR ad) okC yX3_seek cX3_seek 9 (8 + N0) (200 + 48 * N0) [.ref (ad 2), .int i1, .int i2, .int i3, .int i4, .int i5] σ σo := fun h9 => ihr h9
    unfold f_X3_seek at h
    generalize f_X3_seek N0 = self at h hself
    refine J_iload_n (q := 1) C dX3_seek_0 rfl rfl 1 rfl ?_
    refine J_bipush (v := 6) (q := 3) C dX3_seek_1 rfl rfl ?_
    refine J_icmp_gt (tgt := 21) (q := 6) C dX3_seek_3 rfl (by decide) h (fun _ h => ?_) (fun _ h => ?_)
    · obtain rfl := Option.some.inj h
      exact J_vret C dX3_seek_21
    · refine J_iload (q := 8) C dX3_seek_6 rfl 5 rfl ?_
      refine J_iload_n (q := 9) C dX3_seek_8 rfl rfl 2 rfl ?_
      refine J_iload_n (q := 10) C dX3_seek_9 rfl rfl 3 rfl ?_
      obtain ⟨r1, ec1, h⟩ := bnd_of h
      refine J_callIS (q := 13) (As := [.int i2, .int i3]) C (c_X3_walkOver hap  ec1) ok_X3_walkOver kM_X3_92 rfl rfl rfl ⟨rmle (by omega), rmlf (by omega)⟩ (Nat.le_of_ble_eq_true rfl) dX3_seek_10 rfl ?_
      refine J_iadd (q := 14) C dX3_seek_13 rfl ?_
      refine J_aload_n (q := 15) C dX3_seek_14 rfl rfl 0 rfl ?_
      refine JC_g_X3_bestWalked (q := 18) C kF_X3_77 dX3_seek_15 rfl ?_
      refine J_icmp_lt (tgt := 22) (q := 21) C dX3_seek_18 rfl (by decide) h (fun _ h => ?_) (fun _ h => ?_)
      · refine J_iload_n (q := 23) C dX3_seek_22 rfl rfl 2 rfl ?_
        refine J_if_ne (tgt := 44) (q := 26) C dX3_seek_23 rfl (by decide) h (fun _ h => ?_) (fun _ h => ?_)
        · refine J_aload_n (q := 27) C dX3_seek_26 rfl rfl 0 rfl ?_
          refine J_iload (q := 29) C dX3_seek_27 rfl 5 rfl ?_
          refine JC_p_X3_bestWalked (q := 32) C kF_X3_77 dX3_seek_29 rfl ?_
          refine jn_elim h (fun σ2 eσ2 h => ?_)
          rw [← eσ2]
          refine J_aload_n (q := 33) C dX3_seek_32 rfl rfl 0 rfl ?_
          refine JC_g_X3_best (q := 36) C kF_X3_29 dX3_seek_33 rfl ?_
          refine J_aload_n (q := 37) C dX3_seek_36 rfl rfl 0 rfl ?_
          refine JC_g_X3_order (q := 40) C kF_X3_20 dX3_seek_37 rfl ?_
          obtain ⟨σ3, ec3, h⟩ := bnd_of h
          refine J_callXV (q := 43) (As := [.ref (ad 34)]) C (c_X0_takeFrom hap isI_37 isI_34 ec3) ok_X0_takeFrom kM_X3_95 (lt77I isI_37) (celC_I isI_37) rfl rfl rfl rfl rfl ⟨rmle (by omega), rmlf (by omega)⟩ (Nat.le_of_ble_eq_true rfl) dX3_seek_40 rfl ?_
          obtain rfl := Option.some.inj h
          exact J_vret C dX3_seek_43
        · refine J_iconst (v := 0 ) (q := 45) C dX3_seek_44 rfl rfl ?_
          refine J_istore (q := 47) C dX3_seek_45 rfl (by decide) rfl ?_
          refine J_sub [1, 2, 3, 4, 5, 6, 0] rfl ?_
          refine cl_X3_seek_47 hap C σo hself (fun σv143 h => ?_) FU _ _ h
          · obtain rfl := Option.some.inj h
            exact J_vret C dX3_seek_143
      · obtain rfl := Option.some.inj h
        exact J_vret C dX3_seek_21
set_option maxHeartbeats 4000000 in
set_option maxRecDepth 100000 in
theorem cl_X4_tapsLeft_4 {p : Program} {l : Launch} {e : Env} {s : State} {m : MethodId} {args : Array Value} {below : List Frame} {meth : Method} {c : Code} {D : va_G} {cI cR : ClassId} {ad : Nat → Nat} (hap : apN 77 ad) (C : Cx p s m args meth c cX4_tapsLeft 4 "WokenYears$Street" D (tysC cI cR) 77 ad (some .int)) {b0 : Nat} {a1 : Int32} (hb0 : isS b0) {k42 : Int32 → Option Int32} {σ : Sg} (r : Int32)  (hk42 : ∀ (u2 : Int32), k42 u2 = some r → Jd p l e (rmF 4 98) s m args below meth c D 77 ad (celC cI cR ad) okC 4 (MQ below (QI D (tysC cI cR) 77 ad (celC cI cR ad) okC r σ) args s 0 0 (inA 77 ad)) 42 [(2, .int u2)] [] σ) : ∀ (n : Nat) (x2 : Int32) (x3 : Int32), l_X4_tapsLeft_4 b0 a1 σ k42 n x2 x3 = some r → Jd p l e (rmF 4 98) s m args below meth c D 77 ad (celC cI cR ad) okC 4 (MQ below (QI D (tysC cI cR) 77 ad (celC cI cR ad) okC r σ) args s 0 0 (inA 77 ad)) 4 [(0, .ref (ad b0)), (1, .int a1), (2, .int x2), (3, .int x3)] [] σ := by
  intro n
  induction n with
  | zero => intro x2 x3 h; cases h
  | succ n ih =>
    intro x2 x3 h
    unfold l_X4_tapsLeft_4 at h
    refine J_iload_n (q := 5) C dX4_tapsLeft_4 rfl rfl 3 rfl ?_
    refine J_aload_n (q := 6) C dX4_tapsLeft_5 rfl rfl 0 rfl ?_
    refine JC_g_X4_size (q := 9) C hb0 kF_X4_42 dX4_tapsLeft_6 rfl ?_
    refine J_icmp_ge (tgt := 42) (q := 12) C dX4_tapsLeft_9 rfl (by decide) h (fun _ h => ?_) (fun _ h => ?_)
    · refine J_sub [2] rfl ?_
      exact hk42 _ h
    · refine J_iload_n (q := 13) C dX4_tapsLeft_12 rfl rfl 2 rfl ?_
      refine J_iload_n (q := 14) C dX4_tapsLeft_13 rfl rfl 1 rfl ?_
      refine J_iload_n (q := 15) C dX4_tapsLeft_14 rfl rfl 3 rfl ?_
      obtain ⟨r1, ec1, h⟩ := bnd_of h
      refine J_callISN (q := 18) (As := [.int a1, .int x3]) C (c_X5_holds hap  ec1) ok_X5_holds C.2.2.2.2.2.2.2.2.2.2.2.1 rfl rfl rfl ⟨Nat.le_of_ble_eq_true rfl, Nat.le_of_ble_eq_true rfl⟩ (Nat.le_of_ble_eq_true rfl) dX4_tapsLeft_15 rfl ?_
      refine jn_elim h (fun k34 ek34 h => ?_)
      have hk34 : ∀ (t0_34 : Int32), k34 t0_34 = some r → Jd p l e (rmF 4 98) s m args below meth c D 77 ad (celC cI cR ad) okC 4 (MQ below (QI D (tysC cI cR) 77 ad (celC cI cR ad) okC r σ) args s 0 0 (inA 77 ad)) 34 [(0, .ref (ad b0)), (1, .int a1), (3, .int x3)] [.int t0_34, .int x2] σ := by
        intro t0_34 h
        rw [ek34] at h
        refine J_iadd (q := 35) C dX4_tapsLeft_34 rfl ?_
        refine J_nmi h (fun y2 ey2 h => ?_)
        refine J_istore_n (q := 36) C dX4_tapsLeft_35 rfl rfl (by decide) rfl ?_
        refine jn_elim h (fun y3 ey3 h => ?_)
        refine J_iinc (v := y3) (q := 39) C dX4_tapsLeft_36 rfl 3 rfl (by rw [ey3]; rfl) (by decide) rfl ?_
        refine J_goto (tgt := 4) C dX4_tapsLeft_39 (by decide) ?_
        refine J_sub [2, 3, 1, 0] rfl ?_
        exact ih _ _ h
      refine J_ifeq_b (tgt := 33) (q := 21) C dX4_tapsLeft_18 rfl (by decide) h (fun _ h => ?_) (fun _ h => ?_)
      · refine J_iconst (v := 0 ) (q := 22) C dX4_tapsLeft_21 rfl rfl ?_
        refine J_aload_n (q := 23) C dX4_tapsLeft_22 rfl rfl 0 rfl ?_
        refine J_iload_n (q := 24) C dX4_tapsLeft_23 rfl rfl 3 rfl ?_
        obtain ⟨r4, ec4, h⟩ := bnd_of h
        refine J_callIV (q := 27) (As := [.int x3]) C (c_X4_more hap hb0 ec4) ok_X4_more kM_X4_127 (lt77S hb0) (celC_S hb0) rfl rfl rfl rfl rfl ⟨Nat.le_of_ble_eq_true rfl, Nat.le_of_ble_eq_true rfl⟩ (Nat.le_of_ble_eq_true rfl) dX4_tapsLeft_24 rfl ?_
        refine J_mmax (q := 30) C kM_X4_124 kMath_max_s kMath_max_c (Nat.le_of_ble_eq_true rfl) (Nat.le_of_ble_eq_true rfl) dX4_tapsLeft_27 rfl ?_
        refine J_goto (tgt := 34) C dX4_tapsLeft_30 (by decide) ?_
        refine J_sub [0, 1, 3] rfl ?_
        exact hk34 _ h
      · refine J_iconst (v := 0 ) (q := 34) C dX4_tapsLeft_33 rfl rfl ?_
        refine J_sub [0, 1, 3] rfl ?_
        exact hk34 _ h
set_option maxHeartbeats 4000000 in
set_option maxRecDepth 100000 in
theorem c_X4_tapsLeft {l : Launch} {D : va_G} {cI cR : ClassId} {ad : Nat → Nat} (hap : apN 77 ad) {g0 : Nat} {i1 : Int32} {σ : Sg} {r : Int32} (ho0 : isS g0) (h : f_X4_tapsLeft g0 i1 σ = some r) : MI l D (tysC cI cR) 77 ad (celC cI cR ad) okC yX4_tapsLeft cX4_tapsLeft 4 .int 4 98 [.ref (ad g0), .int i1] σ r σ := by
  unfold f_X4_tapsLeft at h
  refine entI "WokenYears$Street" hap (by decide +kernel) rfl (Nat.le_of_ble_eq_true rfl) (fun p e s m args below meth c C => ?_)
  refine J_sub (lv' := [(0, .ref (ad g0)), (1, .int i1)]) [0, 1] rfl ?_
  refine J_iconst (v := 0 ) (q := 1) C dX4_tapsLeft_0 rfl rfl ?_
  refine J_istore_n (q := 2) C dX4_tapsLeft_1 rfl rfl (by decide) rfl ?_
  refine J_iconst (v := 0 ) (q := 3) C dX4_tapsLeft_2 rfl rfl ?_
  refine J_istore_n (q := 4) C dX4_tapsLeft_3 rfl rfl (by decide) rfl ?_
  refine J_sub [2, 3, 1, 0] rfl ?_
  refine cl_X4_tapsLeft_4 hap C ho0 r  (fun v2_42 h => ?_) FU _ _ h
  · refine J_iload_n (q := 43) C dX4_tapsLeft_42 rfl rfl 0 rfl ?_
    obtain rfl := Option.some.inj h
    exact J_iret C dX4_tapsLeft_43
set_option maxHeartbeats 4000000 in
set_option maxRecDepth 100000 in
theorem c_X3_fewest {l : Launch} {D : va_G} {cI cR : ClassId} {ad : Nat → Nat} (hap : apN 77 ad) {g1 : Nat} {i2 : Int32} {σ : Sg} {r : Int32} {σo : Sg} (ho1 : isS g1) (h : f_X3_fewest g1 i2 σ = some (r, σo)) : MI l D (tysC cI cR) 77 ad (celC cI cR ad) okC yX3_fewest cX3_fewest 5 .int 20 700 [.ref (ad 2), .ref (ad g1), .int i2] σ r σo := by
  unfold f_X3_fewest at h
  refine entI "WokenYears$Rounds" hap (by decide +kernel) rfl (Nat.le_of_ble_eq_true rfl) (fun p e s m args below meth c C => ?_)
  refine J_sub (lv' := [(0, .ref (ad 2)), (1, .ref (ad g1)), (2, .int i2)]) [0, 1, 2] rfl ?_
  refine J_aload_n (q := 1) C dX3_fewest_0 rfl rfl 0 rfl ?_
  refine J_aload_n (q := 2) C dX3_fewest_1 rfl rfl 1 rfl ?_
  obtain ⟨σ1, ec1, h⟩ := bnd_of h
  refine J_callXV (q := 5) (As := [.ref (ad g1)]) C (c_X3_start hap ho1 ec1) ok_X3_start kM_X3_70 (by decide) rfl rfl rfl rfl rfl rfl ⟨Nat.le_of_ble_eq_true rfl, Nat.le_of_ble_eq_true rfl⟩ (Nat.le_of_ble_eq_true rfl) dX3_fewest_2 rfl ?_
  refine J_aload_n (q := 6) C dX3_fewest_5 rfl rfl 1 rfl ?_
  refine J_iload_n (q := 7) C dX3_fewest_6 rfl rfl 2 rfl ?_
  obtain ⟨r2, ec2, h⟩ := bnd_of h
  refine J_callIV (q := 10) (As := [.int i2]) C (c_X4_tapsLeft hap ho1 ec2) ok_X4_tapsLeft kM_X3_74 (lt77S ho1) (celC_S ho1) rfl rfl rfl rfl rfl ⟨Nat.le_of_ble_eq_true rfl, Nat.le_of_ble_eq_true rfl⟩ (Nat.le_of_ble_eq_true rfl) dX3_fewest_7 rfl ?_
  refine J_istore_n (q := 11) C dX3_fewest_10 rfl rfl (by decide) rfl ?_
  refine J_sipush (v := 1000) (q := 14) C dX3_fewest_11 rfl rfl ?_
  refine J_istore (q := 16) C dX3_fewest_14 rfl (by decide) rfl ?_
  refine J_aload_n (q := 17) C dX3_fewest_16 rfl rfl 2 rfl ?_
  refine J_iload (q := 19) C dX3_fewest_17 rfl 0 rfl ?_
  refine JC_p_X3_bestWalked (q := 22) C kF_X3_77 dX3_fewest_19 rfl ?_
  refine jn_elim h (fun σ3 eσ3 h => ?_)
  rw [← eσ3]
  refine J_aload_n (q := 23) C dX3_fewest_22 rfl rfl 2 rfl ?_
  refine JC_g_X3_order (q := 26) C kF_X3_20 dX3_fewest_23 rfl ?_
  refine J_iload_n (q := 27) C dX3_fewest_26 rfl rfl 4 rfl ?_
  obtain ⟨r4, ec4, h⟩ := bnd_of h
  refine J_callIS (q := 30) (As := [.int i2]) C (c_J6_bitCount_0f7a4 hap  ec4) ok_J6_bitCount_0f7a4 kM_X3_80 rfl rfl rfl ⟨Nat.le_of_ble_eq_true rfl, Nat.le_of_ble_eq_true rfl⟩ (Nat.le_of_ble_eq_true rfl) dX3_fewest_27 rfl ?_
  refine J_iconst (v := 0 ) (q := 31) C dX3_fewest_30 rfl rfl ?_
  obtain ⟨σ5, ec5, h⟩ := bnd_of h
  refine J_callXV (q := 34) (As := [.int r4, .int (0 : Int32)]) C (c_X0_fill hap isI_34 ec5) ok_X0_fill kM_X3_38 (lt77I isI_34) (celC_I isI_34) rfl rfl rfl rfl rfl ⟨Nat.le_of_ble_eq_true rfl, Nat.le_of_ble_eq_true rfl⟩ (Nat.le_of_ble_eq_true rfl) dX3_fewest_31 rfl ?_
  refine J_aload_n (q := 35) C dX3_fewest_34 rfl rfl 2 rfl ?_
  refine J_iconst (v := 0 ) (q := 36) C dX3_fewest_35 rfl rfl ?_
  refine J_iload_n (q := 37) C dX3_fewest_36 rfl rfl 4 rfl ?_
  refine J_aload_n (q := 38) C dX3_fewest_37 rfl rfl 3 rfl ?_
  refine JC_g_X4_place (q := 41) C ho1 kF_X3_85 dX3_fewest_38 rfl ?_
  refine J_iconst (v := 0 ) (q := 42) C dX3_fewest_41 rfl rfl ?_
  refine J_iconst (v := 0 ) (q := 43) C dX3_fewest_42 rfl rfl ?_
  obtain ⟨σ6, ec6, h⟩ := bnd_of h
  refine J_callXS (q := 46) (As := [.ref (ad 2), .int (0 : Int32), .int i2, .int (gS σ5 (16 * g1 + 13)), .int (0 : Int32), .int (0 : Int32)]) C (c_X3_seek hap 9  ec6) ok_X3_seek kM_X3_88 rfl rfl rfl ⟨Nat.le_of_ble_eq_true rfl, Nat.le_of_ble_eq_true rfl⟩ (Nat.le_of_ble_eq_true rfl) dX3_fewest_43 rfl ?_
  refine J_aload_n (q := 47) C dX3_fewest_46 rfl rfl 2 rfl ?_
  refine JC_g_X3_bestWalked (q := 50) C kF_X3_77 dX3_fewest_47 rfl ?_
  refine J_iload (q := 52) C dX3_fewest_50 rfl 0 rfl ?_
  refine J_icmp_ne (tgt := 60) (q := 55) C dX3_fewest_52 rfl (by decide) h (fun _ h => ?_) (fun _ h => ?_)
  · refine J_bipush (v := -9) (q := 57) C dX3_fewest_55 rfl rfl ?_
    refine J_goto (tgt := 66) C dX3_fewest_57 (by decide) ?_
    obtain ⟨rfl, rfl⟩ := Prod.mk.inj (Option.some.inj h)
    exact J_iret C dX3_fewest_66
  · refine J_aload_n (q := 61) C dX3_fewest_60 rfl rfl 2 rfl ?_
    refine JC_g_X3_bestWalked (q := 64) C kF_X3_77 dX3_fewest_61 rfl ?_
    refine J_iload_n (q := 65) C dX3_fewest_64 rfl rfl 1 rfl ?_
    refine J_iadd (q := 66) C dX3_fewest_65 rfl ?_
    obtain ⟨rfl, rfl⟩ := Prod.mk.inj (Option.some.inj h)
    exact J_iret C dX3_fewest_66
set_option maxHeartbeats 4000000 in
set_option maxRecDepth 100000 in
theorem cl_X3_endAt_44 {p : Program} {l : Launch} {e : Env} {s : State} {m : MethodId} {args : Array Value} {below : List Frame} {meth : Method} {c : Code} {D : va_G} {cI cR : ClassId} {ad : Nat → Nat} (hap : apN 77 ad) (C : Cx p s m args meth c cX3_endAt 9 "WokenYears$Rounds" D (tysC cI cR) 77 ad (some .int)) {a2 : Int32} {a4 : Int32} {k126 : Int32 → Option Int32} {σ : Sg} (r : Int32)  (hk126 : ∀ (u5 : Int32), k126 u5 = some r → Jd p l e (rmF 2 51) s m args below meth c D 77 ad (celC cI cR ad) okC 9 (MQ below (QI D (tysC cI cR) 77 ad (celC cI cR ad) okC r σ) args s 0 0 (inA 77 ad)) 126 [(0, .ref (ad 2)), (2, .int a2), (5, .int u5)] [] σ) : ∀ (n : Nat) (x5 : Int32) (x6 : Int32), l_X3_endAt_44 a2 a4 σ k126 n x5 x6 = some r → Jd p l e (rmF 2 51) s m args below meth c D 77 ad (celC cI cR ad) okC 9 (MQ below (QI D (tysC cI cR) 77 ad (celC cI cR ad) okC r σ) args s 0 0 (inA 77 ad)) 44 [(0, .ref (ad 2)), (2, .int a2), (4, .int a4), (5, .int x5), (6, .int x6)] [] σ := by
  intro n
  induction n with
  | zero => intro x5 x6 h; cases h
  | succ n ih =>
    intro x5 x6 h
    unfold l_X3_endAt_44 at h
    refine J_iload (q := 46) C dX3_endAt_44 rfl 4 rfl ?_
    refine J_bipush (v := 6) (q := 48) C dX3_endAt_46 rfl rfl ?_
    refine J_icmp_ge (tgt := 126) (q := 51) C dX3_endAt_48 rfl (by decide) h (fun _ h => ?_) (fun _ h => ?_)
    · refine J_sub [0, 1, 3] rfl ?_
      exact hk126 _ h
    · refine J_iload (q := 53) C dX3_endAt_51 rfl 2 rfl ?_
      refine J_iload (q := 55) C dX3_endAt_53 rfl 4 rfl ?_
      obtain ⟨r3, ec3, h⟩ := bnd_of h
      refine J_callISN (q := 58) (As := [.int a4, .int x6]) C (c_X5_holds hap  ec3) ok_X5_holds C.2.2.2.2.2.2.2.2.2.2.2.2 rfl rfl rfl ⟨Nat.le_of_ble_eq_true rfl, Nat.le_of_ble_eq_true rfl⟩ (Nat.le_of_ble_eq_true rfl) dX3_endAt_55 rfl ?_
      refine jn_elim h (fun k81 ek81 h => ?_)
      have hk81 : ∀ (t0_81 : Int32), k81 t0_81 = some r → Jd p l e (rmF 2 51) s m args below meth c D 77 ad (celC cI cR ad) okC 9 (MQ below (QI D (tysC cI cR) 77 ad (celC cI cR ad) okC r σ) args s 0 0 (inA 77 ad)) 81 [(0, .ref (ad 2)), (2, .int a2), (4, .int a4), (5, .int x5), (6, .int x6)] [.int t0_81] σ := by
        intro t0_81 h
        rw [ek81] at h
        refine J_istore (q := 83) C dX3_endAt_81 rfl (by decide) rfl ?_
        refine J_iload (q := 85) C dX3_endAt_83 rfl 0 rfl ?_
        refine J_iload_n (q := 86) C dX3_endAt_85 rfl rfl 2 rfl ?_
        refine J_iload (q := 88) C dX3_endAt_86 rfl 5 rfl ?_
        refine J_isub (q := 89) C dX3_endAt_88 rfl ?_
        refine J_mabs (q := 92) C kM_X3_67 kMath_abs_s kMath_abs_c (Nat.le_of_ble_eq_true rfl) (Nat.le_of_ble_eq_true rfl) dX3_endAt_89 rfl ?_
        refine J_iadd (q := 93) C dX3_endAt_92 rfl ?_
        refine J_nmi h (fun y4 ey4 h => ?_)
        refine J_istore (q := 95) C dX3_endAt_93 rfl (by decide) rfl ?_
        refine J_iload (q := 97) C dX3_endAt_95 rfl 1 rfl ?_
        refine J_bipush (v := -9) (q := 99) C dX3_endAt_97 rfl rfl ?_
        refine jn_elim h (fun k120 ek120 h => ?_)
        have hk120 : ∀ (u5_120 : Int32), k120 u5_120 = some r → Jd p l e (rmF 2 51) s m args below meth c D 77 ad (celC cI cR ad) okC 9 (MQ below (QI D (tysC cI cR) 77 ad (celC cI cR ad) okC r σ) args s 0 0 (inA 77 ad)) 120 [(0, .ref (ad 2)), (2, .int a2), (4, .int a4), (5, .int u5_120), (6, .int x6)] [] σ := by
          intro u5_120 h
          rw [ek120] at h
          refine jn_elim h (fun y5 ey5 h => ?_)
          refine J_iinc (v := y5) (q := 123) C dX3_endAt_120 rfl 4 rfl (by rw [ey5]; rfl) (by decide) rfl ?_
          refine J_goto (tgt := 44) C dX3_endAt_123 (by decide) ?_
          refine J_sub [1, 2, 3, 4, 0] rfl ?_
          exact ih _ _ h
        refine J_icmp_eq (tgt := 120) (q := 102) C dX3_endAt_99 rfl (by decide) h (fun _ h => ?_) (fun _ h => ?_)
        · refine J_sub [2, 3, 4, 5, 6] rfl ?_
          exact hk120 _ h
        · refine J_iload (q := 104) C dX3_endAt_102 rfl 5 rfl ?_
          refine J_bipush (v := -9) (q := 106) C dX3_endAt_104 rfl rfl ?_
          refine jn_elim h (fun k116 ek116 h => ?_)
          have hk116 : k116 = some r → Jd p l e (rmF 2 51) s m args below meth c D 77 ad (celC cI cR ad) okC 9 (MQ below (QI D (tysC cI cR) 77 ad (celC cI cR ad) okC r σ) args s 0 0 (inA 77 ad)) 116 [(0, .ref (ad 2)), (2, .int a2), (4, .int a4), (6, .int x6), (8, .int y4)] [] σ := by
            intro  h
            rw [ek116] at h
            refine J_iload (q := 118) C dX3_endAt_116 rfl 4 rfl ?_
            refine J_istore (q := 120) C dX3_endAt_118 rfl (by decide) rfl ?_
            refine J_sub [1, 2, 3, 0, 4] rfl ?_
            exact hk120 _ h
          refine J_icmp_eq (tgt := 116) (q := 109) C dX3_endAt_106 rfl (by decide) h (fun _ h => ?_) (fun _ h => ?_)
          · refine J_sub [2, 3, 4, 6, 0] rfl ?_
            exact hk116 h
          · refine J_iload (q := 111) C dX3_endAt_109 rfl 0 rfl ?_
            refine J_iload (q := 113) C dX3_endAt_111 rfl 5 rfl ?_
            refine J_icmp_ge (tgt := 120) (q := 116) C dX3_endAt_113 rfl (by decide) h (fun _ h => ?_) (fun _ h => ?_)
            · refine J_sub [2, 3, 4, 5, 6] rfl ?_
              exact hk120 _ h
            · refine J_sub [2, 3, 4, 6, 0] rfl ?_
              exact hk116 h
      refine J_ifeq_b (tgt := 79) (q := 61) C dX3_endAt_58 rfl (by decide) h (fun _ h => ?_) (fun _ h => ?_)
      · refine J_aload_n (q := 62) C dX3_endAt_61 rfl rfl 0 rfl ?_
        refine JC_g_X3_ends (q := 65) C kF_X3_14 dX3_endAt_62 rfl ?_
        refine J_iload (q := 67) C dX3_endAt_65 rfl 2 rfl ?_
        refine J_bipush (v := 6) (q := 69) C dX3_endAt_67 rfl rfl ?_
        refine J_imul (q := 70) C dX3_endAt_69 rfl ?_
        refine J_iload (q := 72) C dX3_endAt_70 rfl 4 rfl ?_
        refine J_iadd (q := 73) C dX3_endAt_72 rfl ?_
        obtain ⟨r6, ec6, h⟩ := bnd_of h
        refine J_callIV (q := 76) (As := [.int ((a4 * (6 : Int32)) + x6)]) C (c_X0_get hap isI_33 ec6) ok_X0_get kM_X3_51 (lt77I isI_33) (celC_I isI_33) rfl rfl rfl rfl rfl ⟨Nat.le_of_ble_eq_true rfl, Nat.le_of_ble_eq_true rfl⟩ (Nat.le_of_ble_eq_true rfl) dX3_endAt_73 rfl ?_
        refine J_goto (tgt := 81) C dX3_endAt_76 (by decide) ?_
        exact hk81 _ h
      · refine J_bipush (v := -9) (q := 81) C dX3_endAt_79 rfl rfl ?_
        exact hk81 _ h
set_option maxHeartbeats 4000000 in
set_option maxRecDepth 100000 in
theorem c_X3_endAt {l : Launch} {D : va_G} {cI cR : ClassId} {ad : Nat → Nat} (hap : apN 77 ad) {i1 : Int32} {i2 : Int32} {i3 : Int32} {σ : Sg} {r : Int32}  (h : f_X3_endAt i1 i2 i3 σ = some r) : MI l D (tysC cI cR) 77 ad (celC cI cR ad) okC yX3_endAt cX3_endAt 9 .int 2 51 [.ref (ad 2), .int i1, .int i2, .int i3] σ r σ := by
  unfold f_X3_endAt at h
  refine entI "WokenYears$Rounds" hap (by decide +kernel) rfl (Nat.le_of_ble_eq_true rfl) (fun p e s m args below meth c C => ?_)
  refine J_sub (lv' := [(0, .ref (ad 2)), (1, .int i1), (2, .int i2), (3, .int i3)]) [0, 1, 2, 3] rfl ?_
  refine J_aload_n (q := 1) C dX3_endAt_0 rfl rfl 0 rfl ?_
  refine JC_g_X3_more (q := 4) C kF_X3_23 dX3_endAt_1 rfl ?_
  refine J_iload_n (q := 5) C dX3_endAt_4 rfl rfl 2 rfl ?_
  obtain ⟨r1, ec1, h⟩ := bnd_of h
  refine J_callIV (q := 8) (As := [.int i2]) C (c_X0_get hap isI_35 ec1) ok_X0_get kM_X3_51 (lt77I isI_35) (celC_I isI_35) rfl rfl rfl rfl rfl ⟨Nat.le_of_ble_eq_true rfl, Nat.le_of_ble_eq_true rfl⟩ (Nat.le_of_ble_eq_true rfl) dX3_endAt_5 rfl ?_
  refine J_if_gt (tgt := 14) (q := 11) C dX3_endAt_8 rfl (by decide) h (fun _ h => ?_) (fun _ h => ?_)
  · refine J_iload_n (q := 15) C dX3_endAt_14 rfl rfl 1 rfl ?_
    refine J_iconst (v := 1 ) (q := 16) C dX3_endAt_15 rfl rfl ?_
    refine J_iload_n (q := 17) C dX3_endAt_16 rfl rfl 2 rfl ?_
    refine J_ishl (q := 18) C dX3_endAt_17 rfl ?_
    refine J_iconst (v := -1 ) (q := 19) C dX3_endAt_18 rfl rfl ?_
    refine J_ixor (q := 20) C dX3_endAt_19 rfl ?_
    refine J_iand (q := 21) C dX3_endAt_20 rfl ?_
    refine J_nmi h (fun y2 ey2 h => ?_)
    refine J_istore (q := 23) C dX3_endAt_21 rfl (by decide) rfl ?_
    refine J_iload (q := 25) C dX3_endAt_23 rfl 0 rfl ?_
    refine jn_elim h (fun k39 ek39 h => ?_)
    have hk39 : ∀ (t0_39 : Int32), k39 t0_39 = some r → Jd p l e (rmF 2 51) s m args below meth c D 77 ad (celC cI cR ad) okC 9 (MQ below (QI D (tysC cI cR) 77 ad (celC cI cR ad) okC r σ) args s 0 0 (inA 77 ad)) 39 [(0, .ref (ad 2)), (2, .int i2), (4, .int y2)] [.int t0_39] σ := by
      intro t0_39 h
      rw [ek39] at h
      refine J_istore (q := 41) C dX3_endAt_39 rfl (by decide) rfl ?_
      refine J_iconst (v := 0 ) (q := 42) C dX3_endAt_41 rfl rfl ?_
      refine J_istore (q := 44) C dX3_endAt_42 rfl (by decide) rfl ?_
      refine J_sub [2, 3, 4, 1, 0] rfl ?_
      refine cl_X3_endAt_44 hap C r  (fun v5_126 h => ?_) FU _ _ h
      · refine J_iload (q := 128) C dX3_endAt_126 rfl 2 rfl ?_
        refine J_bipush (v := -9) (q := 130) C dX3_endAt_128 rfl rfl ?_
        refine jn_elim h (fun k160 ek160 h => ?_)
        have hk160 : ∀ (t0_160 : Bool), k160 t0_160 = some r → Jd p l e (rmF 2 51) s m args below meth c D 77 ad (celC cI cR ad) okC 9 (MQ below (QI D (tysC cI cR) 77 ad (celC cI cR ad) okC r σ) args s 0 0 (inA 77 ad)) 160 [(0, .ref (ad 2)), (2, .int i2), (5, .int v5_126)] [.int (b2i t0_160)] σ := by
          intro t0_160 h
          rw [ek160] at h
          refine J_istore (q := 162) C dX3_endAt_160 rfl (by decide) rfl ?_
          refine J_iload (q := 164) C dX3_endAt_162 rfl 0 rfl ?_
          refine J_ifeq_b (tgt := 181) (q := 167) C dX3_endAt_164 rfl (by decide) h (fun _ h => ?_) (fun _ h => ?_)
          · refine J_iload (q := 169) C dX3_endAt_167 rfl 3 rfl ?_
            refine J_aload_n (q := 170) C dX3_endAt_169 rfl rfl 1 rfl ?_
            refine JC_g_X3_more (q := 173) C kF_X3_23 dX3_endAt_170 rfl ?_
            refine J_iload_n (q := 174) C dX3_endAt_173 rfl rfl 2 rfl ?_
            obtain ⟨r7, ec7, h⟩ := bnd_of h
            refine J_callIV (q := 177) (As := [.int i2]) C (c_X0_get hap isI_35 ec7) ok_X0_get kM_X3_51 (lt77I isI_35) (celC_I isI_35) rfl rfl rfl rfl rfl ⟨Nat.le_of_ble_eq_true rfl, Nat.le_of_ble_eq_true rfl⟩ (Nat.le_of_ble_eq_true rfl) dX3_endAt_174 rfl ?_
            refine J_iadd (q := 178) C dX3_endAt_177 rfl ?_
            refine J_goto (tgt := 183) C dX3_endAt_178 (by decide) ?_
            obtain rfl := Option.some.inj h
            exact J_iret C dX3_endAt_183
          · refine J_bipush (v := -9) (q := 183) C dX3_endAt_181 rfl rfl ?_
            obtain rfl := Option.some.inj h
            exact J_iret C dX3_endAt_183
        refine jn_elim h (fun k159 ek159 h => ?_)
        have hk159 : k159 = some r → Jd p l e (rmF 2 51) s m args below meth c D 77 ad (celC cI cR ad) okC 9 (MQ below (QI D (tysC cI cR) 77 ad (celC cI cR ad) okC r σ) args s 0 0 (inA 77 ad)) 159 [(0, .ref (ad 2)), (2, .int i2), (5, .int v5_126)] [] σ := by
          intro  h
          rw [ek159] at h
          refine J_iconst (v := 0 ) (q := 160) C dX3_endAt_159 rfl rfl ?_
          exact hk160 _ h
        refine J_icmp_eq (tgt := 159) (q := 133) C dX3_endAt_130 rfl (by decide) h (fun _ h => ?_) (fun _ h => ?_)
        · exact hk159 h
        · refine J_iload (q := 135) C dX3_endAt_133 rfl 2 rfl ?_
          refine J_aload_n (q := 136) C dX3_endAt_135 rfl rfl 0 rfl ?_
          refine JC_g_X3_more (q := 139) C kF_X3_23 dX3_endAt_136 rfl ?_
          refine J_iload_n (q := 140) C dX3_endAt_139 rfl rfl 1 rfl ?_
          obtain ⟨r8, ec8, h⟩ := bnd_of h
          refine J_callIV (q := 143) (As := [.int i2]) C (c_X0_get hap isI_35 ec8) ok_X0_get kM_X3_51 (lt77I isI_35) (celC_I isI_35) rfl rfl rfl rfl rfl ⟨Nat.le_of_ble_eq_true rfl, Nat.le_of_ble_eq_true rfl⟩ (Nat.le_of_ble_eq_true rfl) dX3_endAt_140 rfl ?_
          refine J_iadd (q := 144) C dX3_endAt_143 rfl ?_
          refine J_aload_n (q := 145) C dX3_endAt_144 rfl rfl 0 rfl ?_
          refine JC_g_X3_spare (q := 148) C kF_X3_26 dX3_endAt_145 rfl ?_
          refine J_iload_n (q := 149) C dX3_endAt_148 rfl rfl 1 rfl ?_
          obtain ⟨r9, ec9, h⟩ := bnd_of h
          refine J_callIV (q := 152) (As := [.int i2]) C (c_X0_get hap isI_36 ec9) ok_X0_get kM_X3_51 (lt77I isI_36) (celC_I isI_36) rfl rfl rfl rfl rfl ⟨Nat.le_of_ble_eq_true rfl, Nat.le_of_ble_eq_true rfl⟩ (Nat.le_of_ble_eq_true rfl) dX3_endAt_149 rfl ?_
          refine J_icmp_gt (tgt := 159) (q := 155) C dX3_endAt_152 rfl (by decide) h (fun _ h => ?_) (fun _ h => ?_)
          · exact hk159 h
          · refine J_iconst (v := 1 ) (q := 156) C dX3_endAt_155 rfl rfl ?_
            refine J_goto (tgt := 160) C dX3_endAt_156 (by decide) ?_
            exact hk160 _ h
    refine J_if_ne (tgt := 37) (q := 28) C dX3_endAt_25 rfl (by decide) h (fun _ h => ?_) (fun _ h => ?_)
    · refine J_iload_n (q := 29) C dX3_endAt_28 rfl rfl 3 rfl ?_
      refine J_iload_n (q := 30) C dX3_endAt_29 rfl rfl 4 rfl ?_
      refine J_isub (q := 31) C dX3_endAt_30 rfl ?_
      refine J_mabs (q := 34) C kM_X3_67 kMath_abs_s kMath_abs_c (Nat.le_of_ble_eq_true rfl) (Nat.le_of_ble_eq_true rfl) dX3_endAt_31 rfl ?_
      refine J_goto (tgt := 39) C dX3_endAt_34 (by decide) ?_
      refine J_sub [1, 3, 0] rfl ?_
      exact hk39 _ h
    · refine J_bipush (v := -9) (q := 39) C dX3_endAt_37 rfl rfl ?_
      refine J_sub [1, 3, 0] rfl ?_
      exact hk39 _ h
  · refine J_bipush (v := -9) (q := 13) C dX3_endAt_11 rfl rfl ?_
    obtain rfl := Option.some.inj h
    exact J_iret C dX3_endAt_13
set_option maxHeartbeats 4000000 in
set_option maxRecDepth 100000 in
theorem cl_X3_greatest_41 {p : Program} {l : Launch} {e : Env} {s : State} {m : MethodId} {args : Array Value} {below : List Frame} {meth : Method} {c : Code} {D : va_G} {cI cR : ClassId} {ad : Nat → Nat} (hap : apN 77 ad) (C : Cx p s m args meth c cX3_greatest 7 "WokenYears$Rounds" D (tysC cI cR) 77 ad (some .int)) {b1 : Nat} {a2 : Int32} {a3 : Int32} (hb1 : isS b1) {k118 : Bool → Sg → Option (Int32 × Sg)} (r : Int32) (σo : Sg)  (hk118 : ∀ (u4 : Bool) (σ1 : Sg), k118 u4 σ1 = some (r, σo) → Jd p l e (rmF 5 120) s m args below meth c D 77 ad (celC cI cR ad) okC 7 (MQ below (QI D (tysC cI cR) 77 ad (celC cI cR ad) okC r σo) args s 0 0 (inA 77 ad)) 118 [(0, .ref (ad 2)), (1, .ref (ad b1)), (2, .int a2), (3, .int a3), (4, .int (b2i u4))] [] σ1) : ∀ (n : Nat) (x4 : Bool) (x5 : Int32) (σx : Sg), l_X3_greatest_41 b1 a2 a3 k118 n x4 x5 σx = some (r, σo) → Jd p l e (rmF 5 120) s m args below meth c D 77 ad (celC cI cR ad) okC 7 (MQ below (QI D (tysC cI cR) 77 ad (celC cI cR ad) okC r σo) args s 0 0 (inA 77 ad)) 41 [(0, .ref (ad 2)), (1, .ref (ad b1)), (2, .int a2), (3, .int a3), (4, .int (b2i x4)), (5, .int x5)] [] σx := by
  intro n
  induction n with
  | zero => intro x4 x5 σx h; cases h
  | succ n ih =>
    intro x4 x5 σx h
    unfold l_X3_greatest_41 at h
    refine J_iload (q := 43) C dX3_greatest_41 rfl 5 rfl ?_
    refine J_aload_n (q := 44) C dX3_greatest_43 rfl rfl 1 rfl ?_
    refine JC_g_X4_size (q := 47) C hb1 kF_X3_32 dX3_greatest_44 rfl ?_
    refine J_icmp_ge (tgt := 118) (q := 50) C dX3_greatest_47 rfl (by decide) h (fun _ h => ?_) (fun _ h => ?_)
    · refine J_sub [0, 1, 2, 3, 4] rfl ?_
      exact hk118 _ _ h
    · refine J_iload_n (q := 51) C dX3_greatest_50 rfl rfl 3 rfl ?_
      refine J_iload (q := 53) C dX3_greatest_51 rfl 5 rfl ?_
      obtain ⟨r3, ec3, h⟩ := bnd_of h
      refine J_callISN (q := 56) (As := [.int a3, .int x5]) C (c_X5_holds hap  ec3) ok_X5_holds C.2.2.2.2.2.2.2.2.2.2.2.2 rfl rfl rfl ⟨Nat.le_of_ble_eq_true rfl, Nat.le_of_ble_eq_true rfl⟩ (Nat.le_of_ble_eq_true rfl) dX3_greatest_53 rfl ?_
      refine jn_elim h (fun k75 ek75 h => ?_)
      have hk75 : ∀ (t0_75 : Int32), k75 t0_75 = some (r, σo) → Jd p l e (rmF 5 120) s m args below meth c D 77 ad (celC cI cR ad) okC 7 (MQ below (QI D (tysC cI cR) 77 ad (celC cI cR ad) okC r σo) args s 0 0 (inA 77 ad)) 75 [(0, .ref (ad 2)), (1, .ref (ad b1)), (2, .int a2), (3, .int a3), (4, .int (b2i x4)), (5, .int x5)] [.int t0_75] σx := by
        intro t0_75 h
        rw [ek75] at h
        refine J_istore (q := 77) C dX3_greatest_75 rfl (by decide) rfl ?_
        refine J_aload_n (q := 78) C dX3_greatest_77 rfl rfl 1 rfl ?_
        refine JC_g_X3_ends (q := 81) C kF_X3_14 dX3_greatest_78 rfl ?_
        refine J_iload_n (q := 82) C dX3_greatest_81 rfl rfl 4 rfl ?_
        refine J_bipush (v := 6) (q := 84) C dX3_greatest_82 rfl rfl ?_
        refine J_imul (q := 85) C dX3_greatest_84 rfl ?_
        refine J_iload (q := 87) C dX3_greatest_85 rfl 6 rfl ?_
        refine J_iadd (q := 88) C dX3_greatest_87 rfl ?_
        refine J_iload (q := 90) C dX3_greatest_88 rfl 0 rfl ?_
        obtain ⟨σ4, ec4, h⟩ := bnd_of h
        refine J_callXV (q := 93) (As := [.int ((a3 * (6 : Int32)) + x5), .int t0_75]) C (c_X0_set hap isI_33 ec4) ok_X0_set kM_X3_45 (lt77I isI_33) (celC_I isI_33) rfl rfl rfl rfl rfl ⟨Nat.le_of_ble_eq_true rfl, Nat.le_of_ble_eq_true rfl⟩ (Nat.le_of_ble_eq_true rfl) dX3_greatest_90 rfl ?_
        refine J_iload (q := 95) C dX3_greatest_93 rfl 5 rfl ?_
        refine jn_elim h (fun k110 ek110 h => ?_)
        have hk110 : ∀ (t0_110 : Bool), k110 t0_110 = some (r, σo) → Jd p l e (rmF 5 120) s m args below meth c D 77 ad (celC cI cR ad) okC 7 (MQ below (QI D (tysC cI cR) 77 ad (celC cI cR ad) okC r σo) args s 0 0 (inA 77 ad)) 110 [(0, .ref (ad 2)), (1, .ref (ad b1)), (2, .int a2), (3, .int a3), (5, .int x5)] [.int (b2i t0_110)] σ4 := by
          intro t0_110 h
          rw [ek110] at h
          refine J_istore (q := 112) C dX3_greatest_110 rfl (by decide) rfl ?_
          refine jn_elim h (fun y5 ey5 h => ?_)
          refine J_iinc (v := y5) (q := 115) C dX3_greatest_112 rfl 5 rfl (by rw [ey5]; rfl) (by decide) rfl ?_
          refine J_goto (tgt := 41) C dX3_greatest_115 (by decide) ?_
          refine J_sub [2, 3, 4, 5, 1, 0] rfl ?_
          exact ih _ _ _ h
        refine jn_elim h (fun k105 ek105 h => ?_)
        have hk105 : k105 = some (r, σo) → Jd p l e (rmF 5 120) s m args below meth c D 77 ad (celC cI cR ad) okC 7 (MQ below (QI D (tysC cI cR) 77 ad (celC cI cR ad) okC r σo) args s 0 0 (inA 77 ad)) 105 [(0, .ref (ad 2)), (1, .ref (ad b1)), (2, .int a2), (3, .int a3), (5, .int x5)] [] σ4 := by
          intro  h
          rw [ek105] at h
          refine J_iconst (v := 1 ) (q := 106) C dX3_greatest_105 rfl rfl ?_
          refine J_goto (tgt := 110) C dX3_greatest_106 (by decide) ?_
          exact hk110 _ h
        refine J_ifne_b (tgt := 105) (q := 98) C dX3_greatest_95 rfl (by decide) h (fun _ h => ?_) (fun _ h => ?_)
        · refine J_sub [1, 2, 3, 4, 6] rfl ?_
          exact hk105 h
        · refine J_iload (q := 100) C dX3_greatest_98 rfl 0 rfl ?_
          refine J_bipush (v := -9) (q := 102) C dX3_greatest_100 rfl rfl ?_
          refine J_icmp_eq (tgt := 109) (q := 105) C dX3_greatest_102 rfl (by decide) h (fun _ h => ?_) (fun _ h => ?_)
          · refine J_iconst (v := 0 ) (q := 110) C dX3_greatest_109 rfl rfl ?_
            refine J_sub [1, 2, 3, 4, 6] rfl ?_
            exact hk110 _ h
          · refine J_sub [1, 2, 3, 4, 6] rfl ?_
            exact hk105 h
      refine J_ifeq_b (tgt := 73) (q := 59) C dX3_greatest_56 rfl (by decide) h (fun _ h => ?_) (fun _ h => ?_)
      · refine J_aload_n (q := 60) C dX3_greatest_59 rfl rfl 0 rfl ?_
        refine J_iload_n (q := 61) C dX3_greatest_60 rfl rfl 3 rfl ?_
        refine J_iload (q := 63) C dX3_greatest_61 rfl 5 rfl ?_
        refine J_aload_n (q := 64) C dX3_greatest_63 rfl rfl 1 rfl ?_
        refine JC_g_X4_place (q := 67) C hb1 kF_X3_85 dX3_greatest_64 rfl ?_
        obtain ⟨r6, ec6, h⟩ := bnd_of h
        refine J_callIV (q := 70) (As := [.int a3, .int x5, .int (gS σx (16 * b1 + 13))]) C (c_X3_endAt hap  ec6) ok_X3_endAt kM_X3_99 (by decide) rfl rfl rfl rfl rfl rfl ⟨Nat.le_of_ble_eq_true rfl, Nat.le_of_ble_eq_true rfl⟩ (Nat.le_of_ble_eq_true rfl) dX3_greatest_67 rfl ?_
        refine J_goto (tgt := 75) C dX3_greatest_70 (by decide) ?_
        exact hk75 _ h
      · refine J_bipush (v := -9) (q := 75) C dX3_greatest_73 rfl rfl ?_
        exact hk75 _ h
set_option maxHeartbeats 4000000 in
set_option maxRecDepth 100000 in
theorem cl_X3_greatest_25 {p : Program} {l : Launch} {e : Env} {s : State} {m : MethodId} {args : Array Value} {below : List Frame} {meth : Method} {c : Code} {D : va_G} {cI cR : ClassId} {ad : Nat → Nat} (hap : apN 77 ad) (C : Cx p s m args meth c cX3_greatest 7 "WokenYears$Rounds" D (tysC cI cR) 77 ad (some .int)) {b1 : Nat} (hb1 : isS b1) {k146 : Int32 → Sg → Option (Int32 × Sg)} (r : Int32) (σo : Sg)  (hk146 : ∀ (u2 : Int32) (σ1 : Sg), k146 u2 σ1 = some (r, σo) → Jd p l e (rmF 5 120) s m args below meth c D 77 ad (celC cI cR ad) okC 7 (MQ below (QI D (tysC cI cR) 77 ad (celC cI cR ad) okC r σo) args s 0 0 (inA 77 ad)) 146 [(2, .int u2)] [] σ1) : ∀ (n : Nat) (x2 : Int32) (x3 : Int32) (σx : Sg), l_X3_greatest_25 b1 k146 n x2 x3 σx = some (r, σo) → Jd p l e (rmF 5 120) s m args below meth c D 77 ad (celC cI cR ad) okC 7 (MQ below (QI D (tysC cI cR) 77 ad (celC cI cR ad) okC r σo) args s 0 0 (inA 77 ad)) 25 [(0, .ref (ad 2)), (1, .ref (ad b1)), (2, .int x2), (3, .int x3)] [] σx := by
  intro n
  induction n with
  | zero => intro x2 x3 σx h; cases h
  | succ n ih =>
    intro x2 x3 σx h
    unfold l_X3_greatest_25 at h
    refine J_iload_n (q := 26) C dX3_greatest_25 rfl rfl 3 rfl ?_
    refine J_iconst (v := 1 ) (q := 27) C dX3_greatest_26 rfl rfl ?_
    refine J_aload_n (q := 28) C dX3_greatest_27 rfl rfl 1 rfl ?_
    refine JC_g_X4_size (q := 31) C hb1 kF_X3_32 dX3_greatest_28 rfl ?_
    refine J_ishl (q := 32) C dX3_greatest_31 rfl ?_
    refine J_icmp_ge (tgt := 146) (q := 35) C dX3_greatest_32 rfl (by decide) h (fun _ h => ?_) (fun _ h => ?_)
    · refine J_sub [2] rfl ?_
      exact hk146 _ _ h
    · refine J_iconst (v := 0 ) (q := 36) C dX3_greatest_35 rfl rfl ?_
      refine J_istore (q := 38) C dX3_greatest_36 rfl (by decide) rfl ?_
      refine J_iconst (v := 0 ) (q := 39) C dX3_greatest_38 rfl rfl ?_
      refine J_istore (q := 41) C dX3_greatest_39 rfl (by decide) rfl ?_
      refine J_sub [2, 3, 4, 5, 1, 0] rfl ?_
      refine cl_X3_greatest_41 hap C hb1 r σo  (fun v4_118 σv118 h => ?_) FU _ _ _ h
      · refine J_iload (q := 120) C dX3_greatest_118 rfl 4 rfl ?_
        refine jn_elim h (fun k139 ek139 h => ?_)
        have hk139 : ∀ (t0_139 : Int32), k139 t0_139 = some (r, σo) → Jd p l e (rmF 5 120) s m args below meth c D 77 ad (celC cI cR ad) okC 7 (MQ below (QI D (tysC cI cR) 77 ad (celC cI cR ad) okC r σo) args s 0 0 (inA 77 ad)) 139 [(0, .ref (ad 2)), (1, .ref (ad b1)), (3, .int x3)] [.int t0_139] σv118 := by
          intro t0_139 h
          rw [ek139] at h
          refine J_istore_n (q := 140) C dX3_greatest_139 rfl rfl (by decide) rfl ?_
          refine jn_elim h (fun y7 ey7 h => ?_)
          refine J_iinc (v := y7) (q := 143) C dX3_greatest_140 rfl 3 rfl (by rw [ey7]; rfl) (by decide) rfl ?_
          refine J_goto (tgt := 25) C dX3_greatest_143 (by decide) ?_
          refine J_sub [2, 3, 1, 0] rfl ?_
          exact ih _ _ _ h
        refine jn_elim h (fun k138 ek138 h => ?_)
        have hk138 : k138 = some (r, σo) → Jd p l e (rmF 5 120) s m args below meth c D 77 ad (celC cI cR ad) okC 7 (MQ below (QI D (tysC cI cR) 77 ad (celC cI cR ad) okC r σo) args s 0 0 (inA 77 ad)) 138 [(0, .ref (ad 2)), (1, .ref (ad b1)), (2, .int x2), (3, .int x3)] [] σv118 := by
          intro  h
          rw [ek138] at h
          refine J_iload_n (q := 139) C dX3_greatest_138 rfl rfl 2 rfl ?_
          refine J_sub [0, 1, 3] rfl ?_
          exact hk139 _ h
        refine J_ifeq_b (tgt := 138) (q := 123) C dX3_greatest_120 rfl (by decide) h (fun _ h => ?_) (fun _ h => ?_)
        · refine J_iload_n (q := 124) C dX3_greatest_123 rfl rfl 3 rfl ?_
          obtain ⟨r8, ec8, h⟩ := bnd_of h
          refine J_callIS (q := 127) (As := [.int x3]) C (c_J6_bitCount_0f7a4 hap  ec8) ok_J6_bitCount_0f7a4 kM_X3_80 rfl rfl rfl ⟨Nat.le_of_ble_eq_true rfl, Nat.le_of_ble_eq_true rfl⟩ (Nat.le_of_ble_eq_true rfl) dX3_greatest_124 rfl ?_
          refine J_iload_n (q := 128) C dX3_greatest_127 rfl rfl 2 rfl ?_
          obtain ⟨r9, ec9, h⟩ := bnd_of h
          refine J_callIS (q := 131) (As := [.int x2]) C (c_J6_bitCount_0f7a4 hap  ec9) ok_J6_bitCount_0f7a4 kM_X3_80 rfl rfl rfl ⟨Nat.le_of_ble_eq_true rfl, Nat.le_of_ble_eq_true rfl⟩ (Nat.le_of_ble_eq_true rfl) dX3_greatest_128 rfl ?_
          refine J_icmp_le (tgt := 138) (q := 134) C dX3_greatest_131 rfl (by decide) h (fun _ h => ?_) (fun _ h => ?_)
          · refine J_sub [0, 1, 2, 3] rfl ?_
            exact hk138 h
          · refine J_iload_n (q := 135) C dX3_greatest_134 rfl rfl 3 rfl ?_
            refine J_goto (tgt := 139) C dX3_greatest_135 (by decide) ?_
            refine J_sub [0, 1, 3] rfl ?_
            exact hk139 _ h
        · refine J_sub [0, 1, 2, 3] rfl ?_
          exact hk138 h
set_option maxHeartbeats 4000000 in
set_option maxRecDepth 100000 in
theorem c_X3_greatest {l : Launch} {D : va_G} {cI cR : ClassId} {ad : Nat → Nat} (hap : apN 77 ad) {g1 : Nat} {σ : Sg} {r : Int32} {σo : Sg} (ho1 : isS g1) (h : f_X3_greatest g1 σ = some (r, σo)) : MI l D (tysC cI cR) 77 ad (celC cI cR ad) okC yX3_greatest cX3_greatest 7 .int 5 120 [.ref (ad 2), .ref (ad g1)] σ r σo := by
  unfold f_X3_greatest at h
  refine entI "WokenYears$Rounds" hap (by decide +kernel) rfl (Nat.le_of_ble_eq_true rfl) (fun p e s m args below meth c C => ?_)
  refine J_sub (lv' := [(0, .ref (ad 2)), (1, .ref (ad g1))]) [0, 1] rfl ?_
  refine J_aload_n (q := 1) C dX3_greatest_0 rfl rfl 0 rfl ?_
  refine J_aload_n (q := 2) C dX3_greatest_1 rfl rfl 1 rfl ?_
  obtain ⟨σ1, ec1, h⟩ := bnd_of h
  refine J_callXV (q := 5) (As := [.ref (ad g1)]) C (c_X3_start hap ho1 ec1) ok_X3_start kM_X3_70 (by decide) rfl rfl rfl rfl rfl rfl ⟨Nat.le_of_ble_eq_true rfl, Nat.le_of_ble_eq_true rfl⟩ (Nat.le_of_ble_eq_true rfl) dX3_greatest_2 rfl ?_
  refine J_aload_n (q := 6) C dX3_greatest_5 rfl rfl 0 rfl ?_
  refine JC_g_X3_ends (q := 9) C kF_X3_14 dX3_greatest_6 rfl ?_
  refine J_bipush (v := 6) (q := 11) C dX3_greatest_9 rfl rfl ?_
  refine J_aload_n (q := 12) C dX3_greatest_11 rfl rfl 1 rfl ?_
  refine JC_g_X4_size (q := 15) C ho1 kF_X3_32 dX3_greatest_12 rfl ?_
  refine J_ishl (q := 16) C dX3_greatest_15 rfl ?_
  refine J_bipush (v := -9) (q := 18) C dX3_greatest_16 rfl rfl ?_
  obtain ⟨σ2, ec2, h⟩ := bnd_of h
  refine J_callXV (q := 21) (As := [.int ((6 : Int32) <<< ((gS σ1 (16 * g1 + 7)) &&& 31)), .int (-9 : Int32)]) C (c_X0_fill hap isI_33 ec2) ok_X0_fill kM_X3_38 (lt77I isI_33) (celC_I isI_33) rfl rfl rfl rfl rfl ⟨Nat.le_of_ble_eq_true rfl, Nat.le_of_ble_eq_true rfl⟩ (Nat.le_of_ble_eq_true rfl) dX3_greatest_18 rfl ?_
  refine J_iconst (v := 0 ) (q := 22) C dX3_greatest_21 rfl rfl ?_
  refine J_istore_n (q := 23) C dX3_greatest_22 rfl rfl (by decide) rfl ?_
  refine J_iconst (v := 1 ) (q := 24) C dX3_greatest_23 rfl rfl ?_
  refine J_istore_n (q := 25) C dX3_greatest_24 rfl rfl (by decide) rfl ?_
  refine J_sub [2, 3, 1, 0] rfl ?_
  refine cl_X3_greatest_25 hap C ho1 r σo  (fun v2_146 σv146 h => ?_) FU _ _ _ h
  · refine J_iload_n (q := 147) C dX3_greatest_146 rfl rfl 0 rfl ?_
    obtain ⟨rfl, rfl⟩ := Prod.mk.inj (Option.some.inj h)
    exact J_iret C dX3_greatest_147
set_option maxHeartbeats 4000000 in
set_option maxRecDepth 100000 in
theorem c_X4_sleep {l : Launch} {D : va_G} {cI cR : ClassId} {ad : Nat → Nat} (hap : apN 77 ad) {g0 : Nat} {σ : Sg} {σo : Sg} (ho0 : isS g0) (h : f_X4_sleep g0 σ = some σo) : MV l D (tysC cI cR) 77 ad (celC cI cR ad) okC yX4_sleep cX4_sleep 1 2 63 [.ref (ad g0)] σ σo := by
  unfold f_X4_sleep at h
  refine entV "WokenYears$Street" hap (by decide +kernel) rfl (Nat.le_of_ble_eq_true rfl) (fun p e s m args below meth c C => ?_)
  refine J_sub (lv' := [(0, .ref (ad g0))]) [0] rfl ?_
  refine J_aload_n (q := 1) C dX4_sleep_0 rfl rfl 0 rfl ?_
  refine JC_g_X4_tapped (q := 4) C ho0 kF_X4_29 dX4_sleep_1 rfl ?_
  refine J_aload_n (q := 5) C dX4_sleep_4 rfl rfl 0 rfl ?_
  refine JC_g_X4_size (q := 8) C ho0 kF_X4_42 dX4_sleep_5 rfl ?_
  refine J_iconst (v := 0 ) (q := 9) C dX4_sleep_8 rfl rfl ?_
  obtain ⟨σ1, ec1, h⟩ := bnd_of h
  refine J_callXV (q := 12) (As := [.int (gS σ (16 * g0 + 7)), .int (0 : Int32)]) C (c_X0_fill hap (isI_st ho0 4 (by decide)) ec1) ok_X0_fill kM_X4_38 (lt77I (isI_st ho0 4 (by decide))) (celC_I (isI_st ho0 4 (by decide))) rfl rfl rfl rfl rfl ⟨Nat.le_of_ble_eq_true rfl, Nat.le_of_ble_eq_true rfl⟩ (Nat.le_of_ble_eq_true rfl) dX4_sleep_9 rfl ?_
  refine J_aload_n (q := 13) C dX4_sleep_12 rfl rfl 0 rfl ?_
  refine JC_g_X4_years (q := 16) C ho0 kF_X4_32 dX4_sleep_13 rfl ?_
  refine J_aload_n (q := 17) C dX4_sleep_16 rfl rfl 0 rfl ?_
  refine JC_g_X4_size (q := 20) C ho0 kF_X4_42 dX4_sleep_17 rfl ?_
  refine J_bipush (v := -9) (q := 22) C dX4_sleep_20 rfl rfl ?_
  obtain ⟨σ2, ec2, h⟩ := bnd_of h
  refine J_callXV (q := 25) (As := [.int (gS σ1 (16 * g0 + 7)), .int (-9 : Int32)]) C (c_X0_fill hap (isI_st ho0 5 (by decide)) ec2) ok_X0_fill kM_X4_38 (lt77I (isI_st ho0 5 (by decide))) (celC_I (isI_st ho0 5 (by decide))) rfl rfl rfl rfl rfl ⟨Nat.le_of_ble_eq_true rfl, Nat.le_of_ble_eq_true rfl⟩ (Nat.le_of_ble_eq_true rfl) dX4_sleep_22 rfl ?_
  refine J_aload_n (q := 26) C dX4_sleep_25 rfl rfl 0 rfl ?_
  refine J_iconst (v := 0 ) (q := 27) C dX4_sleep_26 rfl rfl ?_
  refine JC_p_X4_minute (q := 30) C ho0 kF_X4_56 dX4_sleep_27 rfl ?_
  refine jn_elim h (fun σ3 eσ3 h => ?_)
  rw [← eσ3]
  refine J_aload_n (q := 31) C dX4_sleep_30 rfl rfl 0 rfl ?_
  refine J_iconst (v := 0 ) (q := 32) C dX4_sleep_31 rfl rfl ?_
  refine JC_p_X4_place (q := 35) C ho0 kF_X4_59 dX4_sleep_32 rfl ?_
  refine jn_elim h (fun σ4 eσ4 h => ?_)
  rw [← eσ4]
  obtain rfl := Option.some.inj h
  exact J_vret C dX4_sleep_35
set_option maxHeartbeats 4000000 in
set_option maxRecDepth 100000 in
theorem c_X4_fee {l : Launch} {D : va_G} {cI cR : ClassId} {ad : Nat → Nat} (hap : apN 77 ad) {g0 : Nat} {i1 : Int32} {σ : Sg} {r : Int32} (ho0 : isS g0) (h : f_X4_fee g0 i1 σ = some r) : MI l D (tysC cI cR) 77 ad (celC cI cR ad) okC yX4_fee cX4_fee 2 .int 2 51 [.ref (ad g0), .int i1] σ r σ := by
  unfold f_X4_fee at h
  refine entI "WokenYears$Street" hap (by decide +kernel) rfl (Nat.le_of_ble_eq_true rfl) (fun p e s m args below meth c C => ?_)
  refine J_sub (lv' := [(0, .ref (ad g0)), (1, .int i1)]) [0, 1] rfl ?_
  refine J_aload_n (q := 1) C dX4_fee_0 rfl rfl 0 rfl ?_
  refine JC_g_X4_kinds (q := 4) C ho0 kF_X4_14 dX4_fee_1 rfl ?_
  refine J_iload_n (q := 5) C dX4_fee_4 rfl rfl 1 rfl ?_
  obtain ⟨r1, ec1, h⟩ := bnd_of h
  refine J_callIV (q := 8) (As := [.int i1]) C (c_X0_get hap (isI_st ho0 0 (by decide)) ec1) ok_X0_get kM_X4_78 (lt77I (isI_st ho0 0 (by decide))) (celC_I (isI_st ho0 0 (by decide))) rfl rfl rfl rfl rfl ⟨Nat.le_of_ble_eq_true rfl, Nat.le_of_ble_eq_true rfl⟩ (Nat.le_of_ble_eq_true rfl) dX4_fee_5 rfl ?_
  obtain ⟨r2, ec2, h⟩ := bnd_of h
  refine J_callIS (q := 11) (As := [.int r1]) C (c_X1_fee hap  ec2) ok_X1_fee kM_X4_123 rfl rfl rfl ⟨Nat.le_of_ble_eq_true rfl, Nat.le_of_ble_eq_true rfl⟩ (Nat.le_of_ble_eq_true rfl) dX4_fee_8 rfl ?_
  obtain rfl := Option.some.inj h
  exact J_iret C dX4_fee_11
set_option maxHeartbeats 4000000 in
set_option maxRecDepth 100000 in
theorem c_X4_hear {l : Launch} {D : va_G} {cI cR : ClassId} {ad : Nat → Nat} (hap : apN 77 ad) {g0 : Nat} {i1 : Int32} {σ : Sg} {σo : Sg} (ho0 : isS g0) (h : f_X4_hear g0 i1 σ = some σo) : MV l D (tysC cI cR) 77 ad (celC cI cR ad) okC yX4_hear cX4_hear 3 3 76 [.ref (ad g0), .int i1] σ σo := by
  unfold f_X4_hear at h
  refine entV "WokenYears$Street" hap (by decide +kernel) rfl (Nat.le_of_ble_eq_true rfl) (fun p e s m args below meth c C => ?_)
  refine J_sub (lv' := [(0, .ref (ad g0)), (1, .int i1)]) [0, 1] rfl ?_
  refine J_aload_n (q := 1) C dX4_hear_0 rfl rfl 0 rfl ?_
  refine JC_g_X4_tapped (q := 4) C ho0 kF_X4_29 dX4_hear_1 rfl ?_
  refine J_iload_n (q := 5) C dX4_hear_4 rfl rfl 1 rfl ?_
  refine J_aload_n (q := 6) C dX4_hear_5 rfl rfl 0 rfl ?_
  refine JC_g_X4_tapped (q := 9) C ho0 kF_X4_29 dX4_hear_6 rfl ?_
  refine J_iload_n (q := 10) C dX4_hear_9 rfl rfl 1 rfl ?_
  obtain ⟨r1, ec1, h⟩ := bnd_of h
  refine J_callIV (q := 13) (As := [.int i1]) C (c_X0_get hap (isI_st ho0 4 (by decide)) ec1) ok_X0_get kM_X4_78 (lt77I (isI_st ho0 4 (by decide))) (celC_I (isI_st ho0 4 (by decide))) rfl rfl rfl rfl rfl ⟨Nat.le_of_ble_eq_true rfl, Nat.le_of_ble_eq_true rfl⟩ (Nat.le_of_ble_eq_true rfl) dX4_hear_10 rfl ?_
  refine J_iconst (v := 1 ) (q := 14) C dX4_hear_13 rfl rfl ?_
  refine J_iadd (q := 15) C dX4_hear_14 rfl ?_
  obtain ⟨σ2, ec2, h⟩ := bnd_of h
  refine J_callXV (q := 18) (As := [.int i1, .int (r1 + (1 : Int32))]) C (c_X0_set hap (isI_st ho0 4 (by decide)) ec2) ok_X0_set kM_X4_97 (lt77I (isI_st ho0 4 (by decide))) (celC_I (isI_st ho0 4 (by decide))) rfl rfl rfl rfl rfl ⟨Nat.le_of_ble_eq_true rfl, Nat.le_of_ble_eq_true rfl⟩ (Nat.le_of_ble_eq_true rfl) dX4_hear_15 rfl ?_
  refine J_aload_n (q := 19) C dX4_hear_18 rfl rfl 0 rfl ?_
  refine J_iload_n (q := 20) C dX4_hear_19 rfl rfl 1 rfl ?_
  refine J_aload_n (q := 21) C dX4_hear_20 rfl rfl 0 rfl ?_
  refine JC_g_X4_dates (q := 24) C ho0 kF_X4_26 dX4_hear_21 rfl ?_
  refine J_iload_n (q := 25) C dX4_hear_24 rfl rfl 1 rfl ?_
  obtain ⟨r3, ec3, h⟩ := bnd_of h
  refine J_callIV (q := 28) (As := [.int i1]) C (c_X0_get hap (isI_st ho0 3 (by decide)) ec3) ok_X0_get kM_X4_78 (lt77I (isI_st ho0 3 (by decide))) (celC_I (isI_st ho0 3 (by decide))) rfl rfl rfl rfl rfl ⟨Nat.le_of_ble_eq_true rfl, Nat.le_of_ble_eq_true rfl⟩ (Nat.le_of_ble_eq_true rfl) dX4_hear_25 rfl ?_
  obtain ⟨r4, ec4, h⟩ := bnd_of h
  refine J_callIV (q := 31) (As := [.int i1, .int r3]) C (c_X4_tapsFor hap ho0 ec4) ok_X4_tapsFor kM_X4_100 (lt77S ho0) (celC_S ho0) rfl rfl rfl rfl rfl ⟨Nat.le_of_ble_eq_true rfl, Nat.le_of_ble_eq_true rfl⟩ (Nat.le_of_ble_eq_true rfl) dX4_hear_28 rfl ?_
  refine J_istore_n (q := 32) C dX4_hear_31 rfl rfl (by decide) rfl ?_
  refine J_aload_n (q := 33) C dX4_hear_32 rfl rfl 1 rfl ?_
  refine J_iload_n (q := 34) C dX4_hear_33 rfl rfl 2 rfl ?_
  obtain ⟨r5, ec5, h⟩ := bnd_of h
  refine J_callIV (q := 37) (As := [.int i1]) C (c_X4_isAwake hap ho0 ec5) ok_X4_isAwake kM_X4_104 (lt77S ho0) (celC_S ho0) rfl rfl rfl rfl rfl ⟨Nat.le_of_ble_eq_true rfl, Nat.le_of_ble_eq_true rfl⟩ (Nat.le_of_ble_eq_true rfl) dX4_hear_34 rfl ?_
  refine J_ifne_b (tgt := 94) (q := 40) C dX4_hear_37 rfl (by decide) h (fun _ h => ?_) (fun _ h => ?_)
  · obtain rfl := Option.some.inj h
    exact J_vret C dX4_hear_94
  · refine J_iload_n (q := 41) C dX4_hear_40 rfl rfl 0 rfl ?_
    refine J_bipush (v := -9) (q := 43) C dX4_hear_41 rfl rfl ?_
    refine J_icmp_eq (tgt := 94) (q := 46) C dX4_hear_43 rfl (by decide) h (fun _ h => ?_) (fun _ h => ?_)
    · obtain rfl := Option.some.inj h
      exact J_vret C dX4_hear_94
    · refine J_aload_n (q := 47) C dX4_hear_46 rfl rfl 1 rfl ?_
      refine JC_g_X4_tapped (q := 50) C ho0 kF_X4_29 dX4_hear_47 rfl ?_
      refine J_iload_n (q := 51) C dX4_hear_50 rfl rfl 2 rfl ?_
      obtain ⟨r6, ec6, h⟩ := bnd_of h
      refine J_callIV (q := 54) (As := [.int i1]) C (c_X0_get hap (isI_st ho0 4 (by decide)) ec6) ok_X0_get kM_X4_78 (lt77I (isI_st ho0 4 (by decide))) (celC_I (isI_st ho0 4 (by decide))) rfl rfl rfl rfl rfl ⟨Nat.le_of_ble_eq_true rfl, Nat.le_of_ble_eq_true rfl⟩ (Nat.le_of_ble_eq_true rfl) dX4_hear_51 rfl ?_
      refine J_iload_n (q := 55) C dX4_hear_54 rfl rfl 0 rfl ?_
      refine J_icmp_lt (tgt := 94) (q := 58) C dX4_hear_55 rfl (by decide) h (fun _ h => ?_) (fun _ h => ?_)
      · obtain rfl := Option.some.inj h
        exact J_vret C dX4_hear_94
      · refine J_aload_n (q := 59) C dX4_hear_58 rfl rfl 1 rfl ?_
        refine JC_g_X4_years (q := 62) C ho0 kF_X4_32 dX4_hear_59 rfl ?_
        refine J_iload_n (q := 63) C dX4_hear_62 rfl rfl 2 rfl ?_
        refine J_aload_n (q := 64) C dX4_hear_63 rfl rfl 1 rfl ?_
        refine JC_g_X4_dates (q := 67) C ho0 kF_X4_26 dX4_hear_64 rfl ?_
        refine J_iload_n (q := 68) C dX4_hear_67 rfl rfl 2 rfl ?_
        obtain ⟨r7, ec7, h⟩ := bnd_of h
        refine J_callIV (q := 71) (As := [.int i1]) C (c_X0_get hap (isI_st ho0 3 (by decide)) ec7) ok_X0_get kM_X4_78 (lt77I (isI_st ho0 3 (by decide))) (celC_I (isI_st ho0 3 (by decide))) rfl rfl rfl rfl rfl ⟨Nat.le_of_ble_eq_true rfl, Nat.le_of_ble_eq_true rfl⟩ (Nat.le_of_ble_eq_true rfl) dX4_hear_68 rfl ?_
        obtain ⟨σ8, ec8, h⟩ := bnd_of h
        refine J_callXV (q := 74) (As := [.int i1, .int r7]) C (c_X0_set hap (isI_st ho0 5 (by decide)) ec8) ok_X0_set kM_X4_97 (lt77I (isI_st ho0 5 (by decide))) (celC_I (isI_st ho0 5 (by decide))) rfl rfl rfl rfl rfl ⟨Nat.le_of_ble_eq_true rfl, Nat.le_of_ble_eq_true rfl⟩ (Nat.le_of_ble_eq_true rfl) dX4_hear_71 rfl ?_
        refine J_aload_n (q := 75) C dX4_hear_74 rfl rfl 1 rfl ?_
        refine J_sipush (v := 9999) (q := 78) C dX4_hear_75 rfl rfl ?_
        refine J_aload_n (q := 79) C dX4_hear_78 rfl rfl 1 rfl ?_
        refine JC_g_X4_purse (q := 82) C ho0 kF_X4_72 dX4_hear_79 rfl ?_
        refine J_aload_n (q := 83) C dX4_hear_82 rfl rfl 1 rfl ?_
        refine J_iload_n (q := 84) C dX4_hear_83 rfl rfl 2 rfl ?_
        obtain ⟨r9, ec9, h⟩ := bnd_of h
        refine J_callIV (q := 87) (As := [.int i1]) C (c_X4_fee hap ho0 ec9) ok_X4_fee kM_X4_108 (lt77S ho0) (celC_S ho0) rfl rfl rfl rfl rfl ⟨Nat.le_of_ble_eq_true rfl, Nat.le_of_ble_eq_true rfl⟩ (Nat.le_of_ble_eq_true rfl) dX4_hear_84 rfl ?_
        refine J_iadd (q := 88) C dX4_hear_87 rfl ?_
        refine J_mmin (q := 91) C kM_X4_111 kMath_min_s kMath_min_c (Nat.le_of_ble_eq_true rfl) (Nat.le_of_ble_eq_true rfl) dX4_hear_88 rfl ?_
        refine JC_p_X4_purse (q := 94) C ho0 kF_X4_72 dX4_hear_91 rfl ?_
        refine jn_elim h (fun σ10 eσ10 h => ?_)
        rw [← eσ10]
        obtain rfl := Option.some.inj h
        exact J_vret C dX4_hear_94
set_option maxHeartbeats 4000000 in
set_option maxRecDepth 100000 in
theorem c_X4_perform {l : Launch} {D : va_G} {cI cR : ClassId} {ad : Nat → Nat} (hap : apN 77 ad) {g0 : Nat} {i1 : Int32} {σ : Sg} {σo : Sg} (ho0 : isS g0) (h : f_X4_perform g0 i1 σ = some σo) : MV l D (tysC cI cR) 77 ad (celC cI cR ad) okC yX4_perform cX4_perform 4 4 98 [.ref (ad g0), .int i1] σ σo := by
  unfold f_X4_perform at h
  refine entV "WokenYears$Street" hap (by decide +kernel) rfl (Nat.le_of_ble_eq_true rfl) (fun p e s m args below meth c C => ?_)
  refine J_sub (lv' := [(0, .ref (ad g0)), (1, .int i1)]) [0, 1] rfl ?_
  refine J_iload_n (q := 1) C dX4_perform_0 rfl rfl 1 rfl ?_
  refine J_bipush (v := 100) (q := 3) C dX4_perform_1 rfl rfl ?_
  refine J_idiv (q := 4) C dX4_perform_3 rfl (by decide) ?_
  refine J_bipush (v := 10) (q := 6) C dX4_perform_4 rfl rfl ?_
  refine J_irem (q := 7) C dX4_perform_6 rfl (by decide) ?_
  refine J_nmi h (fun y1 ey1 h => ?_)
  refine J_istore_n (q := 8) C dX4_perform_7 rfl rfl (by decide) rfl ?_
  refine J_iload_n (q := 9) C dX4_perform_8 rfl rfl 2 rfl ?_
  refine J_bipush (v := 100) (q := 11) C dX4_perform_9 rfl rfl ?_
  refine J_irem (q := 12) C dX4_perform_11 rfl (by decide) ?_
  refine J_nmi h (fun y2 ey2 h => ?_)
  refine J_istore_n (q := 13) C dX4_perform_12 rfl rfl (by decide) rfl ?_
  refine J_iload_n (q := 14) C dX4_perform_13 rfl rfl 3 rfl ?_
  refine J_sipush (v := 1000) (q := 17) C dX4_perform_14 rfl rfl ?_
  refine J_idiv (q := 18) C dX4_perform_17 rfl (by decide) ?_
  by_cases z0 : (i1 / (1000 : Int32)) = (0 : Int32)
  · have h := itp h z0
    refine J_tsIn (off := 30) (tgt := 48) C (0 : Int32) z0 dX4_perform_18 (by decide) (by decide) (by decide) (by decide) ?_
    refine J_aload_n (q := 49) C dX4_perform_48 rfl rfl 2 rfl ?_
    refine J_dup (q := 50) C dX4_perform_49 rfl rfl ?_
    refine JC_g_X4_minute (q := 53) C ho0 kF_X4_56 dX4_perform_50 rfl ?_
    refine J_iload_n (q := 54) C dX4_perform_53 rfl rfl 1 rfl ?_
    refine J_aload_n (q := 55) C dX4_perform_54 rfl rfl 2 rfl ?_
    refine JC_g_X4_place (q := 58) C ho0 kF_X4_59 dX4_perform_55 rfl ?_
    refine J_isub (q := 59) C dX4_perform_58 rfl ?_
    refine J_mabs (q := 62) C kM_X4_89 kMath_abs_s kMath_abs_c (Nat.le_of_ble_eq_true rfl) (Nat.le_of_ble_eq_true rfl) dX4_perform_59 rfl ?_
    refine J_iadd (q := 63) C dX4_perform_62 rfl ?_
    refine JC_p_X4_minute (q := 66) C ho0 kF_X4_56 dX4_perform_63 rfl ?_
    refine jn_elim h (fun σ3 eσ3 h => ?_)
    rw [← eσ3]
    refine J_aload_n (q := 67) C dX4_perform_66 rfl rfl 2 rfl ?_
    refine J_iload_n (q := 68) C dX4_perform_67 rfl rfl 1 rfl ?_
    refine JC_p_X4_place (q := 71) C ho0 kF_X4_59 dX4_perform_68 rfl ?_
    refine jn_elim h (fun σ4 eσ4 h => ?_)
    rw [← eσ4]
    refine J_goto (tgt := 138) C dX4_perform_71 (by decide) ?_
    obtain rfl := Option.some.inj h
    exact J_vret C dX4_perform_138
  have h := itn h z0
  by_cases z1 : (i1 / (1000 : Int32)) = (1 : Int32)
  · have h := itp h z1
    refine J_tsIn (off := 56) (tgt := 74) C (1 : Int32) z1 dX4_perform_18 (by decide) (by decide) (by decide) (by decide) ?_
    refine J_aload_n (q := 75) C dX4_perform_74 rfl rfl 2 rfl ?_
    refine J_dup (q := 76) C dX4_perform_75 rfl rfl ?_
    refine JC_g_X4_minute (q := 79) C ho0 kF_X4_56 dX4_perform_76 rfl ?_
    refine J_iconst (v := 1 ) (q := 80) C dX4_perform_79 rfl rfl ?_
    refine J_iadd (q := 81) C dX4_perform_80 rfl ?_
    refine JC_p_X4_minute (q := 84) C ho0 kF_X4_56 dX4_perform_81 rfl ?_
    refine jn_elim h (fun σ5 eσ5 h => ?_)
    rw [← eσ5]
    refine J_aload_n (q := 85) C dX4_perform_84 rfl rfl 2 rfl ?_
    refine J_aload_n (q := 86) C dX4_perform_85 rfl rfl 2 rfl ?_
    refine JC_g_X4_place (q := 89) C ho0 kF_X4_59 dX4_perform_86 rfl ?_
    obtain ⟨σ6, ec6, h⟩ := bnd_of h
    refine J_callXV (q := 92) (As := [.int (gS σ5 (16 * g0 + 13))]) C (c_X4_hear hap ho0 ec6) ok_X4_hear kM_X4_94 (lt77S ho0) (celC_S ho0) rfl rfl rfl rfl rfl ⟨Nat.le_of_ble_eq_true rfl, Nat.le_of_ble_eq_true rfl⟩ (Nat.le_of_ble_eq_true rfl) dX4_perform_89 rfl ?_
    refine J_goto (tgt := 138) C dX4_perform_92 (by decide) ?_
    obtain rfl := Option.some.inj h
    exact J_vret C dX4_perform_138
  have h := itn h z1
  by_cases z2 : (i1 / (1000 : Int32)) = (2 : Int32)
  · have h := itp h z2
    refine J_tsIn (off := 77) (tgt := 95) C (2 : Int32) z2 dX4_perform_18 (by decide) (by decide) (by decide) (by decide) ?_
    refine J_aload_n (q := 96) C dX4_perform_95 rfl rfl 2 rfl ?_
    refine JC_g_X4_dates (q := 99) C ho0 kF_X4_26 dX4_perform_96 rfl ?_
    refine J_iload_n (q := 100) C dX4_perform_99 rfl rfl 1 rfl ?_
    refine J_iload_n (q := 101) C dX4_perform_100 rfl rfl 0 rfl ?_
    obtain ⟨σ7, ec7, h⟩ := bnd_of h
    refine J_callXV (q := 104) (As := [.int y1, .int y2]) C (c_X0_set hap (isI_st ho0 3 (by decide)) ec7) ok_X0_set kM_X4_97 (lt77I (isI_st ho0 3 (by decide))) (celC_I (isI_st ho0 3 (by decide))) rfl rfl rfl rfl rfl ⟨Nat.le_of_ble_eq_true rfl, Nat.le_of_ble_eq_true rfl⟩ (Nat.le_of_ble_eq_true rfl) dX4_perform_101 rfl ?_
    refine J_aload_n (q := 105) C dX4_perform_104 rfl rfl 2 rfl ?_
    refine JC_g_X4_tapped (q := 108) C ho0 kF_X4_29 dX4_perform_105 rfl ?_
    refine J_iload_n (q := 109) C dX4_perform_108 rfl rfl 1 rfl ?_
    refine J_iconst (v := 0 ) (q := 110) C dX4_perform_109 rfl rfl ?_
    obtain ⟨σ8, ec8, h⟩ := bnd_of h
    refine J_callXV (q := 113) (As := [.int y1, .int (0 : Int32)]) C (c_X0_set hap (isI_st ho0 4 (by decide)) ec8) ok_X0_set kM_X4_97 (lt77I (isI_st ho0 4 (by decide))) (celC_I (isI_st ho0 4 (by decide))) rfl rfl rfl rfl rfl ⟨Nat.le_of_ble_eq_true rfl, Nat.le_of_ble_eq_true rfl⟩ (Nat.le_of_ble_eq_true rfl) dX4_perform_110 rfl ?_
    refine J_goto (tgt := 138) C dX4_perform_113 (by decide) ?_
    obtain rfl := Option.some.inj h
    exact J_vret C dX4_perform_138
  have h := itn h z2
  by_cases z3 : (i1 / (1000 : Int32)) = (3 : Int32)
  · have h := itp h z3
    refine J_tsIn (off := 98) (tgt := 116) C (3 : Int32) z3 dX4_perform_18 (by decide) (by decide) (by decide) (by decide) ?_
    refine J_aload_n (q := 117) C dX4_perform_116 rfl rfl 2 rfl ?_
    refine J_iload_n (q := 118) C dX4_perform_117 rfl rfl 0 rfl ?_
    refine JC_p_X4_frost (q := 121) C ho0 kF_X4_66 dX4_perform_118 rfl ?_
    refine jn_elim h (fun σ9 eσ9 h => ?_)
    rw [← eσ9]
    refine J_goto (tgt := 138) C dX4_perform_121 (by decide) ?_
    obtain rfl := Option.some.inj h
    exact J_vret C dX4_perform_138
  have h := itn h z3
  have w0 : (i1 / (1000 : Int32)).toInt ≠ 0 := fun e => z0 (Int32.toInt_inj.mp (e.trans (by decide)))
  have w1 : (i1 / (1000 : Int32)).toInt ≠ 1 := fun e => z1 (Int32.toInt_inj.mp (e.trans (by decide)))
  have w2 : (i1 / (1000 : Int32)).toInt ≠ 2 := fun e => z2 (Int32.toInt_inj.mp (e.trans (by decide)))
  have w3 : (i1 / (1000 : Int32)).toInt ≠ 3 := fun e => z3 (Int32.toInt_inj.mp (e.trans (by decide)))
  refine J_tsOut (tgt := 124) C dX4_perform_18 (by omega) (by decide) ?_
  refine J_aload_n (q := 125) C dX4_perform_124 rfl rfl 2 rfl ?_
  refine J_dup (q := 126) C dX4_perform_125 rfl rfl ?_
  refine JC_g_X4_night (q := 129) C ho0 kF_X4_69 dX4_perform_126 rfl ?_
  refine J_iconst (v := 1 ) (q := 130) C dX4_perform_129 rfl rfl ?_
  refine J_iadd (q := 131) C dX4_perform_130 rfl ?_
  refine JC_p_X4_night (q := 134) C ho0 kF_X4_69 dX4_perform_131 rfl ?_
  refine jn_elim h (fun σ10 eσ10 h => ?_)
  rw [← eσ10]
  refine J_aload_n (q := 135) C dX4_perform_134 rfl rfl 2 rfl ?_
  obtain ⟨σ11, ec11, h⟩ := bnd_of h
  refine J_callXV (q := 138) (As := []) C (c_X4_sleep hap ho0 ec11) ok_X4_sleep kM_X4_75 (lt77S ho0) (celC_S ho0) rfl rfl rfl rfl rfl ⟨Nat.le_of_ble_eq_true rfl, Nat.le_of_ble_eq_true rfl⟩ (Nat.le_of_ble_eq_true rfl) dX4_perform_135 rfl ?_
  obtain rfl := Option.some.inj h
  exact J_vret C dX4_perform_138
set_option maxHeartbeats 4000000 in
set_option maxRecDepth 100000 in
theorem cl_X4_replay_35 {p : Program} {l : Launch} {e : Env} {s : State} {m : MethodId} {args : Array Value} {below : List Frame} {meth : Method} {c : Code} {D : va_G} {cI cR : ClassId} {ad : Nat → Nat} (hap : apN 77 ad) (C : Cx p s m args meth c cX4_replay 2 "WokenYears$Street" D (tysC cI cR) 77 ad (none)) {b0 : Nat} (hb0 : isS b0) {k64 : Sg → Option Sg} (σo : Sg)  (hk64 : ∀ (σ1 : Sg), k64 σ1 = some σo → Jd p l e (rmF 5 121) s m args below meth c D 77 ad (celC cI cR ad) okC 2 (MQ below (QV D (tysC cI cR) 77 ad (celC cI cR ad) okC σo) args s 0 0 (inA 77 ad)) 64 [] [] σ1) : ∀ (n : Nat) (x1 : Int32) (σx : Sg), l_X4_replay_35 b0 k64 n x1 σx = some σo → Jd p l e (rmF 5 121) s m args below meth c D 77 ad (celC cI cR ad) okC 2 (MQ below (QV D (tysC cI cR) 77 ad (celC cI cR ad) okC σo) args s 0 0 (inA 77 ad)) 35 [(0, .ref (ad b0)), (1, .int x1)] [] σx := by
  intro n
  induction n with
  | zero => intro x1 σx h; cases h
  | succ n ih =>
    intro x1 σx h
    unfold l_X4_replay_35 at h
    refine J_iload_n (q := 36) C dX4_replay_35 rfl rfl 1 rfl ?_
    refine J_aload_n (q := 37) C dX4_replay_36 rfl rfl 0 rfl ?_
    refine JC_g_X4_deeds (q := 40) C hb0 kF_X4_35 dX4_replay_37 rfl ?_
    refine JC_g_X0_size (q := 43) C (isI_st hb0 6 (by decide)) kF_X4_55 dX4_replay_40 rfl ?_
    refine J_icmp_ge (tgt := 64) (q := 46) C dX4_replay_43 rfl (by decide) h (fun _ h => ?_) (fun _ h => ?_)
    · refine J_sub [] rfl ?_
      exact hk64 _ h
    · refine J_aload_n (q := 47) C dX4_replay_46 rfl rfl 0 rfl ?_
      refine J_aload_n (q := 48) C dX4_replay_47 rfl rfl 0 rfl ?_
      refine JC_g_X4_deeds (q := 51) C hb0 kF_X4_35 dX4_replay_48 rfl ?_
      refine J_iload_n (q := 52) C dX4_replay_51 rfl rfl 1 rfl ?_
      obtain ⟨r6, ec6, h⟩ := bnd_of h
      refine J_callIV (q := 55) (As := [.int x1]) C (c_X0_get hap (isI_st hb0 6 (by decide)) ec6) ok_X0_get kM_X4_78 (lt77I (isI_st hb0 6 (by decide))) (celC_I (isI_st hb0 6 (by decide))) rfl rfl rfl rfl rfl ⟨Nat.le_of_ble_eq_true rfl, Nat.le_of_ble_eq_true rfl⟩ (Nat.le_of_ble_eq_true rfl) dX4_replay_52 rfl ?_
      obtain ⟨σ7, ec7, h⟩ := bnd_of h
      refine J_callXV (q := 58) (As := [.int r6]) C (c_X4_perform hap hb0 ec7) ok_X4_perform kM_X4_82 (lt77S hb0) (celC_S hb0) rfl rfl rfl rfl rfl ⟨Nat.le_of_ble_eq_true rfl, Nat.le_of_ble_eq_true rfl⟩ (Nat.le_of_ble_eq_true rfl) dX4_replay_55 rfl ?_
      refine jn_elim h (fun y8 ey8 h => ?_)
      refine J_iinc (v := y8) (q := 61) C dX4_replay_58 rfl 1 rfl (by rw [ey8]; rfl) (by decide) rfl ?_
      refine J_goto (tgt := 35) C dX4_replay_61 (by decide) ?_
      refine J_sub [1, 0] rfl ?_
      exact ih _ _ h
set_option maxHeartbeats 4000000 in
set_option maxRecDepth 100000 in
theorem c_X4_replay {l : Launch} {D : va_G} {cI cR : ClassId} {ad : Nat → Nat} (hap : apN 77 ad) {g0 : Nat} {σ : Sg} {σo : Sg} (ho0 : isS g0) (h : f_X4_replay g0 σ = some σo) : MV l D (tysC cI cR) 77 ad (celC cI cR ad) okC yX4_replay cX4_replay 2 5 121 [.ref (ad g0)] σ σo := by
  unfold f_X4_replay at h
  refine entV "WokenYears$Street" hap (by decide +kernel) rfl (Nat.le_of_ble_eq_true rfl) (fun p e s m args below meth c C => ?_)
  refine J_sub (lv' := [(0, .ref (ad g0))]) [0] rfl ?_
  refine J_aload_n (q := 1) C dX4_replay_0 rfl rfl 0 rfl ?_
  refine JC_g_X4_dates (q := 4) C ho0 kF_X4_26 dX4_replay_1 rfl ?_
  refine J_aload_n (q := 5) C dX4_replay_4 rfl rfl 0 rfl ?_
  refine JC_g_X4_firstDates (q := 8) C ho0 kF_X4_23 dX4_replay_5 rfl ?_
  obtain ⟨σ1, ec1, h⟩ := bnd_of h
  refine J_callXV (q := 11) (As := [.ref (ad (stI g0 2))]) C (c_X0_takeFrom hap (isI_st ho0 3 (by decide)) (isI_st ho0 2 (by decide)) ec1) ok_X0_takeFrom kM_X4_62 (lt77I (isI_st ho0 3 (by decide))) (celC_I (isI_st ho0 3 (by decide))) rfl rfl rfl rfl rfl ⟨Nat.le_of_ble_eq_true rfl, Nat.le_of_ble_eq_true rfl⟩ (Nat.le_of_ble_eq_true rfl) dX4_replay_8 rfl ?_
  refine J_aload_n (q := 12) C dX4_replay_11 rfl rfl 0 rfl ?_
  refine J_aload_n (q := 13) C dX4_replay_12 rfl rfl 0 rfl ?_
  refine JC_g_X4_firstFrost (q := 16) C ho0 kF_X4_46 dX4_replay_13 rfl ?_
  refine JC_p_X4_frost (q := 19) C ho0 kF_X4_66 dX4_replay_16 rfl ?_
  refine jn_elim h (fun σ2 eσ2 h => ?_)
  rw [← eσ2]
  refine J_aload_n (q := 20) C dX4_replay_19 rfl rfl 0 rfl ?_
  refine J_iconst (v := 0 ) (q := 21) C dX4_replay_20 rfl rfl ?_
  refine JC_p_X4_night (q := 24) C ho0 kF_X4_69 dX4_replay_21 rfl ?_
  refine jn_elim h (fun σ3 eσ3 h => ?_)
  rw [← eσ3]
  refine J_aload_n (q := 25) C dX4_replay_24 rfl rfl 0 rfl ?_
  refine J_iconst (v := 0 ) (q := 26) C dX4_replay_25 rfl rfl ?_
  refine JC_p_X4_purse (q := 29) C ho0 kF_X4_72 dX4_replay_26 rfl ?_
  refine jn_elim h (fun σ4 eσ4 h => ?_)
  rw [← eσ4]
  refine J_aload_n (q := 30) C dX4_replay_29 rfl rfl 0 rfl ?_
  obtain ⟨σ5, ec5, h⟩ := bnd_of h
  refine J_callXV (q := 33) (As := []) C (c_X4_sleep hap ho0 ec5) ok_X4_sleep kM_X4_75 (lt77S ho0) (celC_S ho0) rfl rfl rfl rfl rfl ⟨Nat.le_of_ble_eq_true rfl, Nat.le_of_ble_eq_true rfl⟩ (Nat.le_of_ble_eq_true rfl) dX4_replay_30 rfl ?_
  refine J_iconst (v := 0 ) (q := 34) C dX4_replay_33 rfl rfl ?_
  refine J_istore_n (q := 35) C dX4_replay_34 rfl rfl (by decide) rfl ?_
  refine J_sub [1, 0] rfl ?_
  refine cl_X4_replay_35 hap C ho0 σo  (fun σv64 h => ?_) FU _ _ h
  · obtain rfl := Option.some.inj h
    exact J_vret C dX4_replay_64
set_option maxHeartbeats 4000000 in
set_option maxRecDepth 100000 in
theorem c_X4_does {l : Launch} {D : va_G} {cI cR : ClassId} {ad : Nat → Nat} (hap : apN 77 ad) {g0 : Nat} {i1 : Int32} {i2 : Int32} {i3 : Int32} {σ : Sg} {σo : Sg} (ho0 : isS g0) (h : f_X4_does g0 i1 i2 i3 σ = some σo) : MV l D (tysC cI cR) 77 ad (celC cI cR ad) okC yX4_does cX4_does 5 5 121 [.ref (ad g0), .int i1, .int i2, .int i3] σ σo := by
  unfold f_X4_does at h
  refine entV "WokenYears$Street" hap (by decide +kernel) rfl (Nat.le_of_ble_eq_true rfl) (fun p e s m args below meth c C => ?_)
  refine J_sub (lv' := [(0, .ref (ad g0)), (1, .int i1), (2, .int i2), (3, .int i3)]) [0, 1, 2, 3] rfl ?_
  refine J_iload_n (q := 1) C dX4_does_0 rfl rfl 1 rfl ?_
  refine J_sipush (v := 1000) (q := 4) C dX4_does_1 rfl rfl ?_
  refine J_imul (q := 5) C dX4_does_4 rfl ?_
  refine J_iload_n (q := 6) C dX4_does_5 rfl rfl 2 rfl ?_
  refine J_bipush (v := 100) (q := 8) C dX4_does_6 rfl rfl ?_
  refine J_imul (q := 9) C dX4_does_8 rfl ?_
  refine J_iadd (q := 10) C dX4_does_9 rfl ?_
  refine J_iload_n (q := 11) C dX4_does_10 rfl rfl 3 rfl ?_
  refine J_iadd (q := 12) C dX4_does_11 rfl ?_
  refine J_nmi h (fun y1 ey1 h => ?_)
  refine J_istore (q := 14) C dX4_does_12 rfl (by decide) rfl ?_
  refine J_aload_n (q := 15) C dX4_does_14 rfl rfl 1 rfl ?_
  refine JC_g_X4_deeds (q := 18) C ho0 kF_X4_35 dX4_does_15 rfl ?_
  refine J_iload (q := 20) C dX4_does_18 rfl 0 rfl ?_
  obtain ⟨σ2, ec2, h⟩ := bnd_of h
  refine J_callXV (q := 23) (As := [.int y1]) C (c_X0_add hap (isI_st ho0 6 (by decide)) ec2) ok_X0_add kM_X4_52 (lt77I (isI_st ho0 6 (by decide))) (celC_I (isI_st ho0 6 (by decide))) rfl rfl rfl rfl rfl ⟨Nat.le_of_ble_eq_true rfl, Nat.le_of_ble_eq_true rfl⟩ (Nat.le_of_ble_eq_true rfl) dX4_does_20 rfl ?_
  refine J_aload_n (q := 24) C dX4_does_23 rfl rfl 1 rfl ?_
  refine J_iload (q := 26) C dX4_does_24 rfl 0 rfl ?_
  obtain ⟨σ3, ec3, h⟩ := bnd_of h
  refine J_callXV (q := 29) (As := [.int y1]) C (c_X4_perform hap ho0 ec3) ok_X4_perform kM_X4_82 (lt77S ho0) (celC_S ho0) rfl rfl rfl rfl rfl ⟨Nat.le_of_ble_eq_true rfl, Nat.le_of_ble_eq_true rfl⟩ (Nat.le_of_ble_eq_true rfl) dX4_does_26 rfl ?_
  obtain rfl := Option.some.inj h
  exact J_vret C dX4_does_29
set_option maxHeartbeats 4000000 in
set_option maxRecDepth 100000 in
theorem c_X4_isSet {l : Launch} {D : va_G} {cI cR : ClassId} {ad : Nat → Nat} (hap : apN 77 ad) {g0 : Nat} {i1 : Int32} {σ : Sg} {r : Bool} (ho0 : isS g0) (h : f_X4_isSet g0 i1 σ = some r) : MI l D (tysC cI cR) 77 ad (celC cI cR ad) okC yX4_isSet cX4_isSet 2 .boolean 1 30 [.ref (ad g0), .int i1] σ (b2i r) σ := by
  unfold f_X4_isSet at h
  refine entI "WokenYears$Street" hap (by decide +kernel) rfl (Nat.le_of_ble_eq_true rfl) (fun p e s m args below meth c C => ?_)
  refine J_sub (lv' := [(0, .ref (ad g0)), (1, .int i1)]) [0, 1] rfl ?_
  refine J_iload_n (q := 1) C dX4_isSet_0 rfl rfl 1 rfl ?_
  refine J_if_lt (tgt := 18) (q := 4) C dX4_isSet_1 rfl (by decide) h (fun _ h => ?_) (fun _ h => ?_)
  · refine J_iconst (v := 0 ) (q := 19) C dX4_isSet_18 rfl rfl ?_
    obtain rfl := Option.some.inj h
    exact J_zret (b := false) C dX4_isSet_19
  · refine J_iload_n (q := 5) C dX4_isSet_4 rfl rfl 1 rfl ?_
    refine J_iconst (v := 1 ) (q := 6) C dX4_isSet_5 rfl rfl ?_
    refine J_aload_n (q := 7) C dX4_isSet_6 rfl rfl 0 rfl ?_
    refine JC_g_X4_size (q := 10) C ho0 kF_X4_42 dX4_isSet_7 rfl ?_
    refine J_ishl (q := 11) C dX4_isSet_10 rfl ?_
    refine J_icmp_ge (tgt := 18) (q := 14) C dX4_isSet_11 rfl (by decide) h (fun _ h => ?_) (fun _ h => ?_)
    · refine J_iconst (v := 0 ) (q := 19) C dX4_isSet_18 rfl rfl ?_
      obtain rfl := Option.some.inj h
      exact J_zret (b := false) C dX4_isSet_19
    · refine J_iconst (v := 1 ) (q := 15) C dX4_isSet_14 rfl rfl ?_
      refine J_goto (tgt := 19) C dX4_isSet_15 (by decide) ?_
      obtain rfl := Option.some.inj h
      exact J_zret (b := true) C dX4_isSet_19
set_option maxHeartbeats 4000000 in
set_option maxRecDepth 100000 in
theorem c_X4_tell {l : Launch} {D : va_G} {cI cR : ClassId} {ad : Nat → Nat} (hap : apN 77 ad) {g0 : Nat} {i1 : Int32} {i2 : Int32} {σ : Sg} {r : Int32} (ho0 : isS g0) (h : f_X4_tell g0 i1 i2 σ = some r) : MI l D (tysC cI cR) 77 ad (celC cI cR ad) okC yX4_tell cX4_tell 3 .int 4 98 [.ref (ad g0), .int i1, .int i2] σ r σ := by
  unfold f_X4_tell at h
  refine entI "WokenYears$Street" hap (by decide +kernel) rfl (Nat.le_of_ble_eq_true rfl) (fun p e s m args below meth c C => ?_)
  refine J_sub (lv' := [(0, .ref (ad g0)), (1, .int i1), (2, .int i2)]) [0, 1, 2] rfl ?_
  refine J_iload_n (q := 1) C dX4_tell_0 rfl rfl 2 rfl ?_
  by_cases z0 : i2 = (0 : Int32)
  · have h := itp h z0
    refine J_tsIn (off := 35) (tgt := 36) C (0 : Int32) z0 dX4_tell_1 (by decide) (by decide) (by decide) (by decide) ?_
    refine J_aload_n (q := 37) C dX4_tell_36 rfl rfl 0 rfl ?_
    refine JC_g_X4_kinds (q := 40) C ho0 kF_X4_14 dX4_tell_37 rfl ?_
    refine J_iload_n (q := 41) C dX4_tell_40 rfl rfl 1 rfl ?_
    obtain ⟨r1, ec1, h⟩ := bnd_of h
    refine J_callIV (q := 44) (As := [.int i1]) C (c_X0_get hap (isI_st ho0 0 (by decide)) ec1) ok_X0_get kM_X4_78 (lt77I (isI_st ho0 0 (by decide))) (celC_I (isI_st ho0 0 (by decide))) rfl rfl rfl rfl rfl ⟨Nat.le_of_ble_eq_true rfl, Nat.le_of_ble_eq_true rfl⟩ (Nat.le_of_ble_eq_true rfl) dX4_tell_41 rfl ?_
    obtain rfl := Option.some.inj h
    exact J_iret C dX4_tell_44
  have h := itn h z0
  by_cases z1 : i2 = (1 : Int32)
  · have h := itp h z1
    refine J_tsIn (off := 44) (tgt := 45) C (1 : Int32) z1 dX4_tell_1 (by decide) (by decide) (by decide) (by decide) ?_
    refine J_aload_n (q := 46) C dX4_tell_45 rfl rfl 0 rfl ?_
    refine JC_g_X4_dates (q := 49) C ho0 kF_X4_26 dX4_tell_46 rfl ?_
    refine J_iload_n (q := 50) C dX4_tell_49 rfl rfl 1 rfl ?_
    obtain ⟨r2, ec2, h⟩ := bnd_of h
    refine J_callIV (q := 53) (As := [.int i1]) C (c_X0_get hap (isI_st ho0 3 (by decide)) ec2) ok_X0_get kM_X4_78 (lt77I (isI_st ho0 3 (by decide))) (celC_I (isI_st ho0 3 (by decide))) rfl rfl rfl rfl rfl ⟨Nat.le_of_ble_eq_true rfl, Nat.le_of_ble_eq_true rfl⟩ (Nat.le_of_ble_eq_true rfl) dX4_tell_50 rfl ?_
    obtain rfl := Option.some.inj h
    exact J_iret C dX4_tell_53
  have h := itn h z1
  by_cases z2 : i2 = (2 : Int32)
  · have h := itp h z2
    refine J_tsIn (off := 53) (tgt := 54) C (2 : Int32) z2 dX4_tell_1 (by decide) (by decide) (by decide) (by decide) ?_
    refine J_aload_n (q := 55) C dX4_tell_54 rfl rfl 0 rfl ?_
    refine JC_g_X4_wants (q := 58) C ho0 kF_X4_20 dX4_tell_55 rfl ?_
    refine J_iload_n (q := 59) C dX4_tell_58 rfl rfl 1 rfl ?_
    obtain ⟨r3, ec3, h⟩ := bnd_of h
    refine J_callIV (q := 62) (As := [.int i1]) C (c_X0_get hap (isI_st ho0 1 (by decide)) ec3) ok_X0_get kM_X4_78 (lt77I (isI_st ho0 1 (by decide))) (celC_I (isI_st ho0 1 (by decide))) rfl rfl rfl rfl rfl ⟨Nat.le_of_ble_eq_true rfl, Nat.le_of_ble_eq_true rfl⟩ (Nat.le_of_ble_eq_true rfl) dX4_tell_59 rfl ?_
    obtain rfl := Option.some.inj h
    exact J_iret C dX4_tell_62
  have h := itn h z2
  by_cases z3 : i2 = (3 : Int32)
  · have h := itp h z3
    refine J_tsIn (off := 62) (tgt := 63) C (3 : Int32) z3 dX4_tell_1 (by decide) (by decide) (by decide) (by decide) ?_
    refine J_aload_n (q := 64) C dX4_tell_63 rfl rfl 0 rfl ?_
    refine JC_g_X4_tapped (q := 67) C ho0 kF_X4_29 dX4_tell_64 rfl ?_
    refine J_iload_n (q := 68) C dX4_tell_67 rfl rfl 1 rfl ?_
    obtain ⟨r4, ec4, h⟩ := bnd_of h
    refine J_callIV (q := 71) (As := [.int i1]) C (c_X0_get hap (isI_st ho0 4 (by decide)) ec4) ok_X0_get kM_X4_78 (lt77I (isI_st ho0 4 (by decide))) (celC_I (isI_st ho0 4 (by decide))) rfl rfl rfl rfl rfl ⟨Nat.le_of_ble_eq_true rfl, Nat.le_of_ble_eq_true rfl⟩ (Nat.le_of_ble_eq_true rfl) dX4_tell_68 rfl ?_
    obtain rfl := Option.some.inj h
    exact J_iret C dX4_tell_71
  have h := itn h z3
  by_cases z4 : i2 = (4 : Int32)
  · have h := itp h z4
    refine J_tsIn (off := 71) (tgt := 72) C (4 : Int32) z4 dX4_tell_1 (by decide) (by decide) (by decide) (by decide) ?_
    refine J_aload_n (q := 73) C dX4_tell_72 rfl rfl 0 rfl ?_
    refine JC_g_X4_years (q := 76) C ho0 kF_X4_32 dX4_tell_73 rfl ?_
    refine J_iload_n (q := 77) C dX4_tell_76 rfl rfl 1 rfl ?_
    obtain ⟨r5, ec5, h⟩ := bnd_of h
    refine J_callIV (q := 80) (As := [.int i1]) C (c_X0_get hap (isI_st ho0 5 (by decide)) ec5) ok_X0_get kM_X4_78 (lt77I (isI_st ho0 5 (by decide))) (celC_I (isI_st ho0 5 (by decide))) rfl rfl rfl rfl rfl ⟨Nat.le_of_ble_eq_true rfl, Nat.le_of_ble_eq_true rfl⟩ (Nat.le_of_ble_eq_true rfl) dX4_tell_77 rfl ?_
    obtain rfl := Option.some.inj h
    exact J_iret C dX4_tell_80
  have h := itn h z4
  have w0 : i2.toInt ≠ 0 := fun e => z0 (Int32.toInt_inj.mp (e.trans (by decide)))
  have w1 : i2.toInt ≠ 1 := fun e => z1 (Int32.toInt_inj.mp (e.trans (by decide)))
  have w2 : i2.toInt ≠ 2 := fun e => z2 (Int32.toInt_inj.mp (e.trans (by decide)))
  have w3 : i2.toInt ≠ 3 := fun e => z3 (Int32.toInt_inj.mp (e.trans (by decide)))
  have w4 : i2.toInt ≠ 4 := fun e => z4 (Int32.toInt_inj.mp (e.trans (by decide)))
  refine J_tsOut (tgt := 81) C dX4_tell_1 (by omega) (by decide) ?_
  refine J_aload_n (q := 82) C dX4_tell_81 rfl rfl 0 rfl ?_
  refine J_iload_n (q := 83) C dX4_tell_82 rfl rfl 1 rfl ?_
  obtain ⟨r6, ec6, h⟩ := bnd_of h
  refine J_callIV (q := 86) (As := [.int i1]) C (c_X4_more hap ho0 ec6) ok_X4_more kM_X4_127 (lt77S ho0) (celC_S ho0) rfl rfl rfl rfl rfl ⟨Nat.le_of_ble_eq_true rfl, Nat.le_of_ble_eq_true rfl⟩ (Nat.le_of_ble_eq_true rfl) dX4_tell_83 rfl ?_
  obtain rfl := Option.some.inj h
  exact J_iret C dX4_tell_86
set_option maxHeartbeats 4000000 in
set_option maxRecDepth 100000 in
theorem cl_X4_awakeSet_4 {p : Program} {l : Launch} {e : Env} {s : State} {m : MethodId} {args : Array Value} {below : List Frame} {meth : Method} {c : Code} {D : va_G} {cI cR : ClassId} {ad : Nat → Nat} (hap : apN 77 ad) (C : Cx p s m args meth c cX4_awakeSet 3 "WokenYears$Street" D (tysC cI cR) 77 ad (some .int)) {b0 : Nat} (hb0 : isS b0) {k32 : Int32 → Option Int32} {σ : Sg} (r : Int32)  (hk32 : ∀ (u1 : Int32), k32 u1 = some r → Jd p l e (rmF 3 72) s m args below meth c D 77 ad (celC cI cR ad) okC 3 (MQ below (QI D (tysC cI cR) 77 ad (celC cI cR ad) okC r σ) args s 0 0 (inA 77 ad)) 32 [(1, .int u1)] [] σ) : ∀ (n : Nat) (x1 : Int32) (x2 : Int32), l_X4_awakeSet_4 b0 σ k32 n x1 x2 = some r → Jd p l e (rmF 3 72) s m args below meth c D 77 ad (celC cI cR ad) okC 3 (MQ below (QI D (tysC cI cR) 77 ad (celC cI cR ad) okC r σ) args s 0 0 (inA 77 ad)) 4 [(0, .ref (ad b0)), (1, .int x1), (2, .int x2)] [] σ := by
  intro n
  induction n with
  | zero => intro x1 x2 h; cases h
  | succ n ih =>
    intro x1 x2 h
    unfold l_X4_awakeSet_4 at h
    refine J_iload_n (q := 5) C dX4_awakeSet_4 rfl rfl 2 rfl ?_
    refine J_aload_n (q := 6) C dX4_awakeSet_5 rfl rfl 0 rfl ?_
    refine JC_g_X4_size (q := 9) C hb0 kF_X4_42 dX4_awakeSet_6 rfl ?_
    refine J_icmp_ge (tgt := 32) (q := 12) C dX4_awakeSet_9 rfl (by decide) h (fun _ h => ?_) (fun _ h => ?_)
    · refine J_sub [1] rfl ?_
      exact hk32 _ h
    · refine J_aload_n (q := 13) C dX4_awakeSet_12 rfl rfl 0 rfl ?_
      refine J_iload_n (q := 14) C dX4_awakeSet_13 rfl rfl 2 rfl ?_
      obtain ⟨r1, ec1, h⟩ := bnd_of h
      refine J_callIV (q := 17) (As := [.int x2]) C (c_X4_isAwake hap hb0 ec1) ok_X4_isAwake kM_X4_104 (lt77S hb0) (celC_S hb0) rfl rfl rfl rfl rfl ⟨Nat.le_of_ble_eq_true rfl, Nat.le_of_ble_eq_true rfl⟩ (Nat.le_of_ble_eq_true rfl) dX4_awakeSet_14 rfl ?_
      refine jn_elim h (fun k26 ek26 h => ?_)
      have hk26 : ∀ (u1_26 : Int32), k26 u1_26 = some r → Jd p l e (rmF 3 72) s m args below meth c D 77 ad (celC cI cR ad) okC 3 (MQ below (QI D (tysC cI cR) 77 ad (celC cI cR ad) okC r σ) args s 0 0 (inA 77 ad)) 26 [(0, .ref (ad b0)), (1, .int u1_26), (2, .int x2)] [] σ := by
        intro u1_26 h
        rw [ek26] at h
        refine jn_elim h (fun y2 ey2 h => ?_)
        refine J_iinc (v := y2) (q := 29) C dX4_awakeSet_26 rfl 2 rfl (by rw [ey2]; rfl) (by decide) rfl ?_
        refine J_goto (tgt := 4) C dX4_awakeSet_29 (by decide) ?_
        refine J_sub [1, 2, 0] rfl ?_
        exact ih _ _ h
      refine J_ifeq_b (tgt := 26) (q := 20) C dX4_awakeSet_17 rfl (by decide) h (fun _ h => ?_) (fun _ h => ?_)
      · refine J_iload_n (q := 21) C dX4_awakeSet_20 rfl rfl 1 rfl ?_
        refine J_iconst (v := 1 ) (q := 22) C dX4_awakeSet_21 rfl rfl ?_
        refine J_iload_n (q := 23) C dX4_awakeSet_22 rfl rfl 2 rfl ?_
        refine J_ishl (q := 24) C dX4_awakeSet_23 rfl ?_
        refine J_ior (q := 25) C dX4_awakeSet_24 rfl ?_
        refine J_nmi h (fun y3 ey3 h => ?_)
        refine J_istore_n (q := 26) C dX4_awakeSet_25 rfl rfl (by decide) rfl ?_
        refine J_sub [1, 0, 2] rfl ?_
        exact hk26 _ h
      · exact hk26 _ h
set_option maxHeartbeats 4000000 in
set_option maxRecDepth 100000 in
theorem c_X4_awakeSet {l : Launch} {D : va_G} {cI cR : ClassId} {ad : Nat → Nat} (hap : apN 77 ad) {g0 : Nat} {σ : Sg} {r : Int32} (ho0 : isS g0) (h : f_X4_awakeSet g0 σ = some r) : MI l D (tysC cI cR) 77 ad (celC cI cR ad) okC yX4_awakeSet cX4_awakeSet 3 .int 3 72 [.ref (ad g0)] σ r σ := by
  unfold f_X4_awakeSet at h
  refine entI "WokenYears$Street" hap (by decide +kernel) rfl (Nat.le_of_ble_eq_true rfl) (fun p e s m args below meth c C => ?_)
  refine J_sub (lv' := [(0, .ref (ad g0))]) [0] rfl ?_
  refine J_iconst (v := 0 ) (q := 1) C dX4_awakeSet_0 rfl rfl ?_
  refine J_istore_n (q := 2) C dX4_awakeSet_1 rfl rfl (by decide) rfl ?_
  refine J_iconst (v := 0 ) (q := 3) C dX4_awakeSet_2 rfl rfl ?_
  refine J_istore_n (q := 4) C dX4_awakeSet_3 rfl rfl (by decide) rfl ?_
  refine J_sub [2, 1, 0] rfl ?_
  refine cl_X4_awakeSet_4 hap C ho0 r  (fun v1_32 h => ?_) FU _ _ h
  · refine J_iload_n (q := 33) C dX4_awakeSet_32 rfl rfl 0 rfl ?_
    obtain rfl := Option.some.inj h
    exact J_iret C dX4_awakeSet_33
set_option maxHeartbeats 4000000 in
set_option maxRecDepth 100000 in
theorem cl_X4_canWake_2 {p : Program} {l : Launch} {e : Env} {s : State} {m : MethodId} {args : Array Value} {below : List Frame} {meth : Method} {c : Code} {D : va_G} {cI cR : ClassId} {ad : Nat → Nat} (hap : apN 77 ad) (C : Cx p s m args meth c cX4_canWake 3 "WokenYears$Street" D (tysC cI cR) 77 ad (some .boolean)) {b0 : Nat} {a1 : Int32} (hb0 : isS b0) {σ : Sg} (r : Bool)   : ∀ (n : Nat) (x2 : Int32), l_X4_canWake_2 b0 a1 σ n x2 = some r → Jd p l e (rmF 4 98) s m args below meth c D 77 ad (celC cI cR ad) okC 3 (MQ below (QI D (tysC cI cR) 77 ad (celC cI cR ad) okC (b2i r) σ) args s 0 0 (inA 77 ad)) 2 [(0, .ref (ad b0)), (1, .int a1), (2, .int x2)] [] σ := by
  intro n
  induction n with
  | zero => intro x2 h; cases h
  | succ n ih =>
    intro x2 h
    unfold l_X4_canWake_2 at h
    refine J_iload_n (q := 3) C dX4_canWake_2 rfl rfl 2 rfl ?_
    refine J_aload_n (q := 4) C dX4_canWake_3 rfl rfl 0 rfl ?_
    refine JC_g_X4_size (q := 7) C hb0 kF_X4_42 dX4_canWake_4 rfl ?_
    refine J_icmp_ge (tgt := 34) (q := 10) C dX4_canWake_7 rfl (by decide) h (fun _ h => ?_) (fun _ h => ?_)
    · refine J_iconst (v := 1 ) (q := 35) C dX4_canWake_34 rfl rfl ?_
      obtain rfl := Option.some.inj h
      exact J_zret (b := true) C dX4_canWake_35
    · refine J_iload_n (q := 11) C dX4_canWake_10 rfl rfl 1 rfl ?_
      refine J_iload_n (q := 12) C dX4_canWake_11 rfl rfl 2 rfl ?_
      obtain ⟨r1, ec1, h⟩ := bnd_of h
      refine J_callISN (q := 15) (As := [.int a1, .int x2]) C (c_X5_holds hap  ec1) ok_X5_holds C.2.2.2.2.2.2.2.2.2.2.2.1 rfl rfl rfl ⟨Nat.le_of_ble_eq_true rfl, Nat.le_of_ble_eq_true rfl⟩ (Nat.le_of_ble_eq_true rfl) dX4_canWake_12 rfl ?_
      refine jn_elim h (fun k28 ek28 h => ?_)
      have hk28 : k28 = some r → Jd p l e (rmF 4 98) s m args below meth c D 77 ad (celC cI cR ad) okC 3 (MQ below (QI D (tysC cI cR) 77 ad (celC cI cR ad) okC (b2i r) σ) args s 0 0 (inA 77 ad)) 28 [(0, .ref (ad b0)), (1, .int a1), (2, .int x2)] [] σ := by
        intro  h
        rw [ek28] at h
        refine jn_elim h (fun y2 ey2 h => ?_)
        refine J_iinc (v := y2) (q := 31) C dX4_canWake_28 rfl 2 rfl (by rw [ey2]; rfl) (by decide) rfl ?_
        refine J_goto (tgt := 2) C dX4_canWake_31 (by decide) ?_
        refine J_sub [1, 2, 0] rfl ?_
        exact ih _ h
      refine J_ifeq_b (tgt := 28) (q := 18) C dX4_canWake_15 rfl (by decide) h (fun _ h => ?_) (fun _ h => ?_)
      · refine J_aload_n (q := 19) C dX4_canWake_18 rfl rfl 0 rfl ?_
        refine J_iload_n (q := 20) C dX4_canWake_19 rfl rfl 2 rfl ?_
        obtain ⟨r3, ec3, h⟩ := bnd_of h
        refine J_callIV (q := 23) (As := [.int x2]) C (c_X4_more hap hb0 ec3) ok_X4_more kM_X4_127 (lt77S hb0) (celC_S hb0) rfl rfl rfl rfl rfl ⟨Nat.le_of_ble_eq_true rfl, Nat.le_of_ble_eq_true rfl⟩ (Nat.le_of_ble_eq_true rfl) dX4_canWake_20 rfl ?_
        refine J_if_gt (tgt := 28) (q := 26) C dX4_canWake_23 rfl (by decide) h (fun _ h => ?_) (fun _ h => ?_)
        · exact hk28 h
        · refine J_iconst (v := 0 ) (q := 27) C dX4_canWake_26 rfl rfl ?_
          obtain rfl := Option.some.inj h
          exact J_zret (b := false) C dX4_canWake_27
      · exact hk28 h
set_option maxHeartbeats 4000000 in
set_option maxRecDepth 100000 in
theorem c_X4_canWake {l : Launch} {D : va_G} {cI cR : ClassId} {ad : Nat → Nat} (hap : apN 77 ad) {g0 : Nat} {i1 : Int32} {σ : Sg} {r : Bool} (ho0 : isS g0) (h : f_X4_canWake g0 i1 σ = some r) : MI l D (tysC cI cR) 77 ad (celC cI cR ad) okC yX4_canWake cX4_canWake 3 .boolean 4 98 [.ref (ad g0), .int i1] σ (b2i r) σ := by
  unfold f_X4_canWake at h
  refine entI "WokenYears$Street" hap (by decide +kernel) rfl (Nat.le_of_ble_eq_true rfl) (fun p e s m args below meth c C => ?_)
  refine J_sub (lv' := [(0, .ref (ad g0)), (1, .int i1)]) [0, 1] rfl ?_
  refine J_iconst (v := 0 ) (q := 1) C dX4_canWake_0 rfl rfl ?_
  refine J_istore_n (q := 2) C dX4_canWake_1 rfl rfl (by decide) rfl ?_
  refine J_sub [1, 2, 0] rfl ?_
  refine cl_X4_canWake_2 hap C ho0 r  FU _ h
set_option maxHeartbeats 4000000 in
set_option maxRecDepth 100000 in
theorem cl_X4_fees_4 {p : Program} {l : Launch} {e : Env} {s : State} {m : MethodId} {args : Array Value} {below : List Frame} {meth : Method} {c : Code} {D : va_G} {cI cR : ClassId} {ad : Nat → Nat} (hap : apN 77 ad) (C : Cx p s m args meth c cX4_fees 4 "WokenYears$Street" D (tysC cI cR) 77 ad (some .int)) {b0 : Nat} {a1 : Int32} (hb0 : isS b0) {k38 : Int32 → Option Int32} {σ : Sg} (r : Int32)  (hk38 : ∀ (u2 : Int32), k38 u2 = some r → Jd p l e (rmF 3 72) s m args below meth c D 77 ad (celC cI cR ad) okC 4 (MQ below (QI D (tysC cI cR) 77 ad (celC cI cR ad) okC r σ) args s 0 0 (inA 77 ad)) 38 [(2, .int u2)] [] σ) : ∀ (n : Nat) (x2 : Int32) (x3 : Int32), l_X4_fees_4 b0 a1 σ k38 n x2 x3 = some r → Jd p l e (rmF 3 72) s m args below meth c D 77 ad (celC cI cR ad) okC 4 (MQ below (QI D (tysC cI cR) 77 ad (celC cI cR ad) okC r σ) args s 0 0 (inA 77 ad)) 4 [(0, .ref (ad b0)), (1, .int a1), (2, .int x2), (3, .int x3)] [] σ := by
  intro n
  induction n with
  | zero => intro x2 x3 h; cases h
  | succ n ih =>
    intro x2 x3 h
    unfold l_X4_fees_4 at h
    refine J_iload_n (q := 5) C dX4_fees_4 rfl rfl 3 rfl ?_
    refine J_aload_n (q := 6) C dX4_fees_5 rfl rfl 0 rfl ?_
    refine JC_g_X4_size (q := 9) C hb0 kF_X4_42 dX4_fees_6 rfl ?_
    refine J_icmp_ge (tgt := 38) (q := 12) C dX4_fees_9 rfl (by decide) h (fun _ h => ?_) (fun _ h => ?_)
    · refine J_sub [2] rfl ?_
      exact hk38 _ h
    · refine J_iload_n (q := 13) C dX4_fees_12 rfl rfl 2 rfl ?_
      refine J_iload_n (q := 14) C dX4_fees_13 rfl rfl 1 rfl ?_
      refine J_iload_n (q := 15) C dX4_fees_14 rfl rfl 3 rfl ?_
      obtain ⟨r1, ec1, h⟩ := bnd_of h
      refine J_callISN (q := 18) (As := [.int a1, .int x3]) C (c_X5_holds hap  ec1) ok_X5_holds C.2.2.2.2.2.2.2.2.2.2.2.1 rfl rfl rfl ⟨Nat.le_of_ble_eq_true rfl, Nat.le_of_ble_eq_true rfl⟩ (Nat.le_of_ble_eq_true rfl) dX4_fees_15 rfl ?_
      refine jn_elim h (fun k30 ek30 h => ?_)
      have hk30 : ∀ (t0_30 : Int32), k30 t0_30 = some r → Jd p l e (rmF 3 72) s m args below meth c D 77 ad (celC cI cR ad) okC 4 (MQ below (QI D (tysC cI cR) 77 ad (celC cI cR ad) okC r σ) args s 0 0 (inA 77 ad)) 30 [(0, .ref (ad b0)), (1, .int a1), (3, .int x3)] [.int t0_30, .int x2] σ := by
        intro t0_30 h
        rw [ek30] at h
        refine J_iadd (q := 31) C dX4_fees_30 rfl ?_
        refine J_nmi h (fun y2 ey2 h => ?_)
        refine J_istore_n (q := 32) C dX4_fees_31 rfl rfl (by decide) rfl ?_
        refine jn_elim h (fun y3 ey3 h => ?_)
        refine J_iinc (v := y3) (q := 35) C dX4_fees_32 rfl 3 rfl (by rw [ey3]; rfl) (by decide) rfl ?_
        refine J_goto (tgt := 4) C dX4_fees_35 (by decide) ?_
        refine J_sub [2, 3, 1, 0] rfl ?_
        exact ih _ _ h
      refine J_ifeq_b (tgt := 29) (q := 21) C dX4_fees_18 rfl (by decide) h (fun _ h => ?_) (fun _ h => ?_)
      · refine J_aload_n (q := 22) C dX4_fees_21 rfl rfl 0 rfl ?_
        refine J_iload_n (q := 23) C dX4_fees_22 rfl rfl 3 rfl ?_
        obtain ⟨r4, ec4, h⟩ := bnd_of h
        refine J_callIV (q := 26) (As := [.int x3]) C (c_X4_fee hap hb0 ec4) ok_X4_fee kM_X4_108 (lt77S hb0) (celC_S hb0) rfl rfl rfl rfl rfl ⟨Nat.le_of_ble_eq_true rfl, Nat.le_of_ble_eq_true rfl⟩ (Nat.le_of_ble_eq_true rfl) dX4_fees_23 rfl ?_
        refine J_goto (tgt := 30) C dX4_fees_26 (by decide) ?_
        refine J_sub [0, 1, 3] rfl ?_
        exact hk30 _ h
      · refine J_iconst (v := 0 ) (q := 30) C dX4_fees_29 rfl rfl ?_
        refine J_sub [0, 1, 3] rfl ?_
        exact hk30 _ h
set_option maxHeartbeats 4000000 in
set_option maxRecDepth 100000 in
theorem c_X4_fees {l : Launch} {D : va_G} {cI cR : ClassId} {ad : Nat → Nat} (hap : apN 77 ad) {g0 : Nat} {i1 : Int32} {σ : Sg} {r : Int32} (ho0 : isS g0) (h : f_X4_fees g0 i1 σ = some r) : MI l D (tysC cI cR) 77 ad (celC cI cR ad) okC yX4_fees cX4_fees 4 .int 3 72 [.ref (ad g0), .int i1] σ r σ := by
  unfold f_X4_fees at h
  refine entI "WokenYears$Street" hap (by decide +kernel) rfl (Nat.le_of_ble_eq_true rfl) (fun p e s m args below meth c C => ?_)
  refine J_sub (lv' := [(0, .ref (ad g0)), (1, .int i1)]) [0, 1] rfl ?_
  refine J_iconst (v := 0 ) (q := 1) C dX4_fees_0 rfl rfl ?_
  refine J_istore_n (q := 2) C dX4_fees_1 rfl rfl (by decide) rfl ?_
  refine J_iconst (v := 0 ) (q := 3) C dX4_fees_2 rfl rfl ?_
  refine J_istore_n (q := 4) C dX4_fees_3 rfl rfl (by decide) rfl ?_
  refine J_sub [2, 3, 1, 0] rfl ?_
  refine cl_X4_fees_4 hap C ho0 r  (fun v2_38 h => ?_) FU _ _ h
  · refine J_iload_n (q := 39) C dX4_fees_38 rfl rfl 0 rfl ?_
    obtain rfl := Option.some.inj h
    exact J_iret C dX4_fees_39
set_option maxHeartbeats 4000000 in
set_option maxRecDepth 100000 in
theorem cl_X4_manyOf_4 {p : Program} {l : Launch} {e : Env} {s : State} {m : MethodId} {args : Array Value} {below : List Frame} {meth : Method} {c : Code} {D : va_G} {cI cR : ClassId} {ad : Nat → Nat} (hap : apN 77 ad) (C : Cx p s m args meth c cX4_manyOf 4 "WokenYears$Street" D (tysC cI cR) 77 ad (some .int)) {b0 : Nat} {a1 : Int32} (hb0 : isS b0) {k41 : Int32 → Option Int32} {σ : Sg} (r : Int32)  (hk41 : ∀ (u2 : Int32), k41 u2 = some r → Jd p l e (rmF 2 51) s m args below meth c D 77 ad (celC cI cR ad) okC 4 (MQ below (QI D (tysC cI cR) 77 ad (celC cI cR ad) okC r σ) args s 0 0 (inA 77 ad)) 41 [(2, .int u2)] [] σ) : ∀ (n : Nat) (x2 : Int32) (x3 : Int32), l_X4_manyOf_4 b0 a1 σ k41 n x2 x3 = some r → Jd p l e (rmF 2 51) s m args below meth c D 77 ad (celC cI cR ad) okC 4 (MQ below (QI D (tysC cI cR) 77 ad (celC cI cR ad) okC r σ) args s 0 0 (inA 77 ad)) 4 [(0, .ref (ad b0)), (1, .int a1), (2, .int x2), (3, .int x3)] [] σ := by
  intro n
  induction n with
  | zero => intro x2 x3 h; cases h
  | succ n ih =>
    intro x2 x3 h
    unfold l_X4_manyOf_4 at h
    refine J_iload_n (q := 5) C dX4_manyOf_4 rfl rfl 3 rfl ?_
    refine J_aload_n (q := 6) C dX4_manyOf_5 rfl rfl 0 rfl ?_
    refine JC_g_X4_size (q := 9) C hb0 kF_X4_42 dX4_manyOf_6 rfl ?_
    refine J_icmp_ge (tgt := 41) (q := 12) C dX4_manyOf_9 rfl (by decide) h (fun _ h => ?_) (fun _ h => ?_)
    · refine J_sub [2] rfl ?_
      exact hk41 _ h
    · refine J_iload_n (q := 13) C dX4_manyOf_12 rfl rfl 2 rfl ?_
      refine J_aload_n (q := 14) C dX4_manyOf_13 rfl rfl 0 rfl ?_
      refine JC_g_X4_kinds (q := 17) C hb0 kF_X4_14 dX4_manyOf_14 rfl ?_
      refine J_iload_n (q := 18) C dX4_manyOf_17 rfl rfl 3 rfl ?_
      obtain ⟨r1, ec1, h⟩ := bnd_of h
      refine J_callIV (q := 21) (As := [.int x3]) C (c_X0_get hap (isI_st hb0 0 (by decide)) ec1) ok_X0_get kM_X4_78 (lt77I (isI_st hb0 0 (by decide))) (celC_I (isI_st hb0 0 (by decide))) rfl rfl rfl rfl rfl ⟨Nat.le_of_ble_eq_true rfl, Nat.le_of_ble_eq_true rfl⟩ (Nat.le_of_ble_eq_true rfl) dX4_manyOf_18 rfl ?_
      refine J_iload_n (q := 22) C dX4_manyOf_21 rfl rfl 1 rfl ?_
      obtain ⟨r2, ec2, h⟩ := bnd_of h
      refine J_callIS (q := 25) (As := [.int r1, .int a1]) C (c_X1_isOf hap  ec2) ok_X1_isOf kM_X4_134 rfl rfl rfl ⟨Nat.le_of_ble_eq_true rfl, Nat.le_of_ble_eq_true rfl⟩ (Nat.le_of_ble_eq_true rfl) dX4_manyOf_22 rfl ?_
      refine jn_elim h (fun k33 ek33 h => ?_)
      have hk33 : ∀ (t0_33 : Bool), k33 t0_33 = some r → Jd p l e (rmF 2 51) s m args below meth c D 77 ad (celC cI cR ad) okC 4 (MQ below (QI D (tysC cI cR) 77 ad (celC cI cR ad) okC r σ) args s 0 0 (inA 77 ad)) 33 [(0, .ref (ad b0)), (1, .int a1), (3, .int x3)] [.int (b2i t0_33), .int x2] σ := by
        intro t0_33 h
        rw [ek33] at h
        refine J_iadd (q := 34) C dX4_manyOf_33 rfl ?_
        refine J_nmi h (fun y3 ey3 h => ?_)
        refine J_istore_n (q := 35) C dX4_manyOf_34 rfl rfl (by decide) rfl ?_
        refine jn_elim h (fun y4 ey4 h => ?_)
        refine J_iinc (v := y4) (q := 38) C dX4_manyOf_35 rfl 3 rfl (by rw [ey4]; rfl) (by decide) rfl ?_
        refine J_goto (tgt := 4) C dX4_manyOf_38 (by decide) ?_
        refine J_sub [2, 3, 1, 0] rfl ?_
        exact ih _ _ h
      refine J_ifeq_b (tgt := 32) (q := 28) C dX4_manyOf_25 rfl (by decide) h (fun _ h => ?_) (fun _ h => ?_)
      · refine J_iconst (v := 1 ) (q := 29) C dX4_manyOf_28 rfl rfl ?_
        refine J_goto (tgt := 33) C dX4_manyOf_29 (by decide) ?_
        refine J_sub [0, 1, 3] rfl ?_
        exact hk33 _ h
      · refine J_iconst (v := 0 ) (q := 33) C dX4_manyOf_32 rfl rfl ?_
        refine J_sub [0, 1, 3] rfl ?_
        exact hk33 _ h
set_option maxHeartbeats 4000000 in
set_option maxRecDepth 100000 in
theorem c_X4_manyOf {l : Launch} {D : va_G} {cI cR : ClassId} {ad : Nat → Nat} (hap : apN 77 ad) {g0 : Nat} {i1 : Int32} {σ : Sg} {r : Int32} (ho0 : isS g0) (h : f_X4_manyOf g0 i1 σ = some r) : MI l D (tysC cI cR) 77 ad (celC cI cR ad) okC yX4_manyOf cX4_manyOf 4 .int 2 51 [.ref (ad g0), .int i1] σ r σ := by
  unfold f_X4_manyOf at h
  refine entI "WokenYears$Street" hap (by decide +kernel) rfl (Nat.le_of_ble_eq_true rfl) (fun p e s m args below meth c C => ?_)
  refine J_sub (lv' := [(0, .ref (ad g0)), (1, .int i1)]) [0, 1] rfl ?_
  refine J_iconst (v := 0 ) (q := 1) C dX4_manyOf_0 rfl rfl ?_
  refine J_istore_n (q := 2) C dX4_manyOf_1 rfl rfl (by decide) rfl ?_
  refine J_iconst (v := 0 ) (q := 3) C dX4_manyOf_2 rfl rfl ?_
  refine J_istore_n (q := 4) C dX4_manyOf_3 rfl rfl (by decide) rfl ?_
  refine J_sub [2, 3, 1, 0] rfl ?_
  refine cl_X4_manyOf_4 hap C ho0 r  (fun v2_41 h => ?_) FU _ _ h
  · refine J_iload_n (q := 42) C dX4_manyOf_41 rfl rfl 0 rfl ?_
    obtain rfl := Option.some.inj h
    exact J_iret C dX4_manyOf_42
set_option maxHeartbeats 4000000 in
set_option maxRecDepth 100000 in
theorem cl_X4_nextByDate_6 {p : Program} {l : Launch} {e : Env} {s : State} {m : MethodId} {args : Array Value} {below : List Frame} {meth : Method} {c : Code} {D : va_G} {cI cR : ClassId} {ad : Nat → Nat} (hap : apN 77 ad) (C : Cx p s m args meth c cX4_nextByDate 6 "WokenYears$Street" D (tysC cI cR) 77 ad (some .int)) {b0 : Nat} {a1 : Int32} {a2 : Int32} (hb0 : isS b0) {k79 : Int32 → Option Int32} {σ : Sg} (r : Int32)  (hk79 : ∀ (u3 : Int32), k79 u3 = some r → Jd p l e (rmF 2 51) s m args below meth c D 77 ad (celC cI cR ad) okC 6 (MQ below (QI D (tysC cI cR) 77 ad (celC cI cR ad) okC r σ) args s 0 0 (inA 77 ad)) 79 [(3, .int u3)] [] σ) : ∀ (n : Nat) (x3 : Int32) (x4 : Int32), l_X4_nextByDate_6 b0 a1 a2 σ k79 n x3 x4 = some r → Jd p l e (rmF 2 51) s m args below meth c D 77 ad (celC cI cR ad) okC 6 (MQ below (QI D (tysC cI cR) 77 ad (celC cI cR ad) okC r σ) args s 0 0 (inA 77 ad)) 6 [(0, .ref (ad b0)), (1, .int a1), (2, .int a2), (3, .int x3), (4, .int x4)] [] σ := by
  intro n
  induction n with
  | zero => intro x3 x4 h; cases h
  | succ n ih =>
    intro x3 x4 h
    unfold l_X4_nextByDate_6 at h
    refine J_iload (q := 8) C dX4_nextByDate_6 rfl 4 rfl ?_
    refine J_aload_n (q := 9) C dX4_nextByDate_8 rfl rfl 0 rfl ?_
    refine JC_g_X4_size (q := 12) C hb0 kF_X4_42 dX4_nextByDate_9 rfl ?_
    refine J_icmp_ge (tgt := 79) (q := 15) C dX4_nextByDate_12 rfl (by decide) h (fun _ h => ?_) (fun _ h => ?_)
    · refine J_sub [3] rfl ?_
      exact hk79 _ h
    · refine J_iload_n (q := 16) C dX4_nextByDate_15 rfl rfl 3 rfl ?_
      refine J_bipush (v := -9) (q := 18) C dX4_nextByDate_16 rfl rfl ?_
      refine jn_elim h (fun k50 ek50 h => ?_)
      have hk50 : ∀ (t0_50 : Bool), k50 t0_50 = some r → Jd p l e (rmF 2 51) s m args below meth c D 77 ad (celC cI cR ad) okC 6 (MQ below (QI D (tysC cI cR) 77 ad (celC cI cR ad) okC r σ) args s 0 0 (inA 77 ad)) 50 [(0, .ref (ad b0)), (1, .int a1), (2, .int a2), (3, .int x3), (4, .int x4)] [.int (b2i t0_50)] σ := by
        intro t0_50 h
        rw [ek50] at h
        refine J_istore (q := 52) C dX4_nextByDate_50 rfl (by decide) rfl ?_
        refine J_iload_n (q := 53) C dX4_nextByDate_52 rfl rfl 2 rfl ?_
        refine J_iload (q := 55) C dX4_nextByDate_53 rfl 5 rfl ?_
        obtain ⟨r1, ec1, h⟩ := bnd_of h
        refine J_callISN (q := 58) (As := [.int a1, .int x4]) C (c_X5_holds hap  ec1) ok_X5_holds C.2.2.2.2.2.2.2.2.2.2.2.1 rfl rfl rfl ⟨Nat.le_of_ble_eq_true rfl, Nat.le_of_ble_eq_true rfl⟩ (Nat.le_of_ble_eq_true rfl) dX4_nextByDate_55 rfl ?_
        refine jn_elim h (fun k72 ek72 h => ?_)
        have hk72 : ∀ (t0_72 : Int32), k72 t0_72 = some r → Jd p l e (rmF 2 51) s m args below meth c D 77 ad (celC cI cR ad) okC 6 (MQ below (QI D (tysC cI cR) 77 ad (celC cI cR ad) okC r σ) args s 0 0 (inA 77 ad)) 72 [(0, .ref (ad b0)), (1, .int a1), (2, .int a2), (4, .int x4)] [.int t0_72] σ := by
          intro t0_72 h
          rw [ek72] at h
          refine J_istore_n (q := 73) C dX4_nextByDate_72 rfl rfl (by decide) rfl ?_
          refine jn_elim h (fun y2 ey2 h => ?_)
          refine J_iinc (v := y2) (q := 76) C dX4_nextByDate_73 rfl 4 rfl (by rw [ey2]; rfl) (by decide) rfl ?_
          refine J_goto (tgt := 6) C dX4_nextByDate_76 (by decide) ?_
          refine J_sub [2, 3, 4, 1, 0] rfl ?_
          exact ih _ _ h
        refine jn_elim h (fun k71 ek71 h => ?_)
        have hk71 : k71 = some r → Jd p l e (rmF 2 51) s m args below meth c D 77 ad (celC cI cR ad) okC 6 (MQ below (QI D (tysC cI cR) 77 ad (celC cI cR ad) okC r σ) args s 0 0 (inA 77 ad)) 71 [(0, .ref (ad b0)), (1, .int a1), (2, .int a2), (3, .int x3), (4, .int x4)] [] σ := by
          intro  h
          rw [ek71] at h
          refine J_iload_n (q := 72) C dX4_nextByDate_71 rfl rfl 3 rfl ?_
          refine J_sub [0, 1, 2, 4] rfl ?_
          exact hk72 _ h
        refine J_ifne_b (tgt := 71) (q := 61) C dX4_nextByDate_58 rfl (by decide) h (fun _ h => ?_) (fun _ h => ?_)
        · refine J_sub [1, 2, 3, 4, 5] rfl ?_
          exact hk71 h
        · refine J_iload (q := 63) C dX4_nextByDate_61 rfl 0 rfl ?_
          refine J_ifeq_b (tgt := 71) (q := 66) C dX4_nextByDate_63 rfl (by decide) h (fun _ h => ?_) (fun _ h => ?_)
          · refine J_iload (q := 68) C dX4_nextByDate_66 rfl 5 rfl ?_
            refine J_goto (tgt := 72) C dX4_nextByDate_68 (by decide) ?_
            refine J_sub [1, 2, 3, 5] rfl ?_
            exact hk72 _ h
          · refine J_sub [1, 2, 3, 4, 5] rfl ?_
            exact hk71 h
      refine jn_elim h (fun k45 ek45 h => ?_)
      have hk45 : k45 = some r → Jd p l e (rmF 2 51) s m args below meth c D 77 ad (celC cI cR ad) okC 6 (MQ below (QI D (tysC cI cR) 77 ad (celC cI cR ad) okC r σ) args s 0 0 (inA 77 ad)) 45 [(0, .ref (ad b0)), (1, .int a1), (2, .int a2), (3, .int x3), (4, .int x4)] [] σ := by
        intro  h
        rw [ek45] at h
        refine J_iconst (v := 1 ) (q := 46) C dX4_nextByDate_45 rfl rfl ?_
        refine J_goto (tgt := 50) C dX4_nextByDate_46 (by decide) ?_
        exact hk50 _ h
      refine J_icmp_eq (tgt := 45) (q := 21) C dX4_nextByDate_18 rfl (by decide) h (fun _ h => ?_) (fun _ h => ?_)
      · exact hk45 h
      · refine J_iload_n (q := 22) C dX4_nextByDate_21 rfl rfl 2 rfl ?_
        refine J_aload_n (q := 23) C dX4_nextByDate_22 rfl rfl 0 rfl ?_
        refine JC_g_X4_dates (q := 26) C hb0 kF_X4_26 dX4_nextByDate_23 rfl ?_
        refine J_iload (q := 28) C dX4_nextByDate_26 rfl 4 rfl ?_
        obtain ⟨r3, ec3, h⟩ := bnd_of h
        refine J_callIV (q := 31) (As := [.int x4]) C (c_X0_get hap (isI_st hb0 3 (by decide)) ec3) ok_X0_get kM_X4_78 (lt77I (isI_st hb0 3 (by decide))) (celC_I (isI_st hb0 3 (by decide))) rfl rfl rfl rfl rfl ⟨Nat.le_of_ble_eq_true rfl, Nat.le_of_ble_eq_true rfl⟩ (Nat.le_of_ble_eq_true rfl) dX4_nextByDate_28 rfl ?_
        refine J_imul (q := 32) C dX4_nextByDate_31 rfl ?_
        refine J_iload_n (q := 33) C dX4_nextByDate_32 rfl rfl 2 rfl ?_
        refine J_aload_n (q := 34) C dX4_nextByDate_33 rfl rfl 0 rfl ?_
        refine JC_g_X4_dates (q := 37) C hb0 kF_X4_26 dX4_nextByDate_34 rfl ?_
        refine J_iload_n (q := 38) C dX4_nextByDate_37 rfl rfl 3 rfl ?_
        obtain ⟨r4, ec4, h⟩ := bnd_of h
        refine J_callIV (q := 41) (As := [.int x3]) C (c_X0_get hap (isI_st hb0 3 (by decide)) ec4) ok_X0_get kM_X4_78 (lt77I (isI_st hb0 3 (by decide))) (celC_I (isI_st hb0 3 (by decide))) rfl rfl rfl rfl rfl ⟨Nat.le_of_ble_eq_true rfl, Nat.le_of_ble_eq_true rfl⟩ (Nat.le_of_ble_eq_true rfl) dX4_nextByDate_38 rfl ?_
        refine J_imul (q := 42) C dX4_nextByDate_41 rfl ?_
        refine J_icmp_ge (tgt := 49) (q := 45) C dX4_nextByDate_42 rfl (by decide) h (fun _ h => ?_) (fun _ h => ?_)
        · refine J_iconst (v := 0 ) (q := 50) C dX4_nextByDate_49 rfl rfl ?_
          exact hk50 _ h
        · exact hk45 h
set_option maxHeartbeats 4000000 in
set_option maxRecDepth 100000 in
theorem c_X4_nextByDate {l : Launch} {D : va_G} {cI cR : ClassId} {ad : Nat → Nat} (hap : apN 77 ad) {g0 : Nat} {i1 : Int32} {i2 : Int32} {σ : Sg} {r : Int32} (ho0 : isS g0) (h : f_X4_nextByDate g0 i1 i2 σ = some r) : MI l D (tysC cI cR) 77 ad (celC cI cR ad) okC yX4_nextByDate cX4_nextByDate 6 .int 2 51 [.ref (ad g0), .int i1, .int i2] σ r σ := by
  unfold f_X4_nextByDate at h
  refine entI "WokenYears$Street" hap (by decide +kernel) rfl (Nat.le_of_ble_eq_true rfl) (fun p e s m args below meth c C => ?_)
  refine J_sub (lv' := [(0, .ref (ad g0)), (1, .int i1), (2, .int i2)]) [0, 1, 2] rfl ?_
  refine J_bipush (v := -9) (q := 2) C dX4_nextByDate_0 rfl rfl ?_
  refine J_istore_n (q := 3) C dX4_nextByDate_2 rfl rfl (by decide) rfl ?_
  refine J_iconst (v := 0 ) (q := 4) C dX4_nextByDate_3 rfl rfl ?_
  refine J_istore (q := 6) C dX4_nextByDate_4 rfl (by decide) rfl ?_
  refine J_sub [2, 3, 4, 1, 0] rfl ?_
  refine cl_X4_nextByDate_6 hap C ho0 r  (fun v3_79 h => ?_) FU _ _ h
  · refine J_iconst (v := 0 ) (q := 80) C dX4_nextByDate_79 rfl rfl ?_
    refine J_iload_n (q := 81) C dX4_nextByDate_80 rfl rfl 0 rfl ?_
    refine J_mmax (q := 84) C kM_X4_124 kMath_max_s kMath_max_c (Nat.le_of_ble_eq_true rfl) (Nat.le_of_ble_eq_true rfl) dX4_nextByDate_81 rfl ?_
    obtain rfl := Option.some.inj h
    exact J_iret C dX4_nextByDate_84
set_option maxHeartbeats 4000000 in
set_option maxRecDepth 100000 in
theorem cl_X4_mostAwake_17 {p : Program} {l : Launch} {e : Env} {s : State} {m : MethodId} {args : Array Value} {below : List Frame} {meth : Method} {c : Code} {D : va_G} {cI cR : ClassId} {ad : Nat → Nat} (hap : apN 77 ad) (C : Cx p s m args meth c cX4_mostAwake 7 "WokenYears$Street" D (tysC cI cR) 77 ad (some .int)) {b0 : Nat} {a1 : Int32} {a2 : Int32} {a5 : Int32} (hb0 : isS b0) {k60 : Int32 → Int32 → Option Int32} {σ : Sg} (r : Int32)  (hk60 : ∀ (u3 : Int32) (u4 : Int32), k60 u3 u4 = some r → Jd p l e (rmF 4 98) s m args below meth c D 77 ad (celC cI cR ad) okC 7 (MQ below (QI D (tysC cI cR) 77 ad (celC cI cR ad) okC r σ) args s 0 0 (inA 77 ad)) 60 [(0, .ref (ad b0)), (1, .int a1), (2, .int a2), (3, .int u3), (4, .int u4), (5, .int a5)] [] σ) : ∀ (n : Nat) (x3 : Int32) (x4 : Int32) (x6 : Int32), l_X4_mostAwake_17 b0 a1 a2 a5 σ k60 n x3 x4 x6 = some r → Jd p l e (rmF 4 98) s m args below meth c D 77 ad (celC cI cR ad) okC 7 (MQ below (QI D (tysC cI cR) 77 ad (celC cI cR ad) okC r σ) args s 0 0 (inA 77 ad)) 17 [(0, .ref (ad b0)), (1, .int a1), (2, .int a2), (3, .int x3), (4, .int x4), (5, .int a5), (6, .int x6)] [] σ := by
  intro n
  induction n with
  | zero => intro x3 x4 x6 h; cases h
  | succ n ih =>
    intro x3 x4 x6 h
    unfold l_X4_mostAwake_17 at h
    refine J_iload (q := 19) C dX4_mostAwake_17 rfl 6 rfl ?_
    refine J_aload_n (q := 20) C dX4_mostAwake_19 rfl rfl 0 rfl ?_
    refine JC_g_X4_size (q := 23) C hb0 kF_X4_42 dX4_mostAwake_20 rfl ?_
    refine J_icmp_ge (tgt := 60) (q := 26) C dX4_mostAwake_23 rfl (by decide) h (fun _ h => ?_) (fun _ h => ?_)
    · refine J_sub [0, 1, 2, 3, 4, 5] rfl ?_
      exact hk60 _ _ h
    · refine J_aload_n (q := 27) C dX4_mostAwake_26 rfl rfl 0 rfl ?_
      refine J_iload (q := 29) C dX4_mostAwake_27 rfl 6 rfl ?_
      obtain ⟨r1, ec1, h⟩ := bnd_of h
      refine J_callIV (q := 32) (As := [.int x6]) C (c_X4_more hap hb0 ec1) ok_X4_more kM_X4_127 (lt77S hb0) (celC_S hb0) rfl rfl rfl rfl rfl ⟨Nat.le_of_ble_eq_true rfl, Nat.le_of_ble_eq_true rfl⟩ (Nat.le_of_ble_eq_true rfl) dX4_mostAwake_29 rfl ?_
      refine J_iload (q := 34) C dX4_mostAwake_32 rfl 5 rfl ?_
      refine jn_elim h (fun k54 ek54 h => ?_)
      have hk54 : ∀ (u3_54 : Int32) (u4_54 : Int32), k54 u3_54 u4_54 = some r → Jd p l e (rmF 4 98) s m args below meth c D 77 ad (celC cI cR ad) okC 7 (MQ below (QI D (tysC cI cR) 77 ad (celC cI cR ad) okC r σ) args s 0 0 (inA 77 ad)) 54 [(0, .ref (ad b0)), (1, .int a1), (2, .int a2), (3, .int u3_54), (4, .int u4_54), (5, .int a5), (6, .int x6)] [] σ := by
        intro u3_54 u4_54 h
        rw [ek54] at h
        refine jn_elim h (fun y2 ey2 h => ?_)
        refine J_iinc (v := y2) (q := 57) C dX4_mostAwake_54 rfl 6 rfl (by rw [ey2]; rfl) (by decide) rfl ?_
        refine J_goto (tgt := 17) C dX4_mostAwake_57 (by decide) ?_
        refine J_sub [1, 2, 3, 4, 5, 6, 0] rfl ?_
        exact ih _ _ _ h
      refine J_icmp_ne (tgt := 54) (q := 37) C dX4_mostAwake_34 rfl (by decide) h (fun _ h => ?_) (fun _ h => ?_)
      · refine J_iload (q := 39) C dX4_mostAwake_37 rfl 5 rfl ?_
        refine J_iload (q := 41) C dX4_mostAwake_39 rfl 4 rfl ?_
        refine J_icmp_gt (tgt := 54) (q := 44) C dX4_mostAwake_41 rfl (by decide) h (fun _ h => ?_) (fun _ h => ?_)
        · exact hk54 _ _ h
        · refine J_iload (q := 46) C dX4_mostAwake_44 rfl 4 rfl ?_
          refine J_iload (q := 48) C dX4_mostAwake_46 rfl 5 rfl ?_
          refine J_isub (q := 49) C dX4_mostAwake_48 rfl ?_
          refine J_nmi h (fun y3 ey3 h => ?_)
          refine J_istore (q := 51) C dX4_mostAwake_49 rfl (by decide) rfl ?_
          refine jn_elim h (fun y4 ey4 h => ?_)
          refine J_iinc (v := y4) (q := 54) C dX4_mostAwake_51 rfl 4 rfl (by rw [ey4]; rfl) (by decide) rfl ?_
          refine J_sub [2, 3, 4, 0, 1, 5, 6] rfl ?_
          exact hk54 _ _ h
      · exact hk54 _ _ h
set_option maxHeartbeats 4000000 in
set_option maxRecDepth 100000 in
theorem cl_X4_mostAwake_8 {p : Program} {l : Launch} {e : Env} {s : State} {m : MethodId} {args : Array Value} {below : List Frame} {meth : Method} {c : Code} {D : va_G} {cI cR : ClassId} {ad : Nat → Nat} (hap : apN 77 ad) (C : Cx p s m args meth c cX4_mostAwake 7 "WokenYears$Street" D (tysC cI cR) 77 ad (some .int)) {b0 : Nat} {a1 : Int32} {a2 : Int32} (hb0 : isS b0) {k66 : Int32 → Option Int32} {σ : Sg} (r : Int32)  (hk66 : ∀ (u3 : Int32), k66 u3 = some r → Jd p l e (rmF 4 98) s m args below meth c D 77 ad (celC cI cR ad) okC 7 (MQ below (QI D (tysC cI cR) 77 ad (celC cI cR ad) okC r σ) args s 0 0 (inA 77 ad)) 66 [(3, .int u3)] [] σ) : ∀ (n : Nat) (x3 : Int32) (x4 : Int32) (x5 : Int32), l_X4_mostAwake_8 b0 a1 a2 σ k66 n x3 x4 x5 = some r → Jd p l e (rmF 4 98) s m args below meth c D 77 ad (celC cI cR ad) okC 7 (MQ below (QI D (tysC cI cR) 77 ad (celC cI cR ad) okC r σ) args s 0 0 (inA 77 ad)) 8 [(0, .ref (ad b0)), (1, .int a1), (2, .int a2), (3, .int x3), (4, .int x4), (5, .int x5)] [] σ := by
  intro n
  induction n with
  | zero => intro x3 x4 x5 h; cases h
  | succ n ih =>
    intro x3 x4 x5 h
    unfold l_X4_mostAwake_8 at h
    refine J_iload (q := 10) C dX4_mostAwake_8 rfl 5 rfl ?_
    refine J_iload_n (q := 11) C dX4_mostAwake_10 rfl rfl 2 rfl ?_
    refine J_icmp_gt (tgt := 66) (q := 14) C dX4_mostAwake_11 rfl (by decide) h (fun _ h => ?_) (fun _ h => ?_)
    · refine J_sub [3] rfl ?_
      exact hk66 _ h
    · refine J_iload_n (q := 15) C dX4_mostAwake_14 rfl rfl 1 rfl ?_
      refine J_istore (q := 17) C dX4_mostAwake_15 rfl (by decide) rfl ?_
      refine J_sub [1, 2, 3, 4, 5, 6, 0] rfl ?_
      refine cl_X4_mostAwake_17 hap C hb0 r  (fun v3_60 v4_60 h => ?_) FU _ _ _ h
      · refine jn_elim h (fun y5 ey5 h => ?_)
        refine J_iinc (v := y5) (q := 63) C dX4_mostAwake_60 rfl 5 rfl (by rw [ey5]; rfl) (by decide) rfl ?_
        refine J_goto (tgt := 8) C dX4_mostAwake_63 (by decide) ?_
        refine J_sub [1, 2, 3, 4, 5, 0] rfl ?_
        exact ih _ _ _ h
set_option maxHeartbeats 4000000 in
set_option maxRecDepth 100000 in
theorem c_X4_mostAwake {l : Launch} {D : va_G} {cI cR : ClassId} {ad : Nat → Nat} (hap : apN 77 ad) {g0 : Nat} {i1 : Int32} {i2 : Int32} {σ : Sg} {r : Int32} (ho0 : isS g0) (h : f_X4_mostAwake g0 i1 i2 σ = some r) : MI l D (tysC cI cR) 77 ad (celC cI cR ad) okC yX4_mostAwake cX4_mostAwake 7 .int 4 98 [.ref (ad g0), .int i1, .int i2] σ r σ := by
  unfold f_X4_mostAwake at h
  refine entI "WokenYears$Street" hap (by decide +kernel) rfl (Nat.le_of_ble_eq_true rfl) (fun p e s m args below meth c C => ?_)
  refine J_sub (lv' := [(0, .ref (ad g0)), (1, .int i1), (2, .int i2)]) [0, 1, 2] rfl ?_
  refine J_iconst (v := 0 ) (q := 1) C dX4_mostAwake_0 rfl rfl ?_
  refine J_istore_n (q := 2) C dX4_mostAwake_1 rfl rfl (by decide) rfl ?_
  refine J_iload_n (q := 3) C dX4_mostAwake_2 rfl rfl 3 rfl ?_
  refine J_istore (q := 5) C dX4_mostAwake_3 rfl (by decide) rfl ?_
  refine J_iconst (v := 0 ) (q := 6) C dX4_mostAwake_5 rfl rfl ?_
  refine J_istore (q := 8) C dX4_mostAwake_6 rfl (by decide) rfl ?_
  refine J_sub [3, 4, 5, 2, 1, 0] rfl ?_
  refine cl_X4_mostAwake_8 hap C ho0 r  (fun v3_66 h => ?_) FU _ _ _ h
  · refine J_iload_n (q := 67) C dX4_mostAwake_66 rfl rfl 0 rfl ?_
    obtain rfl := Option.some.inj h
    exact J_iret C dX4_mostAwake_67
