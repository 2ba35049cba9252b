set_option maxHeartbeats 4000000 in
set_option maxRecDepth 100000 in
theorem cl_L_night_25 {p : Program} {l : Launch} {e : Env} {s : State} {m : MethodId} {args : Array Value} {below : List Frame} {meth : Method} {c : Code} {D : va_G} {cI cR : ClassId} {ad : Nat → Nat} (hap : apN 77 ad) (C : Cx p s m args meth c cL_night 3 "WokenYearsLaw" D (tysC cI cR) 77 ad (some .int)) {b0 : Nat} {a1 : Int32} (hb0 : isLA b0) {k52 : Sg → Option (Int32 × Sg)} (r : Int32) (σo : Sg)  (hk52 : ∀ (σ1 : Sg), k52 σ1 = some (r, σo) → Jd p l e (rmF 2 52) s m args below meth c D 77 ad (celC cI cR ad) okC 3 (MQ below (QI D (tysC cI cR) 77 ad (celC cI cR ad) okC r σo) args s 0 0 (inA 77 ad)) 52 [(1, .int a1)] [] σ1) : ∀ (n : Nat) (x2 : Int32) (σx : Sg), l_L_night_25 b0 a1 k52 n x2 σx = some (r, σo) → Jd p l e (rmF 2 52) s m args below meth c D 77 ad (celC cI cR ad) okC 3 (MQ below (QI D (tysC cI cR) 77 ad (celC cI cR ad) okC r σo) args s 0 0 (inA 77 ad)) 25 [(0, .ref (ad (b0 + 33))), (1, .int a1), (2, .int x2)] [] σx := by
  intro n
  induction n with
  | zero => intro x2 σx h; cases h
  | succ n ih =>
    intro x2 σx h
    unfold l_L_night_25 at h
    refine J_iload_n (q := 26) C dL_night_25 rfl rfl 2 rfl ?_
    refine J_bipush (v := 6) (q := 28) C dL_night_26 rfl rfl ?_
    refine J_icmp_ge (tgt := 52) (q := 31) C dL_night_28 rfl (by decide) h (fun _ h => ?_) (fun _ h => ?_)
    · refine J_sub [1] rfl ?_
      exact hk52 _ h
    · refine J_aload_n (q := 32) C dL_night_31 rfl rfl 0 rfl ?_
      refine J_bipush (v := 11) (q := 34) C dL_night_32 rfl rfl ?_
      refine J_iload_n (q := 35) C dL_night_34 rfl rfl 2 rfl ?_
      refine J_iadd (q := 36) C dL_night_35 rfl ?_
      refine J_iconst (v := 0 ) (q := 37) C dL_night_36 rfl rfl ?_
      refine JL_iast (q := 38) C hb0 h dL_night_37 rfl (fun h => ?_)
      refine jn_elim h (fun σ6 eσ6 h => ?_)
      rw [← eσ6]
      refine J_aload_n (q := 39) C dL_night_38 rfl rfl 0 rfl ?_
      refine J_bipush (v := 17) (q := 41) C dL_night_39 rfl rfl ?_
      refine J_iload_n (q := 42) C dL_night_41 rfl rfl 2 rfl ?_
      refine J_iadd (q := 43) C dL_night_42 rfl ?_
      refine J_bipush (v := -9) (q := 45) C dL_night_43 rfl rfl ?_
      refine JL_iast (q := 46) C hb0 h dL_night_45 rfl (fun h => ?_)
      refine jn_elim h (fun σ7 eσ7 h => ?_)
      rw [← eσ7]
      refine jn_elim h (fun y8 ey8 h => ?_)
      refine J_iinc (v := y8) (q := 49) C dL_night_46 rfl 2 rfl (by rw [ey8]; rfl) (by decide) rfl ?_
      refine J_goto (tgt := 25) C dL_night_49 (by decide) ?_
      refine J_sub [1, 2, 0] rfl ?_
      exact ih _ _ h
set_option maxHeartbeats 4000000 in
set_option maxRecDepth 100000 in
theorem c_L_night {l : Launch} {D : va_G} {cI cR : ClassId} {ad : Nat → Nat} (hap : apN 77 ad) {g0 : Nat} {σ : Sg} {r : Int32} {σo : Sg} (ho0 : isLA g0) (h : f_L_night g0 σ = some (r, σo)) : MI l D (tysC cI cR) 77 ad (celC cI cR ad) okC yL_night cL_night 3 .int 2 52 [.ref (ad (g0 + 33))] σ r σo := by
  unfold f_L_night at h
  refine entI "WokenYearsLaw" hap (by decide +kernel) rfl (Nat.le_of_ble_eq_true rfl) (fun p e s m args below meth c C => ?_)
  refine J_sub (lv' := [(0, .ref (ad (g0 + 33)))]) [0] rfl ?_
  refine J_aload_n (q := 1) C dL_night_0 rfl rfl 0 rfl ?_
  obtain ⟨r1, ec1, h⟩ := bnd_of h
  refine J_callIS (q := 4) (As := [.ref (ad (g0 + 33))]) C (c_L_awake hap ho0 ec1) ok_L_awake kM_L_55 rfl rfl rfl ⟨Nat.le_of_ble_eq_true rfl, Nat.le_of_ble_eq_true rfl⟩ (Nat.le_of_ble_eq_true rfl) dL_night_1 rfl ?_
  obtain ⟨r2, ec2, h⟩ := bnd_of h
  refine J_callIS (q := 7) (As := [.int r1]) C (c_L_bits hap  ec2) ok_L_bits kM_L_59 rfl rfl rfl ⟨Nat.le_of_ble_eq_true rfl, Nat.le_of_ble_eq_true rfl⟩ (Nat.le_of_ble_eq_true rfl) dL_night_4 rfl ?_
  refine J_istore_n (q := 8) C dL_night_7 rfl rfl (by decide) rfl ?_
  refine J_aload_n (q := 9) C dL_night_8 rfl rfl 1 rfl ?_
  refine J_iconst (v := 0 ) (q := 10) C dL_night_9 rfl rfl ?_
  refine J_iconst (v := 0 ) (q := 11) C dL_night_10 rfl rfl ?_
  refine JL_iast (q := 12) C ho0 h dL_night_11 rfl (fun h => ?_)
  refine jn_elim h (fun σ3 eσ3 h => ?_)
  rw [← eσ3]
  refine J_aload_n (q := 13) C dL_night_12 rfl rfl 1 rfl ?_
  refine J_iconst (v := 1 ) (q := 14) C dL_night_13 rfl rfl ?_
  refine J_dup2 (q := 15) C dL_night_14 rfl rfl rfl ?_
  refine JL_iald (q := 16) C ho0 h dL_night_15 rfl (fun h => ?_)
  refine J_iconst (v := 1 ) (q := 17) C dL_night_16 rfl rfl ?_
  refine J_iadd (q := 18) C dL_night_17 rfl ?_
  refine JL_iast (q := 19) C ho0 h dL_night_18 rfl (fun h => ?_)
  refine jn_elim h (fun σ4 eσ4 h => ?_)
  rw [← eσ4]
  refine J_aload_n (q := 20) C dL_night_19 rfl rfl 1 rfl ?_
  refine J_iconst (v := 2 ) (q := 21) C dL_night_20 rfl rfl ?_
  refine J_iconst (v := 0 ) (q := 22) C dL_night_21 rfl rfl ?_
  refine JL_iast (q := 23) C ho0 h dL_night_22 rfl (fun h => ?_)
  refine jn_elim h (fun σ5 eσ5 h => ?_)
  rw [← eσ5]
  refine J_iconst (v := 0 ) (q := 24) C dL_night_23 rfl rfl ?_
  refine J_istore_n (q := 25) C dL_night_24 rfl rfl (by decide) rfl ?_
  refine J_sub [2, 1, 0] rfl ?_
  refine cl_L_night_25 hap C ho0 r σo  (fun σv52 h => ?_) FU _ _ h
  · refine J_iload_n (q := 53) C dL_night_52 rfl rfl 0 rfl ?_
    obtain ⟨rfl, rfl⟩ := Prod.mk.inj (Option.some.inj h)
    exact J_iret C dL_night_53
set_option maxHeartbeats 4000000 in
set_option maxRecDepth 100000 in
theorem c_L_deed {l : Launch} {D : va_G} {cI cR : ClassId} {ad : Nat → Nat} (hap : apN 77 ad) {i1 : Int32} {g2 : Nat} {g3 : Nat} {σ : Sg} {r : Int32} {σo : Sg} (ho2 : isLA g2) (ho3 : isLA g3) (h : f_L_deed i1 g2 g3 σ = some (r, σo)) : MI l D (tysC cI cR) 77 ad (celC cI cR ad) okC yL_deed cL_deed 10 .int 7 168 [.ref (ad 0), .int i1, .ref (ad (g2 + 33)), .ref (ad (g3 + 33))] σ r σo := by
  unfold f_L_deed at h
  refine entI "WokenYearsLaw" hap (by decide +kernel) rfl (Nat.le_of_ble_eq_true rfl) (fun p e s m args below meth c C => ?_)
  refine J_sub (lv' := [(0, .ref (ad 0)), (1, .int i1), (2, .ref (ad (g2 + 33))), (3, .ref (ad (g3 + 33)))]) [0, 1, 2, 3] rfl ?_
  refine J_iload_n (q := 1) C dL_deed_0 rfl rfl 1 rfl ?_
  refine J_bipush (v := 14) (q := 3) C dL_deed_1 rfl rfl ?_
  obtain ⟨r1, ec1, h⟩ := bnd_of h
  refine J_callIS (q := 6) (As := [.int i1, .int (14 : Int32)]) C (c_L_low hap  ec1) ok_L_low kM_L_21 rfl rfl rfl ⟨Nat.le_of_ble_eq_true rfl, Nat.le_of_ble_eq_true rfl⟩ (Nat.le_of_ble_eq_true rfl) dL_deed_3 rfl ?_
  refine J_istore (q := 8) C dL_deed_6 rfl (by decide) rfl ?_
  refine J_aload_n (q := 9) C dL_deed_8 rfl rfl 1 rfl ?_
  refine J_iconst (v := 3 ) (q := 10) C dL_deed_9 rfl rfl ?_
  obtain ⟨r2, ec2, h⟩ := bnd_of h
  refine J_callIV (q := 13) (As := [.int (3 : Int32)]) C (c_X5_count hap  ec2) ok_X5_count kM_L_62 (by decide) rfl rfl rfl rfl rfl rfl ⟨Nat.le_of_ble_eq_true rfl, Nat.le_of_ble_eq_true rfl⟩ (Nat.le_of_ble_eq_true rfl) dL_deed_10 rfl ?_
  refine J_bipush (v := 40) (q := 15) C dL_deed_13 rfl rfl ?_
  refine jn_elim h (fun k23 ek23 h => ?_)
  have hk23 : ∀ (t0_23 : Bool), k23 t0_23 = some (r, σo) → Jd p l e (rmF 7 168) s m args below meth c D 77 ad (celC cI cR ad) okC 10 (MQ below (QI D (tysC cI cR) 77 ad (celC cI cR ad) okC r σo) args s 0 0 (inA 77 ad)) 23 [(0, .ref (ad 0)), (1, .int i1), (2, .ref (ad (g2 + 33))), (3, .ref (ad (g3 + 33))), (4, .int r1)] [.int (b2i t0_23)] σ := by
    intro t0_23 h
    rw [ek23] at h
    refine J_istore (q := 25) C dL_deed_23 rfl (by decide) rfl ?_
    refine J_iload_n (q := 26) C dL_deed_25 rfl rfl 2 rfl ?_
    refine J_iconst (v := 4 ) (q := 27) C dL_deed_26 rfl rfl ?_
    refine J_ishr (q := 28) C dL_deed_27 rfl ?_
    refine J_aload_n (q := 29) C dL_deed_28 rfl rfl 3 rfl ?_
    refine J_iconst (v := 1 ) (q := 30) C dL_deed_29 rfl rfl ?_
    refine JL_iald (q := 31) C ho2 h dL_deed_30 rfl (fun h => ?_)
    obtain ⟨r3, ec3, h⟩ := bnd_of h
    refine J_callIS (q := 34) (As := [.int (i1 >>> ((4 : Int32) &&& 31)), .int (gA σ g2 (1 : Int32).toNatClampNeg)]) C (c_L_low hap  ec3) ok_L_low kM_L_21 rfl rfl rfl ⟨Nat.le_of_ble_eq_true rfl, Nat.le_of_ble_eq_true rfl⟩ (Nat.le_of_ble_eq_true rfl) dL_deed_31 rfl ?_
    refine J_istore (q := 36) C dL_deed_34 rfl (by decide) rfl ?_
    refine J_iload (q := 38) C dL_deed_36 rfl 6 rfl ?_
    refine J_iconst (v := 3 ) (q := 39) C dL_deed_38 rfl rfl ?_
    refine J_icmp_ge (tgt := 125) (q := 42) C dL_deed_39 rfl (by decide) h (fun _ h => ?_) (fun _ h => ?_)
    · refine J_iload (q := 127) C dL_deed_125 rfl 6 rfl ?_
      refine J_bipush (v := 9) (q := 129) C dL_deed_127 rfl rfl ?_
      refine J_icmp_ge (tgt := 173) (q := 132) C dL_deed_129 rfl (by decide) h (fun _ h => ?_) (fun _ h => ?_)
      · refine J_iload (q := 175) C dL_deed_173 rfl 6 rfl ?_
        refine J_bipush (v := 11) (q := 177) C dL_deed_175 rfl rfl ?_
        refine J_icmp_ge (tgt := 352) (q := 180) C dL_deed_177 rfl (by decide) h (fun _ h => ?_) (fun _ h => ?_)
        · refine J_iload (q := 354) C dL_deed_352 rfl 6 rfl ?_
          refine J_bipush (v := 13) (q := 356) C dL_deed_354 rfl rfl ?_
          refine J_icmp_ge (tgt := 464) (q := 359) C dL_deed_356 rfl (by decide) h (fun _ h => ?_) (fun _ h => ?_)
          · refine J_iload (q := 466) C dL_deed_464 rfl 1 rfl ?_
            refine jn_elim h (fun k478 ek478 h => ?_)
            have hk478 : ∀ (t0_478 : Int32) (σj478 : Sg), k478 t0_478 σj478 = some (r, σo) → Jd p l e (rmF 7 168) s m args below meth c D 77 ad (celC cI cR ad) okC 10 (MQ below (QI D (tysC cI cR) 77 ad (celC cI cR ad) okC r σo) args s 0 0 (inA 77 ad)) 478 [(0, .ref (ad 0)), (5, .int (b2i t0_23))] [.int t0_478] σj478 := by
              intro t0_478 σj478 h
              rw [ek478] at h
              refine J_istore (q := 480) C dL_deed_478 rfl (by decide) rfl ?_
              refine J_aload_n (q := 481) C dL_deed_480 rfl rfl 1 rfl ?_
              obtain ⟨r4, σ4, ec4, h⟩ := bnd2_of h
              refine J_callIV (q := 484) (As := []) C (c_X5_night hap  ec4) ok_X5_night kM_L_87 (by decide) rfl rfl rfl rfl rfl rfl ⟨Nat.le_of_ble_eq_true rfl, Nat.le_of_ble_eq_true rfl⟩ (Nat.le_of_ble_eq_true rfl) dL_deed_481 rfl ?_
              refine J_iload (q := 486) C dL_deed_484 rfl 0 rfl ?_
              refine J_icmp_ne (tgt := 502) (q := 489) C dL_deed_486 rfl (by decide) h (fun _ h => ?_) (fun _ h => ?_)
              · refine J_iload (q := 491) C dL_deed_489 rfl 2 rfl ?_
                refine J_ifeq_b (tgt := 498) (q := 494) C dL_deed_491 rfl (by decide) h (fun _ h => ?_) (fun _ h => ?_)
                · refine J_iconst (v := 0 ) (q := 495) C dL_deed_494 rfl rfl ?_
                  refine J_goto (tgt := 503) C dL_deed_495 (by decide) ?_
                  obtain ⟨rfl, rfl⟩ := Prod.mk.inj (Option.some.inj h)
                  exact J_iret C dL_deed_503
                · refine J_iconst (v := 1 ) (q := 499) C dL_deed_498 rfl rfl ?_
                  refine J_goto (tgt := 503) C dL_deed_499 (by decide) ?_
                  obtain ⟨rfl, rfl⟩ := Prod.mk.inj (Option.some.inj h)
                  exact J_iret C dL_deed_503
              · refine J_iconst (v := -1 ) (q := 503) C dL_deed_502 rfl rfl ?_
                obtain ⟨rfl, rfl⟩ := Prod.mk.inj (Option.some.inj h)
                exact J_iret C dL_deed_503
            refine J_ifeq_b (tgt := 474) (q := 469) C dL_deed_466 rfl (by decide) h (fun _ h => ?_) (fun _ h => ?_)
            · refine J_bipush (v := -2) (q := 471) C dL_deed_469 rfl rfl ?_
              refine J_goto (tgt := 478) C dL_deed_471 (by decide) ?_
              refine J_sub [2, 1] rfl ?_
              exact hk478 _ _ h
            · refine J_aload_n (q := 475) C dL_deed_474 rfl rfl 5 rfl ?_
              obtain ⟨r5, σ5, ec5, h⟩ := bnd2_of h
              refine J_callIS (q := 478) (As := [.ref (ad (g3 + 33))]) C (c_L_night hap ho3 ec5) ok_L_night kM_L_84 rfl rfl rfl ⟨Nat.le_of_ble_eq_true rfl, Nat.le_of_ble_eq_true rfl⟩ (Nat.le_of_ble_eq_true rfl) dL_deed_475 rfl ?_
              refine J_sub [2, 1] rfl ?_
              exact hk478 _ _ h
          · refine J_iload_n (q := 360) C dL_deed_359 rfl rfl 3 rfl ?_
            refine J_bipush (v := 7) (q := 362) C dL_deed_360 rfl rfl ?_
            refine J_ishr (q := 363) C dL_deed_362 rfl ?_
            refine J_iload_n (q := 364) C dL_deed_363 rfl rfl 3 rfl ?_
            refine J_bipush (v := 20) (q := 366) C dL_deed_364 rfl rfl ?_
            refine J_ishr (q := 367) C dL_deed_366 rfl ?_
            refine J_bipush (v := 9) (q := 369) C dL_deed_367 rfl rfl ?_
            obtain ⟨r6, ec6, h⟩ := bnd_of h
            refine J_callIS (q := 372) (As := [.int (i1 >>> ((20 : Int32) &&& 31)), .int (9 : Int32)]) C (c_L_low hap  ec6) ok_L_low kM_L_21 rfl rfl rfl ⟨Nat.le_of_ble_eq_true rfl, Nat.le_of_ble_eq_true rfl⟩ (Nat.le_of_ble_eq_true rfl) dL_deed_369 rfl ?_
            refine jn_elim h (fun k380 ek380 h => ?_)
            have hk380 : ∀ (t0_380 : Int32), k380 t0_380 = some (r, σo) → Jd p l e (rmF 7 168) s m args below meth c D 77 ad (celC cI cR ad) okC 10 (MQ below (QI D (tysC cI cR) 77 ad (celC cI cR ad) okC r σo) args s 0 0 (inA 77 ad)) 380 [(0, .ref (ad 0)), (3, .ref (ad (g3 + 33))), (5, .int (b2i t0_23))] [.int t0_380, .int (i1 >>> ((7 : Int32) &&& 31))] σ := by
              intro t0_380 h
              rw [ek380] at h
              obtain ⟨r7, ec7, h⟩ := bnd_of h
              refine J_callIS (q := 383) (As := [.int (i1 >>> ((7 : Int32) &&& 31)), .int t0_380]) C (c_L_low hap  ec7) ok_L_low kM_L_21 rfl rfl rfl ⟨Nat.le_of_ble_eq_true rfl, Nat.le_of_ble_eq_true rfl⟩ (Nat.le_of_ble_eq_true rfl) dL_deed_380 rfl ?_
              refine J_istore (q := 385) C dL_deed_383 rfl (by decide) rfl ?_
              refine J_iload (q := 387) C dL_deed_385 rfl 0 rfl ?_
              refine J_iconst (v := 1 ) (q := 388) C dL_deed_387 rfl rfl ?_
              refine jn_elim h (fun k420 ek420 h => ?_)
              have hk420 : ∀ (t0_420 : Int32), k420 t0_420 = some (r, σo) → Jd p l e (rmF 7 168) s m args below meth c D 77 ad (celC cI cR ad) okC 10 (MQ below (QI D (tysC cI cR) 77 ad (celC cI cR ad) okC r σo) args s 0 0 (inA 77 ad)) 420 [(0, .ref (ad 0)), (3, .ref (ad (g3 + 33))), (7, .int r7)] [.int t0_420] σ := by
                intro t0_420 h
                rw [ek420] at h
                refine J_istore (q := 422) C dL_deed_420 rfl (by decide) rfl ?_
                refine J_aload_n (q := 423) C dL_deed_422 rfl rfl 2 rfl ?_
                refine J_iconst (v := 3 ) (q := 424) C dL_deed_423 rfl rfl ?_
                refine J_iload (q := 426) C dL_deed_424 rfl 0 rfl ?_
                refine jn_elim h (fun k437 ek437 h => ?_)
                have hk437 : ∀ (t0_437 : Int32), k437 t0_437 = some (r, σo) → Jd p l e (rmF 7 168) s m args below meth c D 77 ad (celC cI cR ad) okC 10 (MQ below (QI D (tysC cI cR) 77 ad (celC cI cR ad) okC r σo) args s 0 0 (inA 77 ad)) 437 [(0, .ref (ad 0)), (7, .int r7), (8, .int t0_420)] [.int t0_437, .int (3 : Int32), .ref (ad (g3 + 33))] σ := by
                  intro t0_437 h
                  rw [ek437] at h
                  refine JL_iast (q := 438) C ho3 h dL_deed_437 rfl (fun h => ?_)
                  refine jn_elim h (fun σ8 eσ8 h => ?_)
                  rw [← eσ8]
                  refine J_aload_n (q := 439) C dL_deed_438 rfl rfl 0 rfl ?_
                  refine J_iload (q := 441) C dL_deed_439 rfl 1 rfl ?_
                  obtain ⟨r9, σ9, ec9, h⟩ := bnd2_of h
                  refine J_callIV (q := 444) (As := [.int r7]) C (c_X5_frost hap  ec9) ok_X5_frost kM_L_81 (by decide) rfl rfl rfl rfl rfl rfl ⟨Nat.le_of_ble_eq_true rfl, Nat.le_of_ble_eq_true rfl⟩ (Nat.le_of_ble_eq_true rfl) dL_deed_441 rfl ?_
                  refine J_iload (q := 446) C dL_deed_444 rfl 2 rfl ?_
                  refine J_icmp_ne (tgt := 462) (q := 449) C dL_deed_446 rfl (by decide) h (fun _ h => ?_) (fun _ h => ?_)
                  · refine J_iload (q := 451) C dL_deed_449 rfl 2 rfl ?_
                    refine J_if_ge (tgt := 458) (q := 454) C dL_deed_451 rfl (by decide) h (fun _ h => ?_) (fun _ h => ?_)
                    · refine J_iconst (v := 1 ) (q := 459) C dL_deed_458 rfl rfl ?_
                      refine J_goto (tgt := 463) C dL_deed_459 (by decide) ?_
                      obtain ⟨rfl, rfl⟩ := Prod.mk.inj (Option.some.inj h)
                      exact J_iret C dL_deed_463
                    · refine J_iconst (v := 0 ) (q := 455) C dL_deed_454 rfl rfl ?_
                      refine J_goto (tgt := 463) C dL_deed_455 (by decide) ?_
                      obtain ⟨rfl, rfl⟩ := Prod.mk.inj (Option.some.inj h)
                      exact J_iret C dL_deed_463
                  · refine J_iconst (v := -1 ) (q := 463) C dL_deed_462 rfl rfl ?_
                    obtain ⟨rfl, rfl⟩ := Prod.mk.inj (Option.some.inj h)
                    exact J_iret C dL_deed_463
                refine J_if_ge (tgt := 435) (q := 429) C dL_deed_426 rfl (by decide) h (fun _ h => ?_) (fun _ h => ?_)
                · refine J_iload (q := 437) C dL_deed_435 rfl 3 rfl ?_
                  refine J_sub [1, 3, 0] rfl ?_
                  exact hk437 _ h
                · refine J_aload_n (q := 430) C dL_deed_429 rfl rfl 2 rfl ?_
                  refine J_iconst (v := 3 ) (q := 431) C dL_deed_430 rfl rfl ?_
                  refine JL_iald (q := 432) C ho3 h dL_deed_431 rfl (fun h => ?_)
                  refine J_goto (tgt := 437) C dL_deed_432 (by decide) ?_
                  refine J_sub [1, 3, 0] rfl ?_
                  exact hk437 _ h
              refine J_icmp_le (tgt := 395) (q := 391) C dL_deed_388 rfl (by decide) h (fun _ h => ?_) (fun _ h => ?_)
              · refine J_iload (q := 397) C dL_deed_395 rfl 0 rfl ?_
                refine J_aload_n (q := 398) C dL_deed_397 rfl rfl 2 rfl ?_
                refine J_iconst (v := 3 ) (q := 399) C dL_deed_398 rfl rfl ?_
                refine JL_iald (q := 400) C ho3 h dL_deed_399 rfl (fun h => ?_)
                refine J_icmp_ne (tgt := 408) (q := 403) C dL_deed_400 rfl (by decide) h (fun _ h => ?_) (fun _ h => ?_)
                · refine J_bipush (v := -4) (q := 405) C dL_deed_403 rfl rfl ?_
                  refine J_goto (tgt := 420) C dL_deed_405 (by decide) ?_
                  refine J_sub [1, 2, 0] rfl ?_
                  exact hk420 _ h
                · refine J_iload (q := 410) C dL_deed_408 rfl 3 rfl ?_
                  refine J_ifeq_b (tgt := 418) (q := 413) C dL_deed_410 rfl (by decide) h (fun _ h => ?_) (fun _ h => ?_)
                  · refine J_bipush (v := -2) (q := 415) C dL_deed_413 rfl rfl ?_
                    refine J_goto (tgt := 420) C dL_deed_415 (by decide) ?_
                    refine J_sub [1, 2, 0] rfl ?_
                    exact hk420 _ h
                  · refine J_iload (q := 420) C dL_deed_418 rfl 0 rfl ?_
                    refine J_sub [1, 2, 0] rfl ?_
                    exact hk420 _ h
              · refine J_iconst (v := -1 ) (q := 392) C dL_deed_391 rfl rfl ?_
                refine J_goto (tgt := 420) C dL_deed_392 (by decide) ?_
                refine J_sub [1, 2, 0] rfl ?_
                exact hk420 _ h
            refine J_if_ne (tgt := 379) (q := 375) C dL_deed_372 rfl (by decide) h (fun _ h => ?_) (fun _ h => ?_)
            · refine J_iconst (v := 3 ) (q := 376) C dL_deed_375 rfl rfl ?_
              refine J_goto (tgt := 380) C dL_deed_376 (by decide) ?_
              refine J_sub [2, 5, 1] rfl ?_
              exact hk380 _ h
            · refine J_iconst (v := 2 ) (q := 380) C dL_deed_379 rfl rfl ?_
              refine J_sub [2, 5, 1] rfl ?_
              exact hk380 _ h
        · refine J_iload_n (q := 181) C dL_deed_180 rfl rfl 3 rfl ?_
          refine J_bipush (v := 7) (q := 183) C dL_deed_181 rfl rfl ?_
          refine J_ishr (q := 184) C dL_deed_183 rfl ?_
          refine J_iload_n (q := 185) C dL_deed_184 rfl rfl 3 rfl ?_
          refine J_bipush (v := 20) (q := 187) C dL_deed_185 rfl rfl ?_
          refine J_ishr (q := 188) C dL_deed_187 rfl ?_
          refine J_bipush (v := 9) (q := 190) C dL_deed_188 rfl rfl ?_
          obtain ⟨r10, ec10, h⟩ := bnd_of h
          refine J_callIS (q := 193) (As := [.int (i1 >>> ((20 : Int32) &&& 31)), .int (9 : Int32)]) C (c_L_low hap  ec10) ok_L_low kM_L_21 rfl rfl rfl ⟨Nat.le_of_ble_eq_true rfl, Nat.le_of_ble_eq_true rfl⟩ (Nat.le_of_ble_eq_true rfl) dL_deed_190 rfl ?_
          refine jn_elim h (fun k203 ek203 h => ?_)
          have hk203 : ∀ (t0_203 : Int32), k203 t0_203 = some (r, σo) → Jd p l e (rmF 7 168) s m args below meth c D 77 ad (celC cI cR ad) okC 10 (MQ below (QI D (tysC cI cR) 77 ad (celC cI cR ad) okC r σo) args s 0 0 (inA 77 ad)) 203 [(0, .ref (ad 0)), (1, .int i1), (3, .ref (ad (g3 + 33))), (5, .int (b2i t0_23)), (6, .int r3)] [.int t0_203, .int (i1 >>> ((7 : Int32) &&& 31))] σ := by
            intro t0_203 h
            rw [ek203] at h
            obtain ⟨r11, ec11, h⟩ := bnd_of h
            refine J_callIS (q := 206) (As := [.int (i1 >>> ((7 : Int32) &&& 31)), .int t0_203]) C (c_L_low hap  ec11) ok_L_low kM_L_21 rfl rfl rfl ⟨Nat.le_of_ble_eq_true rfl, Nat.le_of_ble_eq_true rfl⟩ (Nat.le_of_ble_eq_true rfl) dL_deed_203 rfl ?_
            refine J_istore (q := 208) C dL_deed_206 rfl (by decide) rfl ?_
            refine J_iload_n (q := 209) C dL_deed_208 rfl rfl 2 rfl ?_
            refine J_bipush (v := 21) (q := 211) C dL_deed_209 rfl rfl ?_
            refine J_ishr (q := 212) C dL_deed_211 rfl ?_
            refine J_iconst (v := 3 ) (q := 213) C dL_deed_212 rfl rfl ?_
            obtain ⟨r12, ec12, h⟩ := bnd_of h
            refine J_callIS (q := 216) (As := [.int (i1 >>> ((21 : Int32) &&& 31)), .int (3 : Int32)]) C (c_L_low hap  ec12) ok_L_low kM_L_21 rfl rfl rfl ⟨Nat.le_of_ble_eq_true rfl, Nat.le_of_ble_eq_true rfl⟩ (Nat.le_of_ble_eq_true rfl) dL_deed_213 rfl ?_
            refine jn_elim h (fun k236 ek236 h => ?_)
            have hk236 : ∀ (t0_236 : Int32), k236 t0_236 = some (r, σo) → Jd p l e (rmF 7 168) s m args below meth c D 77 ad (celC cI cR ad) okC 10 (MQ below (QI D (tysC cI cR) 77 ad (celC cI cR ad) okC r σo) args s 0 0 (inA 77 ad)) 236 [(0, .ref (ad 0)), (3, .ref (ad (g3 + 33))), (5, .int (b2i t0_23)), (6, .int r3)] [.int t0_236] σ := by
              intro t0_236 h
              rw [ek236] at h
              refine J_istore (q := 238) C dL_deed_236 rfl (by decide) rfl ?_
              refine J_aload_n (q := 239) C dL_deed_238 rfl rfl 2 rfl ?_
              refine J_iconst (v := 5 ) (q := 240) C dL_deed_239 rfl rfl ?_
              refine J_iload (q := 242) C dL_deed_240 rfl 4 rfl ?_
              refine J_iadd (q := 243) C dL_deed_242 rfl ?_
              refine JL_iald (q := 244) C ho3 h dL_deed_243 rfl (fun h => ?_)
              refine J_nmi h (fun y13 ey13 h => ?_)
              refine J_istore (q := 246) C dL_deed_244 rfl (by decide) rfl ?_
              refine J_iload (q := 248) C dL_deed_246 rfl 1 rfl ?_
              refine J_bipush (v := 99) (q := 250) C dL_deed_248 rfl rfl ?_
              refine jn_elim h (fun k281 ek281 h => ?_)
              have hk281 : ∀ (t0_281 : Int32), k281 t0_281 = some (r, σo) → Jd p l e (rmF 7 168) s m args below meth c D 77 ad (celC cI cR ad) okC 10 (MQ below (QI D (tysC cI cR) 77 ad (celC cI cR ad) okC r σo) args s 0 0 (inA 77 ad)) 281 [(0, .ref (ad 0)), (3, .ref (ad (g3 + 33))), (6, .int r3), (7, .int t0_236), (8, .int y13)] [.int t0_281] σ := by
                intro t0_281 h
                rw [ek281] at h
                refine J_istore (q := 283) C dL_deed_281 rfl (by decide) rfl ?_
                refine J_aload_n (q := 284) C dL_deed_283 rfl rfl 2 rfl ?_
                refine J_iconst (v := 5 ) (q := 285) C dL_deed_284 rfl rfl ?_
                refine J_iload (q := 287) C dL_deed_285 rfl 3 rfl ?_
                refine J_iadd (q := 288) C dL_deed_287 rfl ?_
                refine J_iload (q := 290) C dL_deed_288 rfl 0 rfl ?_
                refine jn_elim h (fun k300 ek300 h => ?_)
                have hk300 : ∀ (t0_300 : Int32), k300 t0_300 = some (r, σo) → Jd p l e (rmF 7 168) s m args below meth c D 77 ad (celC cI cR ad) okC 10 (MQ below (QI D (tysC cI cR) 77 ad (celC cI cR ad) okC r σo) args s 0 0 (inA 77 ad)) 300 [(0, .ref (ad 0)), (3, .ref (ad (g3 + 33))), (6, .int r3), (7, .int t0_236), (9, .int t0_281)] [.int t0_300, .int ((5 : Int32) + r3), .ref (ad (g3 + 33))] σ := by
                  intro t0_300 h
                  rw [ek300] at h
                  refine JL_iast (q := 301) C ho3 h dL_deed_300 rfl (fun h => ?_)
                  refine jn_elim h (fun σ14 eσ14 h => ?_)
                  rw [← eσ14]
                  refine J_aload_n (q := 302) C dL_deed_301 rfl rfl 1 rfl ?_
                  refine J_bipush (v := 11) (q := 304) C dL_deed_302 rfl rfl ?_
                  refine J_iload (q := 306) C dL_deed_304 rfl 2 rfl ?_
                  refine J_iadd (q := 307) C dL_deed_306 rfl ?_
                  refine J_iload (q := 309) C dL_deed_307 rfl 4 rfl ?_
                  refine jn_elim h (fun k323 ek323 h => ?_)
                  have hk323 : ∀ (t0_323 : Int32), k323 t0_323 = some (r, σo) → Jd p l e (rmF 7 168) s m args below meth c D 77 ad (celC cI cR ad) okC 10 (MQ below (QI D (tysC cI cR) 77 ad (celC cI cR ad) okC r σo) args s 0 0 (inA 77 ad)) 323 [(0, .ref (ad 0)), (6, .int r3), (7, .int t0_236), (9, .int t0_281)] [.int t0_323, .int ((11 : Int32) + r3), .ref (ad (g3 + 33))] σ14 := by
                    intro t0_323 h
                    rw [ek323] at h
                    refine JL_iast (q := 324) C ho3 h dL_deed_323 rfl (fun h => ?_)
                    refine jn_elim h (fun σ15 eσ15 h => ?_)
                    rw [← eσ15]
                    refine J_aload_n (q := 325) C dL_deed_324 rfl rfl 0 rfl ?_
                    refine J_iload (q := 327) C dL_deed_325 rfl 1 rfl ?_
                    refine J_iload (q := 329) C dL_deed_327 rfl 2 rfl ?_
                    obtain ⟨r16, σ16, ec16, h⟩ := bnd2_of h
                    refine J_callIV (q := 332) (As := [.int r3, .int t0_236]) C (c_X5_slate hap  ec16) ok_X5_slate kM_L_78 (by decide) rfl rfl rfl rfl rfl rfl ⟨Nat.le_of_ble_eq_true rfl, Nat.le_of_ble_eq_true rfl⟩ (Nat.le_of_ble_eq_true rfl) dL_deed_329 rfl ?_
                    refine J_iload (q := 334) C dL_deed_332 rfl 3 rfl ?_
                    refine J_icmp_ne (tgt := 350) (q := 337) C dL_deed_334 rfl (by decide) h (fun _ h => ?_) (fun _ h => ?_)
                    · refine J_iload (q := 339) C dL_deed_337 rfl 3 rfl ?_
                      refine J_if_ge (tgt := 346) (q := 342) C dL_deed_339 rfl (by decide) h (fun _ h => ?_) (fun _ h => ?_)
                      · refine J_iconst (v := 1 ) (q := 347) C dL_deed_346 rfl rfl ?_
                        refine J_goto (tgt := 351) C dL_deed_347 (by decide) ?_
                        obtain ⟨rfl, rfl⟩ := Prod.mk.inj (Option.some.inj h)
                        exact J_iret C dL_deed_351
                      · refine J_iconst (v := 0 ) (q := 343) C dL_deed_342 rfl rfl ?_
                        refine J_goto (tgt := 351) C dL_deed_343 (by decide) ?_
                        obtain ⟨rfl, rfl⟩ := Prod.mk.inj (Option.some.inj h)
                        exact J_iret C dL_deed_351
                    · refine J_iconst (v := -1 ) (q := 351) C dL_deed_350 rfl rfl ?_
                      obtain ⟨rfl, rfl⟩ := Prod.mk.inj (Option.some.inj h)
                      exact J_iret C dL_deed_351
                  refine J_if_ge (tgt := 322) (q := 312) C dL_deed_309 rfl (by decide) h (fun _ h => ?_) (fun _ h => ?_)
                  · refine J_iconst (v := 0 ) (q := 323) C dL_deed_322 rfl rfl ?_
                    refine J_sub [0, 2, 3, 4] rfl ?_
                    exact hk323 _ h
                  · refine J_aload_n (q := 313) C dL_deed_312 rfl rfl 1 rfl ?_
                    refine J_bipush (v := 11) (q := 315) C dL_deed_313 rfl rfl ?_
                    refine J_iload (q := 317) C dL_deed_315 rfl 2 rfl ?_
                    refine J_iadd (q := 318) C dL_deed_317 rfl ?_
                    refine JL_iald (q := 319) C ho3 h dL_deed_318 rfl (fun h => ?_)
                    refine J_goto (tgt := 323) C dL_deed_319 (by decide) ?_
                    refine J_sub [0, 2, 3, 4] rfl ?_
                    exact hk323 _ h
                refine J_if_ge (tgt := 298) (q := 293) C dL_deed_290 rfl (by decide) h (fun _ h => ?_) (fun _ h => ?_)
                · refine J_iload (q := 300) C dL_deed_298 rfl 4 rfl ?_
                  refine J_sub [1, 2, 3, 4, 0] rfl ?_
                  exact hk300 _ h
                · refine J_iload (q := 295) C dL_deed_293 rfl 5 rfl ?_
                  refine J_goto (tgt := 300) C dL_deed_295 (by decide) ?_
                  refine J_sub [1, 2, 3, 4, 0] rfl ?_
                  exact hk300 _ h
              refine J_icmp_le (tgt := 257) (q := 253) C dL_deed_250 rfl (by decide) h (fun _ h => ?_) (fun _ h => ?_)
              · refine J_iload (q := 259) C dL_deed_257 rfl 1 rfl ?_
                refine J_iload (q := 261) C dL_deed_259 rfl 0 rfl ?_
                refine J_icmp_ne (tgt := 269) (q := 264) C dL_deed_261 rfl (by decide) h (fun _ h => ?_) (fun _ h => ?_)
                · refine J_bipush (v := -4) (q := 266) C dL_deed_264 rfl rfl ?_
                  refine J_goto (tgt := 281) C dL_deed_266 (by decide) ?_
                  refine J_sub [2, 3, 5, 1, 0] rfl ?_
                  exact hk281 _ h
                · refine J_iload (q := 271) C dL_deed_269 rfl 4 rfl ?_
                  refine J_ifeq_b (tgt := 279) (q := 274) C dL_deed_271 rfl (by decide) h (fun _ h => ?_) (fun _ h => ?_)
                  · refine J_bipush (v := -2) (q := 276) C dL_deed_274 rfl rfl ?_
                    refine J_goto (tgt := 281) C dL_deed_276 (by decide) ?_
                    refine J_sub [2, 3, 5, 1, 0] rfl ?_
                    exact hk281 _ h
                  · refine J_iload (q := 281) C dL_deed_279 rfl 0 rfl ?_
                    refine J_sub [2, 3, 5, 1, 0] rfl ?_
                    exact hk281 _ h
              · refine J_iconst (v := -1 ) (q := 254) C dL_deed_253 rfl rfl ?_
                refine J_goto (tgt := 281) C dL_deed_254 (by decide) ?_
                refine J_sub [2, 3, 5, 1, 0] rfl ?_
                exact hk281 _ h
            refine J_if_ne (tgt := 234) (q := 219) C dL_deed_216 rfl (by decide) h (fun _ h => ?_) (fun _ h => ?_)
            · refine J_bipush (v := 40) (q := 221) C dL_deed_219 rfl rfl ?_
              refine J_iload_n (q := 222) C dL_deed_221 rfl rfl 2 rfl ?_
              refine J_bipush (v := 7) (q := 224) C dL_deed_222 rfl rfl ?_
              refine J_ishr (q := 225) C dL_deed_224 rfl ?_
              refine J_bipush (v := 10) (q := 227) C dL_deed_225 rfl rfl ?_
              obtain ⟨r17, ec17, h⟩ := bnd_of h
              refine J_callIS (q := 230) (As := [.int (i1 >>> ((7 : Int32) &&& 31)), .int (10 : Int32)]) C (c_L_low hap  ec17) ok_L_low kM_L_21 rfl rfl rfl ⟨Nat.le_of_ble_eq_true rfl, Nat.le_of_ble_eq_true rfl⟩ (Nat.le_of_ble_eq_true rfl) dL_deed_227 rfl ?_
              refine J_iadd (q := 231) C dL_deed_230 rfl ?_
              refine J_goto (tgt := 236) C dL_deed_231 (by decide) ?_
              refine J_sub [1, 3, 4, 5] rfl ?_
              exact hk236 _ h
            · refine J_iload (q := 236) C dL_deed_234 rfl 0 rfl ?_
              refine J_sub [1, 3, 4, 5] rfl ?_
              exact hk236 _ h
          refine J_if_ne (tgt := 201) (q := 196) C dL_deed_193 rfl (by decide) h (fun _ h => ?_) (fun _ h => ?_)
          · refine J_bipush (v := 102) (q := 198) C dL_deed_196 rfl rfl ?_
            refine J_goto (tgt := 203) C dL_deed_198 (by decide) ?_
            refine J_sub [2, 3, 5, 1, 0] rfl ?_
            exact hk203 _ h
          · refine J_bipush (v := 100) (q := 203) C dL_deed_201 rfl rfl ?_
            refine J_sub [2, 3, 5, 1, 0] rfl ?_
            exact hk203 _ h
      · refine J_iload (q := 134) C dL_deed_132 rfl 1 rfl ?_
        refine jn_elim h (fun k147 ek147 h => ?_)
        have hk147 : ∀ (t0_147 : Int32) (σj147 : Sg), k147 t0_147 σj147 = some (r, σo) → Jd p l e (rmF 7 168) s m args below meth c D 77 ad (celC cI cR ad) okC 10 (MQ below (QI D (tysC cI cR) 77 ad (celC cI cR ad) okC r σo) args s 0 0 (inA 77 ad)) 147 [(0, .ref (ad 0)), (5, .int (b2i t0_23))] [.int t0_147] σj147 := by
          intro t0_147 σj147 h
          rw [ek147] at h
          refine J_istore (q := 149) C dL_deed_147 rfl (by decide) rfl ?_
          refine J_aload_n (q := 150) C dL_deed_149 rfl rfl 1 rfl ?_
          obtain ⟨r18, σ18, ec18, h⟩ := bnd2_of h
          refine J_callIV (q := 153) (As := []) C (c_X5_tap hap  ec18) ok_X5_tap kM_L_75 (by decide) rfl rfl rfl rfl rfl rfl ⟨Nat.le_of_ble_eq_true rfl, Nat.le_of_ble_eq_true rfl⟩ (Nat.le_of_ble_eq_true rfl) dL_deed_150 rfl ?_
          refine J_iload (q := 155) C dL_deed_153 rfl 0 rfl ?_
          refine J_icmp_ne (tgt := 171) (q := 158) C dL_deed_155 rfl (by decide) h (fun _ h => ?_) (fun _ h => ?_)
          · refine J_iload (q := 160) C dL_deed_158 rfl 2 rfl ?_
            refine J_ifeq_b (tgt := 167) (q := 163) C dL_deed_160 rfl (by decide) h (fun _ h => ?_) (fun _ h => ?_)
            · refine J_iconst (v := 0 ) (q := 164) C dL_deed_163 rfl rfl ?_
              refine J_goto (tgt := 172) C dL_deed_164 (by decide) ?_
              obtain ⟨rfl, rfl⟩ := Prod.mk.inj (Option.some.inj h)
              exact J_iret C dL_deed_172
            · refine J_iconst (v := 1 ) (q := 168) C dL_deed_167 rfl rfl ?_
              refine J_goto (tgt := 172) C dL_deed_168 (by decide) ?_
              obtain ⟨rfl, rfl⟩ := Prod.mk.inj (Option.some.inj h)
              exact J_iret C dL_deed_172
          · refine J_iconst (v := -1 ) (q := 172) C dL_deed_171 rfl rfl ?_
            obtain ⟨rfl, rfl⟩ := Prod.mk.inj (Option.some.inj h)
            exact J_iret C dL_deed_172
        refine J_ifeq_b (tgt := 142) (q := 137) C dL_deed_134 rfl (by decide) h (fun _ h => ?_) (fun _ h => ?_)
        · refine J_bipush (v := -2) (q := 139) C dL_deed_137 rfl rfl ?_
          refine J_goto (tgt := 147) C dL_deed_139 (by decide) ?_
          refine J_sub [2, 1] rfl ?_
          exact hk147 _ _ h
        · refine J_aload_n (q := 143) C dL_deed_142 rfl rfl 4 rfl ?_
          refine J_aload_n (q := 144) C dL_deed_143 rfl rfl 5 rfl ?_
          obtain ⟨r19, σ19, ec19, h⟩ := bnd2_of h
          refine J_callIS (q := 147) (As := [.ref (ad (g2 + 33)), .ref (ad (g3 + 33))]) C (c_L_tap hap ho2 ho3 ec19) ok_L_tap kM_L_71 rfl rfl rfl ⟨Nat.le_of_ble_eq_true rfl, Nat.le_of_ble_eq_true rfl⟩ (Nat.le_of_ble_eq_true rfl) dL_deed_144 rfl ?_
          refine J_sub [2, 1] rfl ?_
          exact hk147 _ _ h
    · refine J_iload (q := 44) C dL_deed_42 rfl 0 rfl ?_
      refine J_aload_n (q := 45) C dL_deed_44 rfl rfl 5 rfl ?_
      refine J_iconst (v := 2 ) (q := 46) C dL_deed_45 rfl rfl ?_
      refine JL_iald (q := 47) C ho3 h dL_deed_46 rfl (fun h => ?_)
      refine jn_elim h (fun k55 ek55 h => ?_)
      have hk55 : ∀ (t0_55 : Bool), k55 t0_55 = some (r, σo) → Jd p l e (rmF 7 168) s m args below meth c D 77 ad (celC cI cR ad) okC 10 (MQ below (QI D (tysC cI cR) 77 ad (celC cI cR ad) okC r σo) args s 0 0 (inA 77 ad)) 55 [(0, .ref (ad 0)), (3, .ref (ad (g3 + 33))), (5, .int (b2i t0_23)), (6, .int r3)] [.int (b2i t0_55)] σ := by
        intro t0_55 h
        rw [ek55] at h
        refine J_istore (q := 57) C dL_deed_55 rfl (by decide) rfl ?_
        refine J_iload (q := 59) C dL_deed_57 rfl 0 rfl ?_
        refine jn_elim h (fun k73 ek73 h => ?_)
        have hk73 : ∀ (σj73 : Sg), k73 σj73 = some (r, σo) → Jd p l e (rmF 7 168) s m args below meth c D 77 ad (celC cI cR ad) okC 10 (MQ below (QI D (tysC cI cR) 77 ad (celC cI cR ad) okC r σo) args s 0 0 (inA 77 ad)) 73 [(0, .ref (ad 0)), (3, .ref (ad (g3 + 33))), (5, .int (b2i t0_23)), (6, .int r3), (7, .int (b2i t0_55))] [] σj73 := by
          intro σj73 h
          rw [ek73] at h
          refine J_aload_n (q := 74) C dL_deed_73 rfl rfl 0 rfl ?_
          refine J_iload (q := 76) C dL_deed_74 rfl 3 rfl ?_
          obtain ⟨r20, σ20, ec20, h⟩ := bnd2_of h
          refine J_callIV (q := 79) (As := [.int r3]) C (c_X5_walk hap  ec20) ok_X5_walk kM_L_69 (by decide) rfl rfl rfl rfl rfl rfl ⟨Nat.le_of_ble_eq_true rfl, Nat.le_of_ble_eq_true rfl⟩ (Nat.le_of_ble_eq_true rfl) dL_deed_76 rfl ?_
          refine J_iload (q := 81) C dL_deed_79 rfl 4 rfl ?_
          refine jn_elim h (fun k102 ek102 h => ?_)
          have hk102 : ∀ (t0_102 : Int32), k102 t0_102 = some (r, σo) → Jd p l e (rmF 7 168) s m args below meth c D 77 ad (celC cI cR ad) okC 10 (MQ below (QI D (tysC cI cR) 77 ad (celC cI cR ad) okC r σo) args s 0 0 (inA 77 ad)) 102 [(5, .int (b2i t0_23)), (7, .int (b2i t0_55))] [.int t0_102, .int r20] σ20 := by
            intro t0_102 h
            rw [ek102] at h
            refine J_icmp_ne (tgt := 123) (q := 105) C dL_deed_102 rfl (by decide) h (fun _ h => ?_) (fun _ h => ?_)
            · refine J_iload (q := 107) C dL_deed_105 rfl 1 rfl ?_
              refine J_ifne_b (tgt := 115) (q := 110) C dL_deed_107 rfl (by decide) h (fun _ h => ?_) (fun _ h => ?_)
              · refine J_iconst (v := 0 ) (q := 116) C dL_deed_115 rfl rfl ?_
                refine J_goto (tgt := 124) C dL_deed_116 (by decide) ?_
                obtain ⟨rfl, rfl⟩ := Prod.mk.inj (Option.some.inj h)
                exact J_iret C dL_deed_124
              · refine J_iload (q := 112) C dL_deed_110 rfl 0 rfl ?_
                refine J_ifeq_b (tgt := 119) (q := 115) C dL_deed_112 rfl (by decide) h (fun _ h => ?_) (fun _ h => ?_)
                · refine J_iconst (v := 0 ) (q := 116) C dL_deed_115 rfl rfl ?_
                  refine J_goto (tgt := 124) C dL_deed_116 (by decide) ?_
                  obtain ⟨rfl, rfl⟩ := Prod.mk.inj (Option.some.inj h)
                  exact J_iret C dL_deed_124
                · refine J_iconst (v := 1 ) (q := 120) C dL_deed_119 rfl rfl ?_
                  refine J_goto (tgt := 124) C dL_deed_120 (by decide) ?_
                  obtain ⟨rfl, rfl⟩ := Prod.mk.inj (Option.some.inj h)
                  exact J_iret C dL_deed_124
            · refine J_iconst (v := -1 ) (q := 124) C dL_deed_123 rfl rfl ?_
              obtain ⟨rfl, rfl⟩ := Prod.mk.inj (Option.some.inj h)
              exact J_iret C dL_deed_124
          refine J_ifeq_b (tgt := 89) (q := 84) C dL_deed_81 rfl (by decide) h (fun _ h => ?_) (fun _ h => ?_)
          · refine J_bipush (v := -4) (q := 86) C dL_deed_84 rfl rfl ?_
            refine J_goto (tgt := 102) C dL_deed_86 (by decide) ?_
            refine J_sub [2, 4] rfl ?_
            exact hk102 _ h
          · refine J_iload (q := 91) C dL_deed_89 rfl 2 rfl ?_
            refine J_ifeq_b (tgt := 99) (q := 94) C dL_deed_91 rfl (by decide) h (fun _ h => ?_) (fun _ h => ?_)
            · refine J_bipush (v := -2) (q := 96) C dL_deed_94 rfl rfl ?_
              refine J_goto (tgt := 102) C dL_deed_96 (by decide) ?_
              refine J_sub [2, 4] rfl ?_
              exact hk102 _ h
            · refine J_aload_n (q := 100) C dL_deed_99 rfl rfl 1 rfl ?_
              refine J_iconst (v := 0 ) (q := 101) C dL_deed_100 rfl rfl ?_
              refine JL_iald (q := 102) C ho3 h dL_deed_101 rfl (fun h => ?_)
              refine J_sub [2, 4] rfl ?_
              exact hk102 _ h
        refine J_ifne_b (tgt := 73) (q := 62) C dL_deed_59 rfl (by decide) h (fun _ h => ?_) (fun _ h => ?_)
        · refine J_sub [1, 2, 3, 4, 0] rfl ?_
          exact hk73 _ h
        · refine J_iload (q := 64) C dL_deed_62 rfl 3 rfl ?_
          refine J_ifne_b (tgt := 73) (q := 67) C dL_deed_64 rfl (by decide) h (fun _ h => ?_) (fun _ h => ?_)
          · refine J_sub [1, 2, 3, 4, 0] rfl ?_
            exact hk73 _ h
          · refine J_aload_n (q := 68) C dL_deed_67 rfl rfl 2 rfl ?_
            refine J_iload (q := 70) C dL_deed_68 rfl 4 rfl ?_
            obtain ⟨σ21, ec21, h⟩ := bnd_of h
            refine J_callXS (q := 73) (As := [.ref (ad (g3 + 33)), .int r3]) C (c_L_walk hap ho3 ec21) ok_L_walk kM_L_65 rfl rfl rfl ⟨Nat.le_of_ble_eq_true rfl, Nat.le_of_ble_eq_true rfl⟩ (Nat.le_of_ble_eq_true rfl) dL_deed_70 rfl ?_
            refine J_sub [1, 2, 3, 4, 0] rfl ?_
            exact hk73 _ h
      refine J_icmp_ne (tgt := 54) (q := 50) C dL_deed_47 rfl (by decide) h (fun _ h => ?_) (fun _ h => ?_)
      · refine J_iconst (v := 1 ) (q := 51) C dL_deed_50 rfl rfl ?_
        refine J_goto (tgt := 55) C dL_deed_51 (by decide) ?_
        refine J_sub [2, 5, 1, 0] rfl ?_
        exact hk55 _ h
      · refine J_iconst (v := 0 ) (q := 55) C dL_deed_54 rfl rfl ?_
        refine J_sub [2, 5, 1, 0] rfl ?_
        exact hk55 _ h
  refine J_icmp_ne (tgt := 22) (q := 18) C dL_deed_15 rfl (by decide) h (fun _ h => ?_) (fun _ h => ?_)
  · refine J_iconst (v := 1 ) (q := 19) C dL_deed_18 rfl rfl ?_
    refine J_goto (tgt := 23) C dL_deed_19 (by decide) ?_
    refine J_sub [1, 2, 3, 4, 0] rfl ?_
    exact hk23 _ h
  · refine J_iconst (v := 0 ) (q := 23) C dL_deed_22 rfl rfl ?_
    refine J_sub [1, 2, 3, 4, 0] rfl ?_
    exact hk23 _ h
set_option maxHeartbeats 4000000 in
set_option maxRecDepth 100000 in
theorem cl_L_same_107 {p : Program} {l : Launch} {e : Env} {s : State} {m : MethodId} {args : Array Value} {below : List Frame} {meth : Method} {c : Code} {D : va_G} {cI cR : ClassId} {ad : Nat → Nat} (hap : apN 77 ad) (C : Cx p s m args meth c cL_same 8 "WokenYearsLaw" D (tysC cI cR) 77 ad (some .boolean)) {b1 : Nat} {b2 : Nat} (hb1 : isLA b1) (hb2 : isLA b2) {k327 : Int32 → Int32 → Bool → Sg → Option (Bool × Sg)} (r : Bool) (σo : Sg)  (hk327 : ∀ (u3 : Int32) (u4 : Int32) (u5 : Bool) (σ1 : Sg), k327 u3 u4 u5 σ1 = some (r, σo) → Jd p l e (rmF 6 142) s m args below meth c D 77 ad (celC cI cR ad) okC 8 (MQ below (QI D (tysC cI cR) 77 ad (celC cI cR ad) okC (b2i r) σo) args s 0 0 (inA 77 ad)) 327 [(0, .ref (ad 0)), (3, .int u3), (4, .int u4), (5, .int (b2i u5))] [] σ1) : ∀ (n : Nat) (x3 : Int32) (x4 : Int32) (x5 : Bool) (x6 : Int32) (σx : Sg), l_L_same_107 b1 b2 k327 n x3 x4 x5 x6 σx = some (r, σo) → Jd p l e (rmF 6 142) s m args below meth c D 77 ad (celC cI cR ad) okC 8 (MQ below (QI D (tysC cI cR) 77 ad (celC cI cR ad) okC (b2i r) σo) args s 0 0 (inA 77 ad)) 107 [(0, .ref (ad 0)), (1, .ref (ad (b1 + 33))), (2, .ref (ad (b2 + 33))), (3, .int x3), (4, .int x4), (5, .int (b2i x5)), (6, .int x6)] [] σx := by
  intro n
  induction n with
  | zero => intro x3 x4 x5 x6 σx h; cases h
  | succ n ih =>
    intro x3 x4 x5 x6 σx h
    unfold l_L_same_107 at h
    refine J_iload (q := 109) C dL_same_107 rfl 6 rfl ?_
    refine J_aload_n (q := 110) C dL_same_109 rfl rfl 1 rfl ?_
    refine J_iconst (v := 1 ) (q := 111) C dL_same_110 rfl rfl ?_
    refine JL_iald (q := 112) C hb1 h dL_same_111 rfl (fun h => ?_)
    refine J_icmp_ge (tgt := 327) (q := 115) C dL_same_112 rfl (by decide) h (fun _ h => ?_) (fun _ h => ?_)
    · refine J_sub [0, 3, 4, 5] rfl ?_
      exact hk327 _ _ _ _ h
    · refine J_aload_n (q := 116) C dL_same_115 rfl rfl 1 rfl ?_
      refine J_iconst (v := 2 ) (q := 117) C dL_same_116 rfl rfl ?_
      refine J_iload (q := 119) C dL_same_117 rfl 6 rfl ?_
      refine J_iadd (q := 120) C dL_same_119 rfl ?_
      refine JL_iald (q := 121) C hb1 h dL_same_120 rfl (fun h => ?_)
      refine J_nmi h (fun y2 ey2 h => ?_)
      refine J_istore (q := 123) C dL_same_121 rfl (by decide) rfl ?_
      refine J_iload_n (q := 124) C dL_same_123 rfl rfl 4 rfl ?_
      refine J_iload (q := 126) C dL_same_124 rfl 0 rfl ?_
      refine J_iconst (v := 1 ) (q := 127) C dL_same_126 rfl rfl ?_
      refine jn_elim h (fun k141 ek141 h => ?_)
      have hk141 : ∀ (t0_141 : Bool), k141 t0_141 = some (r, σo) → Jd p l e (rmF 6 142) s m args below meth c D 77 ad (celC cI cR ad) okC 8 (MQ below (QI D (tysC cI cR) 77 ad (celC cI cR ad) okC (b2i r) σo) args s 0 0 (inA 77 ad)) 141 [(0, .ref (ad 0)), (1, .ref (ad (b1 + 33))), (2, .ref (ad (b2 + 33))), (4, .int x4), (5, .int (b2i x5)), (6, .int x6), (7, .int y2)] [.int (b2i t0_141), .int x3] σx := by
        intro t0_141 h
        rw [ek141] at h
        refine J_iadd (q := 142) C dL_same_141 rfl ?_
        refine J_nmi h (fun y3 ey3 h => ?_)
        refine J_istore_n (q := 143) C dL_same_142 rfl rfl (by decide) rfl ?_
        refine J_iload (q := 145) C dL_same_143 rfl 4 rfl ?_
        refine J_iload (q := 147) C dL_same_145 rfl 7 rfl ?_
        refine J_iconst (v := 2 ) (q := 148) C dL_same_147 rfl rfl ?_
        refine jn_elim h (fun k162 ek162 h => ?_)
        have hk162 : ∀ (t0_162 : Bool), k162 t0_162 = some (r, σo) → Jd p l e (rmF 6 142) s m args below meth c D 77 ad (celC cI cR ad) okC 8 (MQ below (QI D (tysC cI cR) 77 ad (celC cI cR ad) okC (b2i r) σo) args s 0 0 (inA 77 ad)) 162 [(0, .ref (ad 0)), (1, .ref (ad (b1 + 33))), (2, .ref (ad (b2 + 33))), (3, .int y3), (5, .int (b2i x5)), (6, .int x6), (7, .int y2)] [.int (b2i t0_162), .int x4] σx := by
          intro t0_162 h
          rw [ek162] at h
          refine J_iadd (q := 163) C dL_same_162 rfl ?_
          refine J_nmi h (fun y4 ey4 h => ?_)
          refine J_istore (q := 165) C dL_same_163 rfl (by decide) rfl ?_
          refine J_iload (q := 167) C dL_same_165 rfl 5 rfl ?_
          refine jn_elim h (fun k319 ek319 h => ?_)
          have hk319 : ∀ (t0_319 : Bool) (σj319 : Sg), k319 t0_319 σj319 = some (r, σo) → Jd p l e (rmF 6 142) s m args below meth c D 77 ad (celC cI cR ad) okC 8 (MQ below (QI D (tysC cI cR) 77 ad (celC cI cR ad) okC (b2i r) σo) args s 0 0 (inA 77 ad)) 319 [(0, .ref (ad 0)), (1, .ref (ad (b1 + 33))), (2, .ref (ad (b2 + 33))), (3, .int y3), (4, .int y4), (6, .int x6)] [.int (b2i t0_319)] σj319 := by
            intro t0_319 σj319 h
            rw [ek319] at h
            refine J_istore (q := 321) C dL_same_319 rfl (by decide) rfl ?_
            refine jn_elim h (fun y5 ey5 h => ?_)
            refine J_iinc (v := y5) (q := 324) C dL_same_321 rfl 6 rfl (by rw [ey5]; rfl) (by decide) rfl ?_
            refine J_goto (tgt := 107) C dL_same_324 (by decide) ?_
            refine J_sub [2, 3, 4, 5, 6, 1, 0] rfl ?_
            exact ih _ _ _ _ _ h
          refine jn_elim h (fun k318 ek318 h => ?_)
          have hk318 : ∀ (σj318 : Sg), k318 σj318 = some (r, σo) → Jd p l e (rmF 6 142) s m args below meth c D 77 ad (celC cI cR ad) okC 8 (MQ below (QI D (tysC cI cR) 77 ad (celC cI cR ad) okC (b2i r) σo) args s 0 0 (inA 77 ad)) 318 [(0, .ref (ad 0)), (1, .ref (ad (b1 + 33))), (2, .ref (ad (b2 + 33))), (3, .int y3), (4, .int y4), (6, .int x6)] [] σj318 := by
            intro σj318 h
            rw [ek318] at h
            refine J_iconst (v := 0 ) (q := 319) C dL_same_318 rfl rfl ?_
            exact hk319 _ _ h
          refine J_ifeq_b (tgt := 318) (q := 170) C dL_same_167 rfl (by decide) h (fun _ h => ?_) (fun _ h => ?_)
          · refine J_aload_n (q := 171) C dL_same_170 rfl rfl 1 rfl ?_
            refine J_iload (q := 173) C dL_same_171 rfl 6 rfl ?_
            refine J_iconst (v := 0 ) (q := 174) C dL_same_173 rfl rfl ?_
            obtain ⟨r6, σ6, ec6, h⟩ := bnd2_of h
            refine J_callIV (q := 177) (As := [.int x6, .int (0 : Int32)]) C (c_X5_house hap  ec6) ok_X5_house kM_L_89 (by decide) rfl rfl rfl rfl rfl rfl ⟨Nat.le_of_ble_eq_true rfl, Nat.le_of_ble_eq_true rfl⟩ (Nat.le_of_ble_eq_true rfl) dL_same_174 rfl ?_
            refine J_iconst (v := 1 ) (q := 178) C dL_same_177 rfl rfl ?_
            refine J_icmp_ne (tgt := 318) (q := 181) C dL_same_178 rfl (by decide) h (fun _ h => ?_) (fun _ h => ?_)
            · refine J_aload_n (q := 182) C dL_same_181 rfl rfl 1 rfl ?_
              obtain ⟨r7, ec7, h⟩ := bnd_of h
              refine J_callIV (q := 185) (As := []) C (c_X5_asked hap  ec7) ok_X5_asked kM_L_92 (by decide) rfl rfl rfl rfl rfl rfl ⟨Nat.le_of_ble_eq_true rfl, Nat.le_of_ble_eq_true rfl⟩ (Nat.le_of_ble_eq_true rfl) dL_same_182 rfl ?_
              refine J_iload (q := 187) C dL_same_185 rfl 7 rfl ?_
              refine J_icmp_ne (tgt := 318) (q := 190) C dL_same_187 rfl (by decide) h (fun _ h => ?_) (fun _ h => ?_)
              · refine J_aload_n (q := 191) C dL_same_190 rfl rfl 1 rfl ?_
                refine J_iload (q := 193) C dL_same_191 rfl 6 rfl ?_
                refine J_iconst (v := 1 ) (q := 194) C dL_same_193 rfl rfl ?_
                obtain ⟨r8, σ8, ec8, h⟩ := bnd2_of h
                refine J_callIV (q := 197) (As := [.int x6, .int (1 : Int32)]) C (c_X5_house hap  ec8) ok_X5_house kM_L_89 (by decide) rfl rfl rfl rfl rfl rfl ⟨Nat.le_of_ble_eq_true rfl, Nat.le_of_ble_eq_true rfl⟩ (Nat.le_of_ble_eq_true rfl) dL_same_194 rfl ?_
                refine J_iconst (v := 1 ) (q := 198) C dL_same_197 rfl rfl ?_
                refine J_icmp_ne (tgt := 318) (q := 201) C dL_same_198 rfl (by decide) h (fun _ h => ?_) (fun _ h => ?_)
                · refine J_aload_n (q := 202) C dL_same_201 rfl rfl 1 rfl ?_
                  obtain ⟨r9, ec9, h⟩ := bnd_of h
                  refine J_callIV (q := 205) (As := []) C (c_X5_asked hap  ec9) ok_X5_asked kM_L_92 (by decide) rfl rfl rfl rfl rfl rfl ⟨Nat.le_of_ble_eq_true rfl, Nat.le_of_ble_eq_true rfl⟩ (Nat.le_of_ble_eq_true rfl) dL_same_202 rfl ?_
                  refine J_aload_n (q := 206) C dL_same_205 rfl rfl 3 rfl ?_
                  refine J_iconst (v := 5 ) (q := 207) C dL_same_206 rfl rfl ?_
                  refine J_iload (q := 209) C dL_same_207 rfl 6 rfl ?_
                  refine J_iadd (q := 210) C dL_same_209 rfl ?_
                  refine JL_iald (q := 211) C hb2 h dL_same_210 rfl (fun h => ?_)
                  refine J_icmp_ne (tgt := 318) (q := 214) C dL_same_211 rfl (by decide) h (fun _ h => ?_) (fun _ h => ?_)
                  · refine J_aload_n (q := 215) C dL_same_214 rfl rfl 1 rfl ?_
                    refine J_iload (q := 217) C dL_same_215 rfl 6 rfl ?_
                    refine J_iconst (v := 2 ) (q := 218) C dL_same_217 rfl rfl ?_
                    obtain ⟨r10, σ10, ec10, h⟩ := bnd2_of h
                    refine J_callIV (q := 221) (As := [.int x6, .int (2 : Int32)]) C (c_X5_house hap  ec10) ok_X5_house kM_L_89 (by decide) rfl rfl rfl rfl rfl rfl ⟨Nat.le_of_ble_eq_true rfl, Nat.le_of_ble_eq_true rfl⟩ (Nat.le_of_ble_eq_true rfl) dL_same_218 rfl ?_
                    refine J_iconst (v := 1 ) (q := 222) C dL_same_221 rfl rfl ?_
                    refine J_icmp_ne (tgt := 318) (q := 225) C dL_same_222 rfl (by decide) h (fun _ h => ?_) (fun _ h => ?_)
                    · refine J_aload_n (q := 226) C dL_same_225 rfl rfl 1 rfl ?_
                      obtain ⟨r11, ec11, h⟩ := bnd_of h
                      refine J_callIV (q := 229) (As := []) C (c_X5_asked hap  ec11) ok_X5_asked kM_L_92 (by decide) rfl rfl rfl rfl rfl rfl ⟨Nat.le_of_ble_eq_true rfl, Nat.le_of_ble_eq_true rfl⟩ (Nat.le_of_ble_eq_true rfl) dL_same_226 rfl ?_
                      refine J_aload_n (q := 230) C dL_same_229 rfl rfl 2 rfl ?_
                      refine J_bipush (v := 8) (q := 232) C dL_same_230 rfl rfl ?_
                      refine J_iload (q := 234) C dL_same_232 rfl 6 rfl ?_
                      refine J_iadd (q := 235) C dL_same_234 rfl ?_
                      refine JL_iald (q := 236) C hb1 h dL_same_235 rfl (fun h => ?_)
                      refine J_icmp_ne (tgt := 318) (q := 239) C dL_same_236 rfl (by decide) h (fun _ h => ?_) (fun _ h => ?_)
                      · refine J_aload_n (q := 240) C dL_same_239 rfl rfl 1 rfl ?_
                        refine J_iload (q := 242) C dL_same_240 rfl 6 rfl ?_
                        refine J_iconst (v := 3 ) (q := 243) C dL_same_242 rfl rfl ?_
                        obtain ⟨r12, σ12, ec12, h⟩ := bnd2_of h
                        refine J_callIV (q := 246) (As := [.int x6, .int (3 : Int32)]) C (c_X5_house hap  ec12) ok_X5_house kM_L_89 (by decide) rfl rfl rfl rfl rfl rfl ⟨Nat.le_of_ble_eq_true rfl, Nat.le_of_ble_eq_true rfl⟩ (Nat.le_of_ble_eq_true rfl) dL_same_243 rfl ?_
                        refine J_iconst (v := 1 ) (q := 247) C dL_same_246 rfl rfl ?_
                        refine J_icmp_ne (tgt := 318) (q := 250) C dL_same_247 rfl (by decide) h (fun _ h => ?_) (fun _ h => ?_)
                        · refine J_aload_n (q := 251) C dL_same_250 rfl rfl 1 rfl ?_
                          obtain ⟨r13, ec13, h⟩ := bnd_of h
                          refine J_callIV (q := 254) (As := []) C (c_X5_asked hap  ec13) ok_X5_asked kM_L_92 (by decide) rfl rfl rfl rfl rfl rfl ⟨Nat.le_of_ble_eq_true rfl, Nat.le_of_ble_eq_true rfl⟩ (Nat.le_of_ble_eq_true rfl) dL_same_251 rfl ?_
                          refine J_aload_n (q := 255) C dL_same_254 rfl rfl 3 rfl ?_
                          refine J_bipush (v := 11) (q := 257) C dL_same_255 rfl rfl ?_
                          refine J_iload (q := 259) C dL_same_257 rfl 6 rfl ?_
                          refine J_iadd (q := 260) C dL_same_259 rfl ?_
                          refine JL_iald (q := 261) C hb2 h dL_same_260 rfl (fun h => ?_)
                          refine J_icmp_ne (tgt := 318) (q := 264) C dL_same_261 rfl (by decide) h (fun _ h => ?_) (fun _ h => ?_)
                          · refine J_aload_n (q := 265) C dL_same_264 rfl rfl 1 rfl ?_
                            refine J_iload (q := 267) C dL_same_265 rfl 6 rfl ?_
                            refine J_iconst (v := 4 ) (q := 268) C dL_same_267 rfl rfl ?_
                            obtain ⟨r14, σ14, ec14, h⟩ := bnd2_of h
                            refine J_callIV (q := 271) (As := [.int x6, .int (4 : Int32)]) C (c_X5_house hap  ec14) ok_X5_house kM_L_89 (by decide) rfl rfl rfl rfl rfl rfl ⟨Nat.le_of_ble_eq_true rfl, Nat.le_of_ble_eq_true rfl⟩ (Nat.le_of_ble_eq_true rfl) dL_same_268 rfl ?_
                            refine J_iconst (v := 1 ) (q := 272) C dL_same_271 rfl rfl ?_
                            refine J_icmp_ne (tgt := 318) (q := 275) C dL_same_272 rfl (by decide) h (fun _ h => ?_) (fun _ h => ?_)
                            · refine J_aload_n (q := 276) C dL_same_275 rfl rfl 1 rfl ?_
                              obtain ⟨r15, ec15, h⟩ := bnd_of h
                              refine J_callIV (q := 279) (As := []) C (c_X5_asked hap  ec15) ok_X5_asked kM_L_92 (by decide) rfl rfl rfl rfl rfl rfl ⟨Nat.le_of_ble_eq_true rfl, Nat.le_of_ble_eq_true rfl⟩ (Nat.le_of_ble_eq_true rfl) dL_same_276 rfl ?_
                              refine J_aload_n (q := 280) C dL_same_279 rfl rfl 3 rfl ?_
                              refine J_bipush (v := 17) (q := 282) C dL_same_280 rfl rfl ?_
                              refine J_iload (q := 284) C dL_same_282 rfl 6 rfl ?_
                              refine J_iadd (q := 285) C dL_same_284 rfl ?_
                              refine JL_iald (q := 286) C hb2 h dL_same_285 rfl (fun h => ?_)
                              refine J_icmp_ne (tgt := 318) (q := 289) C dL_same_286 rfl (by decide) h (fun _ h => ?_) (fun _ h => ?_)
                              · refine J_aload_n (q := 290) C dL_same_289 rfl rfl 1 rfl ?_
                                refine J_iload (q := 292) C dL_same_290 rfl 6 rfl ?_
                                refine J_iconst (v := 5 ) (q := 293) C dL_same_292 rfl rfl ?_
                                obtain ⟨r16, σ16, ec16, h⟩ := bnd2_of h
                                refine J_callIV (q := 296) (As := [.int x6, .int (5 : Int32)]) C (c_X5_house hap  ec16) ok_X5_house kM_L_89 (by decide) rfl rfl rfl rfl rfl rfl ⟨Nat.le_of_ble_eq_true rfl, Nat.le_of_ble_eq_true rfl⟩ (Nat.le_of_ble_eq_true rfl) dL_same_293 rfl ?_
                                refine J_iconst (v := 1 ) (q := 297) C dL_same_296 rfl rfl ?_
                                refine J_icmp_ne (tgt := 318) (q := 300) C dL_same_297 rfl (by decide) h (fun _ h => ?_) (fun _ h => ?_)
                                · refine J_aload_n (q := 301) C dL_same_300 rfl rfl 1 rfl ?_
                                  obtain ⟨r17, ec17, h⟩ := bnd_of h
                                  refine J_callIV (q := 304) (As := []) C (c_X5_asked hap  ec17) ok_X5_asked kM_L_92 (by decide) rfl rfl rfl rfl rfl rfl ⟨Nat.le_of_ble_eq_true rfl, Nat.le_of_ble_eq_true rfl⟩ (Nat.le_of_ble_eq_true rfl) dL_same_301 rfl ?_
                                  refine J_aload_n (q := 305) C dL_same_304 rfl rfl 2 rfl ?_
                                  refine J_aload_n (q := 306) C dL_same_305 rfl rfl 3 rfl ?_
                                  refine J_iload (q := 308) C dL_same_306 rfl 6 rfl ?_
                                  obtain ⟨r18, ec18, h⟩ := bnd_of h
                                  refine J_callIS (q := 311) (As := [.ref (ad (b1 + 33)), .ref (ad (b2 + 33)), .int x6]) C (c_L_more hap hb1 hb2 ec18) ok_L_more kM_L_48 rfl rfl rfl ⟨Nat.le_of_ble_eq_true rfl, Nat.le_of_ble_eq_true rfl⟩ (Nat.le_of_ble_eq_true rfl) dL_same_308 rfl ?_
                                  refine J_icmp_ne (tgt := 318) (q := 314) C dL_same_311 rfl (by decide) h (fun _ h => ?_) (fun _ h => ?_)
                                  · refine J_iconst (v := 1 ) (q := 315) C dL_same_314 rfl rfl ?_
                                    refine J_goto (tgt := 319) C dL_same_315 (by decide) ?_
                                    refine J_sub [1, 2, 3, 4, 0, 6] rfl ?_
                                    exact hk319 _ _ h
                                  · refine J_sub [1, 2, 3, 4, 0, 6] rfl ?_
                                    exact hk318 _ h
                                · refine J_sub [1, 2, 3, 4, 0, 6] rfl ?_
                                  exact hk318 _ h
                              · refine J_sub [1, 2, 3, 4, 0, 6] rfl ?_
                                exact hk318 _ h
                            · refine J_sub [1, 2, 3, 4, 0, 6] rfl ?_
                              exact hk318 _ h
                          · refine J_sub [1, 2, 3, 4, 0, 6] rfl ?_
                            exact hk318 _ h
                        · refine J_sub [1, 2, 3, 4, 0, 6] rfl ?_
                          exact hk318 _ h
                      · refine J_sub [1, 2, 3, 4, 0, 6] rfl ?_
                        exact hk318 _ h
                    · refine J_sub [1, 2, 3, 4, 0, 6] rfl ?_
                      exact hk318 _ h
                  · refine J_sub [1, 2, 3, 4, 0, 6] rfl ?_
                    exact hk318 _ h
                · refine J_sub [1, 2, 3, 4, 0, 6] rfl ?_
                  exact hk318 _ h
              · refine J_sub [1, 2, 3, 4, 0, 6] rfl ?_
                exact hk318 _ h
            · refine J_sub [1, 2, 3, 4, 0, 6] rfl ?_
              exact hk318 _ h
          · refine J_sub [1, 2, 3, 4, 0, 6] rfl ?_
            exact hk318 _ h
        refine jn_elim h (fun k157 ek157 h => ?_)
        have hk157 : k157 = some (r, σo) → Jd p l e (rmF 6 142) s m args below meth c D 77 ad (celC cI cR ad) okC 8 (MQ below (QI D (tysC cI cR) 77 ad (celC cI cR ad) okC (b2i r) σo) args s 0 0 (inA 77 ad)) 157 [(0, .ref (ad 0)), (1, .ref (ad (b1 + 33))), (2, .ref (ad (b2 + 33))), (3, .int y3), (5, .int (b2i x5)), (6, .int x6), (7, .int y2)] [.int x4] σx := by
          intro  h
          rw [ek157] at h
          refine J_iconst (v := 1 ) (q := 158) C dL_same_157 rfl rfl ?_
          refine J_goto (tgt := 162) C dL_same_158 (by decide) ?_
          exact hk162 _ h
        refine J_icmp_eq (tgt := 157) (q := 151) C dL_same_148 rfl (by decide) h (fun _ h => ?_) (fun _ h => ?_)
        · refine J_sub [1, 2, 3, 0, 5, 6, 7] rfl ?_
          exact hk157 h
        · refine J_iload (q := 153) C dL_same_151 rfl 7 rfl ?_
          refine J_iconst (v := 5 ) (q := 154) C dL_same_153 rfl rfl ?_
          refine J_icmp_ne (tgt := 161) (q := 157) C dL_same_154 rfl (by decide) h (fun _ h => ?_) (fun _ h => ?_)
          · refine J_sub [1, 2, 3, 0, 5, 6, 7] rfl ?_
            exact hk157 h
          · refine J_iconst (v := 0 ) (q := 162) C dL_same_161 rfl rfl ?_
            refine J_sub [1, 2, 3, 0, 5, 6, 7] rfl ?_
            exact hk162 _ h
      refine jn_elim h (fun k136 ek136 h => ?_)
      have hk136 : k136 = some (r, σo) → Jd p l e (rmF 6 142) s m args below meth c D 77 ad (celC cI cR ad) okC 8 (MQ below (QI D (tysC cI cR) 77 ad (celC cI cR ad) okC (b2i r) σo) args s 0 0 (inA 77 ad)) 136 [(0, .ref (ad 0)), (1, .ref (ad (b1 + 33))), (2, .ref (ad (b2 + 33))), (4, .int x4), (5, .int (b2i x5)), (6, .int x6), (7, .int y2)] [.int x3] σx := by
        intro  h
        rw [ek136] at h
        refine J_iconst (v := 1 ) (q := 137) C dL_same_136 rfl rfl ?_
        refine J_goto (tgt := 141) C dL_same_137 (by decide) ?_
        exact hk141 _ h
      refine J_icmp_eq (tgt := 136) (q := 130) C dL_same_127 rfl (by decide) h (fun _ h => ?_) (fun _ h => ?_)
      · refine J_sub [1, 2, 3, 5, 6, 7, 0] rfl ?_
        exact hk136 h
      · refine J_iload (q := 132) C dL_same_130 rfl 0 rfl ?_
        refine J_iconst (v := 4 ) (q := 133) C dL_same_132 rfl rfl ?_
        refine J_icmp_ne (tgt := 140) (q := 136) C dL_same_133 rfl (by decide) h (fun _ h => ?_) (fun _ h => ?_)
        · refine J_sub [1, 2, 3, 5, 6, 7, 0] rfl ?_
          exact hk136 h
        · refine J_iconst (v := 0 ) (q := 141) C dL_same_140 rfl rfl ?_
          refine J_sub [1, 2, 3, 5, 6, 7, 0] rfl ?_
          exact hk141 _ h
set_option maxHeartbeats 4000000 in
set_option maxRecDepth 100000 in
theorem c_L_same {l : Launch} {D : va_G} {cI cR : ClassId} {ad : Nat → Nat} (hap : apN 77 ad) {g1 : Nat} {g2 : Nat} {σ : Sg} {r : Bool} {σo : Sg} (ho1 : isLA g1) (ho2 : isLA g2) (h : f_L_same g1 g2 σ = some (r, σo)) : MI l D (tysC cI cR) 77 ad (celC cI cR ad) okC yL_same cL_same 8 .boolean 6 142 [.ref (ad 0), .ref (ad (g1 + 33)), .ref (ad (g2 + 33))] σ (b2i r) σo := by
  unfold f_L_same at h
  refine entI "WokenYearsLaw" hap (by decide +kernel) rfl (Nat.le_of_ble_eq_true rfl) (fun p e s m args below meth c C => ?_)
  refine J_sub (lv' := [(0, .ref (ad 0)), (1, .ref (ad (g1 + 33))), (2, .ref (ad (g2 + 33)))]) [0, 1, 2] rfl ?_
  refine J_iconst (v := 0 ) (q := 1) C dL_same_0 rfl rfl ?_
  refine J_istore_n (q := 2) C dL_same_1 rfl rfl (by decide) rfl ?_
  refine J_iconst (v := 0 ) (q := 3) C dL_same_2 rfl rfl ?_
  refine J_istore (q := 5) C dL_same_3 rfl (by decide) rfl ?_
  refine J_aload_n (q := 6) C dL_same_5 rfl rfl 2 rfl ?_
  refine J_iconst (v := 0 ) (q := 7) C dL_same_6 rfl rfl ?_
  obtain ⟨r1, ec1, h⟩ := bnd_of h
  refine J_callIV (q := 10) (As := [.int (0 : Int32)]) C (c_X5_count hap  ec1) ok_X5_count kM_L_62 (by decide) rfl rfl rfl rfl rfl rfl ⟨Nat.le_of_ble_eq_true rfl, Nat.le_of_ble_eq_true rfl⟩ (Nat.le_of_ble_eq_true rfl) dL_same_7 rfl ?_
  refine J_aload_n (q := 11) C dL_same_10 rfl rfl 3 rfl ?_
  refine J_iconst (v := 1 ) (q := 12) C dL_same_11 rfl rfl ?_
  refine JL_iald (q := 13) C ho1 h dL_same_12 rfl (fun h => ?_)
  refine jn_elim h (fun k102 ek102 h => ?_)
  have hk102 : ∀ (t0_102 : Bool), k102 t0_102 = some (r, σo) → Jd p l e (rmF 6 142) s m args below meth c D 77 ad (celC cI cR ad) okC 8 (MQ below (QI D (tysC cI cR) 77 ad (celC cI cR ad) okC (b2i r) σo) args s 0 0 (inA 77 ad)) 102 [(0, .ref (ad 0)), (1, .ref (ad (g1 + 33))), (2, .ref (ad (g2 + 33))), (3, .int (0 : Int32)), (4, .int (0 : Int32))] [.int (b2i t0_102)] σ := by
    intro t0_102 h
    rw [ek102] at h
    refine J_istore (q := 104) C dL_same_102 rfl (by decide) rfl ?_
    refine J_iconst (v := 0 ) (q := 105) C dL_same_104 rfl rfl ?_
    refine J_istore (q := 107) C dL_same_105 rfl (by decide) rfl ?_
    refine J_sub [2, 3, 4, 5, 6, 1, 0] rfl ?_
    refine cl_L_same_107 hap C ho1 ho2 r σo  (fun v3_327 v4_327 v5_327 σv327 h => ?_) FU _ _ _ _ _ h
    · refine J_iload (q := 329) C dL_same_327 rfl 3 rfl ?_
      refine J_ifeq_b (tgt := 357) (q := 332) C dL_same_329 rfl (by decide) h (fun _ h => ?_) (fun _ h => ?_)
      · refine J_aload_n (q := 333) C dL_same_332 rfl rfl 0 rfl ?_
        refine J_bipush (v := 8) (q := 335) C dL_same_333 rfl rfl ?_
        obtain ⟨r19, ec19, h⟩ := bnd_of h
        refine J_callIV (q := 338) (As := [.int (8 : Int32)]) C (c_X5_count hap  ec19) ok_X5_count kM_L_62 (by decide) rfl rfl rfl rfl rfl rfl ⟨Nat.le_of_ble_eq_true rfl, Nat.le_of_ble_eq_true rfl⟩ (Nat.le_of_ble_eq_true rfl) dL_same_335 rfl ?_
        refine J_iload_n (q := 339) C dL_same_338 rfl rfl 1 rfl ?_
        refine J_icmp_ne (tgt := 357) (q := 342) C dL_same_339 rfl (by decide) h (fun _ h => ?_) (fun _ h => ?_)
        · refine J_aload_n (q := 343) C dL_same_342 rfl rfl 0 rfl ?_
          refine J_bipush (v := 9) (q := 345) C dL_same_343 rfl rfl ?_
          obtain ⟨r20, ec20, h⟩ := bnd_of h
          refine J_callIV (q := 348) (As := [.int (9 : Int32)]) C (c_X5_count hap  ec20) ok_X5_count kM_L_62 (by decide) rfl rfl rfl rfl rfl rfl ⟨Nat.le_of_ble_eq_true rfl, Nat.le_of_ble_eq_true rfl⟩ (Nat.le_of_ble_eq_true rfl) dL_same_345 rfl ?_
          refine J_iload (q := 350) C dL_same_348 rfl 2 rfl ?_
          refine J_icmp_ne (tgt := 357) (q := 353) C dL_same_350 rfl (by decide) h (fun _ h => ?_) (fun _ h => ?_)
          · refine J_iconst (v := 1 ) (q := 354) C dL_same_353 rfl rfl ?_
            refine J_goto (tgt := 358) C dL_same_354 (by decide) ?_
            obtain ⟨rfl, rfl⟩ := Prod.mk.inj (Option.some.inj h)
            exact J_zret (b := true) C dL_same_358
          · refine J_iconst (v := 0 ) (q := 358) C dL_same_357 rfl rfl ?_
            obtain ⟨rfl, rfl⟩ := Prod.mk.inj (Option.some.inj h)
            exact J_zret (b := false) C dL_same_358
        · refine J_iconst (v := 0 ) (q := 358) C dL_same_357 rfl rfl ?_
          obtain ⟨rfl, rfl⟩ := Prod.mk.inj (Option.some.inj h)
          exact J_zret (b := false) C dL_same_358
      · refine J_iconst (v := 0 ) (q := 358) C dL_same_357 rfl rfl ?_
        obtain ⟨rfl, rfl⟩ := Prod.mk.inj (Option.some.inj h)
        exact J_zret (b := false) C dL_same_358
  refine jn_elim h (fun k101 ek101 h => ?_)
  have hk101 : k101 = some (r, σo) → Jd p l e (rmF 6 142) s m args below meth c D 77 ad (celC cI cR ad) okC 8 (MQ below (QI D (tysC cI cR) 77 ad (celC cI cR ad) okC (b2i r) σo) args s 0 0 (inA 77 ad)) 101 [(0, .ref (ad 0)), (1, .ref (ad (g1 + 33))), (2, .ref (ad (g2 + 33))), (3, .int (0 : Int32)), (4, .int (0 : Int32))] [] σ := by
    intro  h
    rw [ek101] at h
    refine J_iconst (v := 0 ) (q := 102) C dL_same_101 rfl rfl ?_
    exact hk102 _ h
  refine J_icmp_ne (tgt := 101) (q := 16) C dL_same_13 rfl (by decide) h (fun _ h => ?_) (fun _ h => ?_)
  · refine J_aload_n (q := 17) C dL_same_16 rfl rfl 2 rfl ?_
    refine J_iconst (v := 1 ) (q := 18) C dL_same_17 rfl rfl ?_
    obtain ⟨r21, ec21, h⟩ := bnd_of h
    refine J_callIV (q := 21) (As := [.int (1 : Int32)]) C (c_X5_count hap  ec21) ok_X5_count kM_L_62 (by decide) rfl rfl rfl rfl rfl rfl ⟨Nat.le_of_ble_eq_true rfl, Nat.le_of_ble_eq_true rfl⟩ (Nat.le_of_ble_eq_true rfl) dL_same_18 rfl ?_
    refine J_aload_n (q := 22) C dL_same_21 rfl rfl 4 rfl ?_
    refine J_iconst (v := 0 ) (q := 23) C dL_same_22 rfl rfl ?_
    refine JL_iald (q := 24) C ho2 h dL_same_23 rfl (fun h => ?_)
    refine J_icmp_ne (tgt := 101) (q := 27) C dL_same_24 rfl (by decide) h (fun _ h => ?_) (fun _ h => ?_)
    · refine J_aload_n (q := 28) C dL_same_27 rfl rfl 2 rfl ?_
      refine J_iconst (v := 2 ) (q := 29) C dL_same_28 rfl rfl ?_
      obtain ⟨r22, ec22, h⟩ := bnd_of h
      refine J_callIV (q := 32) (As := [.int (2 : Int32)]) C (c_X5_count hap  ec22) ok_X5_count kM_L_62 (by decide) rfl rfl rfl rfl rfl rfl ⟨Nat.le_of_ble_eq_true rfl, Nat.le_of_ble_eq_true rfl⟩ (Nat.le_of_ble_eq_true rfl) dL_same_29 rfl ?_
      refine J_aload_n (q := 33) C dL_same_32 rfl rfl 4 rfl ?_
      refine J_iconst (v := 1 ) (q := 34) C dL_same_33 rfl rfl ?_
      refine JL_iald (q := 35) C ho2 h dL_same_34 rfl (fun h => ?_)
      refine J_icmp_ne (tgt := 101) (q := 38) C dL_same_35 rfl (by decide) h (fun _ h => ?_) (fun _ h => ?_)
      · refine J_aload_n (q := 39) C dL_same_38 rfl rfl 2 rfl ?_
        refine J_iconst (v := 4 ) (q := 40) C dL_same_39 rfl rfl ?_
        obtain ⟨r23, ec23, h⟩ := bnd_of h
        refine J_callIV (q := 43) (As := [.int (4 : Int32)]) C (c_X5_count hap  ec23) ok_X5_count kM_L_62 (by decide) rfl rfl rfl rfl rfl rfl ⟨Nat.le_of_ble_eq_true rfl, Nat.le_of_ble_eq_true rfl⟩ (Nat.le_of_ble_eq_true rfl) dL_same_40 rfl ?_
        refine J_aload_n (q := 44) C dL_same_43 rfl rfl 4 rfl ?_
        refine J_iconst (v := 2 ) (q := 45) C dL_same_44 rfl rfl ?_
        refine JL_iald (q := 46) C ho2 h dL_same_45 rfl (fun h => ?_)
        refine J_icmp_ne (tgt := 101) (q := 49) C dL_same_46 rfl (by decide) h (fun _ h => ?_) (fun _ h => ?_)
        · refine J_aload_n (q := 50) C dL_same_49 rfl rfl 2 rfl ?_
          refine J_iconst (v := 5 ) (q := 51) C dL_same_50 rfl rfl ?_
          obtain ⟨r24, ec24, h⟩ := bnd_of h
          refine J_callIV (q := 54) (As := [.int (5 : Int32)]) C (c_X5_count hap  ec24) ok_X5_count kM_L_62 (by decide) rfl rfl rfl rfl rfl rfl ⟨Nat.le_of_ble_eq_true rfl, Nat.le_of_ble_eq_true rfl⟩ (Nat.le_of_ble_eq_true rfl) dL_same_51 rfl ?_
          refine J_aload_n (q := 55) C dL_same_54 rfl rfl 4 rfl ?_
          refine J_iconst (v := 3 ) (q := 56) C dL_same_55 rfl rfl ?_
          refine JL_iald (q := 57) C ho2 h dL_same_56 rfl (fun h => ?_)
          refine J_icmp_ne (tgt := 101) (q := 60) C dL_same_57 rfl (by decide) h (fun _ h => ?_) (fun _ h => ?_)
          · refine J_aload_n (q := 61) C dL_same_60 rfl rfl 2 rfl ?_
            refine J_bipush (v := 6) (q := 63) C dL_same_61 rfl rfl ?_
            obtain ⟨r25, ec25, h⟩ := bnd_of h
            refine J_callIV (q := 66) (As := [.int (6 : Int32)]) C (c_X5_count hap  ec25) ok_X5_count kM_L_62 (by decide) rfl rfl rfl rfl rfl rfl ⟨Nat.le_of_ble_eq_true rfl, Nat.le_of_ble_eq_true rfl⟩ (Nat.le_of_ble_eq_true rfl) dL_same_63 rfl ?_
            refine J_aload_n (q := 67) C dL_same_66 rfl rfl 4 rfl ?_
            obtain ⟨r26, ec26, h⟩ := bnd_of h
            refine J_callIS (q := 70) (As := [.ref (ad (g2 + 33))]) C (c_L_awake hap ho2 ec26) ok_L_awake kM_L_55 rfl rfl rfl ⟨Nat.le_of_ble_eq_true rfl, Nat.le_of_ble_eq_true rfl⟩ (Nat.le_of_ble_eq_true rfl) dL_same_67 rfl ?_
            refine J_icmp_ne (tgt := 101) (q := 73) C dL_same_70 rfl (by decide) h (fun _ h => ?_) (fun _ h => ?_)
            · refine J_aload_n (q := 74) C dL_same_73 rfl rfl 2 rfl ?_
              refine J_bipush (v := 7) (q := 76) C dL_same_74 rfl rfl ?_
              obtain ⟨r27, ec27, h⟩ := bnd_of h
              refine J_callIV (q := 79) (As := [.int (7 : Int32)]) C (c_X5_count hap  ec27) ok_X5_count kM_L_62 (by decide) rfl rfl rfl rfl rfl rfl ⟨Nat.le_of_ble_eq_true rfl, Nat.le_of_ble_eq_true rfl⟩ (Nat.le_of_ble_eq_true rfl) dL_same_76 rfl ?_
              refine J_aload_n (q := 80) C dL_same_79 rfl rfl 4 rfl ?_
              refine J_iconst (v := 4 ) (q := 81) C dL_same_80 rfl rfl ?_
              refine JL_iald (q := 82) C ho2 h dL_same_81 rfl (fun h => ?_)
              refine J_icmp_ne (tgt := 101) (q := 85) C dL_same_82 rfl (by decide) h (fun _ h => ?_) (fun _ h => ?_)
              · refine J_aload_n (q := 86) C dL_same_85 rfl rfl 2 rfl ?_
                refine J_bipush (v := 13) (q := 88) C dL_same_86 rfl rfl ?_
                obtain ⟨r28, ec28, h⟩ := bnd_of h
                refine J_callIV (q := 91) (As := [.int (13 : Int32)]) C (c_X5_count hap  ec28) ok_X5_count kM_L_62 (by decide) rfl rfl rfl rfl rfl rfl ⟨Nat.le_of_ble_eq_true rfl, Nat.le_of_ble_eq_true rfl⟩ (Nat.le_of_ble_eq_true rfl) dL_same_88 rfl ?_
                refine J_aload_n (q := 92) C dL_same_91 rfl rfl 3 rfl ?_
                refine J_iconst (v := 0 ) (q := 93) C dL_same_92 rfl rfl ?_
                refine JL_iald (q := 94) C ho1 h dL_same_93 rfl (fun h => ?_)
                refine J_icmp_ne (tgt := 101) (q := 97) C dL_same_94 rfl (by decide) h (fun _ h => ?_) (fun _ h => ?_)
                · refine J_iconst (v := 1 ) (q := 98) C dL_same_97 rfl rfl ?_
                  refine J_goto (tgt := 102) C dL_same_98 (by decide) ?_
                  refine J_sub [2, 3, 4, 1, 0] rfl ?_
                  exact hk102 _ h
                · refine J_sub [2, 3, 4, 1, 0] rfl ?_
                  exact hk101 h
              · refine J_sub [2, 3, 4, 1, 0] rfl ?_
                exact hk101 h
            · refine J_sub [2, 3, 4, 1, 0] rfl ?_
              exact hk101 h
          · refine J_sub [2, 3, 4, 1, 0] rfl ?_
            exact hk101 h
        · refine J_sub [2, 3, 4, 1, 0] rfl ?_
          exact hk101 h
      · refine J_sub [2, 3, 4, 1, 0] rfl ?_
        exact hk101 h
    · refine J_sub [2, 3, 4, 1, 0] rfl ?_
      exact hk101 h
  · refine J_sub [2, 3, 4, 1, 0] rfl ?_
    exact hk101 h
