set_option maxHeartbeats 4000000 in
set_option maxRecDepth 100000 in
theorem cl_X5_refusedPairs_42 {p : Program} {l : Launch} {e : Env} {s : State} {m : MethodId} {args : Array Value} {below : List Frame} {meth : Method} {c : Code} {D : va_G} {cI cR : ClassId} {ad : Nat → Nat} (hap : apN 77 ad) (C : Cx p s m args meth c cX5_refusedPairs 4 "WokenYears" D (tysC cI cR) 77 ad (some .int)) {b1 : Nat} (hb1 : isI b1) {k77 : Option (Int32 × Sg)} {σ : Sg} (r : Int32) (σo : Sg)  (hk77 : k77 = some (r, σo) → Jd p l e (rmF 4 94) s m args below meth c D 77 ad (celC cI cR ad) okC 4 (MQ below (QI D (tysC cI cR) 77 ad (celC cI cR ad) okC r σo) args s 0 0 (inA 77 ad)) 77 [(0, .ref (ad 0))] [] σ) : ∀ (n : Nat) (x3 : Int32), l_X5_refusedPairs_42 b1 σ k77 n x3 = some (r, σo) → Jd p l e (rmF 4 94) s m args below meth c D 77 ad (celC cI cR ad) okC 4 (MQ below (QI D (tysC cI cR) 77 ad (celC cI cR ad) okC r σo) args s 0 0 (inA 77 ad)) 42 [(0, .ref (ad 0)), (1, .ref (ad b1)), (3, .int x3)] [] σ := by
  intro n
  induction n with
  | zero => intro x3 h; cases h
  | succ n ih =>
    intro x3 h
    unfold l_X5_refusedPairs_42 at h
    refine J_iload_n (q := 43) C dX5_refusedPairs_42 rfl rfl 2 rfl ?_
    refine J_aload_n (q := 44) C dX5_refusedPairs_43 rfl rfl 1 rfl ?_
    refine JC_g_X0_size (q := 47) C hb1 kF_X5_85 dX5_refusedPairs_44 rfl ?_
    refine J_icmp_ge (tgt := 89) (q := 50) C dX5_refusedPairs_47 rfl (by decide) h (fun _ h => ?_) (fun _ h => ?_)
    · refine J_iconst (v := 0 ) (q := 90) C dX5_refusedPairs_89 rfl rfl ?_
      obtain ⟨rfl, rfl⟩ := Prod.mk.inj (Option.some.inj h)
      exact J_iret C dX5_refusedPairs_90
    · refine J_aload_n (q := 51) C dX5_refusedPairs_50 rfl rfl 1 rfl ?_
      refine J_iload_n (q := 52) C dX5_refusedPairs_51 rfl rfl 2 rfl ?_
      obtain ⟨r4, ec4, h⟩ := bnd_of h
      refine J_callIV (q := 55) (As := [.int x3]) C (c_X0_get hap hb1 ec4) ok_X0_get kM_X5_68 (lt77I hb1) (celC_I hb1) rfl rfl rfl rfl rfl ⟨Nat.le_of_ble_eq_true rfl, Nat.le_of_ble_eq_true rfl⟩ (Nat.le_of_ble_eq_true rfl) dX5_refusedPairs_52 rfl ?_
      obtain ⟨r5, ec5, h⟩ := bnd_of h
      refine J_callIS (q := 58) (As := [.int r4]) C (c_X5_isDate hap  ec5) ok_X5_isDate kM_X5_185 rfl rfl rfl ⟨Nat.le_of_ble_eq_true rfl, Nat.le_of_ble_eq_true rfl⟩ (Nat.le_of_ble_eq_true rfl) dX5_refusedPairs_55 rfl ?_
      refine J_ifeq_b (tgt := 77) (q := 61) C dX5_refusedPairs_58 rfl (by decide) h (fun _ h => ?_) (fun _ h => ?_)
      · refine J_aload_n (q := 62) C dX5_refusedPairs_61 rfl rfl 1 rfl ?_
        refine J_iload_n (q := 63) C dX5_refusedPairs_62 rfl rfl 2 rfl ?_
        refine J_iconst (v := 1 ) (q := 64) C dX5_refusedPairs_63 rfl rfl ?_
        refine J_iadd (q := 65) C dX5_refusedPairs_64 rfl ?_
        obtain ⟨r6, ec6, h⟩ := bnd_of h
        refine J_callIV (q := 68) (As := [.int (x3 + (1 : Int32))]) C (c_X0_get hap hb1 ec6) ok_X0_get kM_X5_68 (lt77I hb1) (celC_I hb1) rfl rfl rfl rfl rfl ⟨Nat.le_of_ble_eq_true rfl, Nat.le_of_ble_eq_true rfl⟩ (Nat.le_of_ble_eq_true rfl) dX5_refusedPairs_65 rfl ?_
        refine J_iconst (v := 0 ) (q := 69) C dX5_refusedPairs_68 rfl rfl ?_
        refine J_bipush (v := 9) (q := 71) C dX5_refusedPairs_69 rfl rfl ?_
        obtain ⟨r7, ec7, h⟩ := bnd_of h
        refine J_callIS (q := 74) (As := [.int r6, .int (0 : Int32), .int (9 : Int32)]) C (c_X5_within hap  ec7) ok_X5_within kM_X5_75 rfl rfl rfl ⟨Nat.le_of_ble_eq_true rfl, Nat.le_of_ble_eq_true rfl⟩ (Nat.le_of_ble_eq_true rfl) dX5_refusedPairs_71 rfl ?_
        refine J_ifne_b (tgt := 83) (q := 77) C dX5_refusedPairs_74 rfl (by decide) h (fun _ h => ?_) (fun _ h => ?_)
        · refine jn_elim h (fun y8 ey8 h => ?_)
          refine J_iinc (v := y8) (q := 86) C dX5_refusedPairs_83 rfl 2 rfl (by rw [ey8]; rfl) (by decide) rfl ?_
          refine J_goto (tgt := 42) C dX5_refusedPairs_86 (by decide) ?_
          refine J_sub [1, 2, 0] rfl ?_
          exact ih _ h
        · refine J_sub [0] rfl ?_
          exact hk77 h
      · refine J_sub [0] rfl ?_
        exact hk77 h
set_option maxHeartbeats 4000000 in
set_option maxRecDepth 100000 in
theorem c_X5_refusedPairs {l : Launch} {D : va_G} {cI cR : ClassId} {ad : Nat → Nat} (hap : apN 77 ad) {o1 : Option Nat} {σ : Sg} {r : Int32} {σo : Sg} (ho1 : ∀ q, o1 = some q → isI q) (h : f_X5_refusedPairs o1 σ = some (r, σo)) : MI l D (tysC cI cR) 77 ad (celC cI cR ad) okC yX5_refusedPairs cX5_refusedPairs 4 .int 4 94 [.ref (ad 0), va_re ad o1] σ r σo := by
  unfold f_X5_refusedPairs at h
  cases o1 with
  | none =>
    have h := oc_none h
    refine entI "WokenYears" hap (by decide +kernel) rfl (Nat.le_of_ble_eq_true rfl) (fun p e s m args below meth c C => ?_)
    refine J_sub (lv' := [(0, .ref (ad 0)), (1, .null)]) [0, 1] rfl ?_
    refine J_aload_n (q := 1) C dX5_refusedPairs_0 rfl rfl 0 rfl ?_
    refine J_aload_nN (q := 2) C dX5_refusedPairs_1 rfl rfl 1 rfl ?_
    obtain ⟨r1, σ1, ec1, h⟩ := bnd2_of h
    refine J_callIV (q := 5) (As := [.null]) C (c_X5_refused hap noneI ec1) ok_X5_refused kM_X5_91 (by decide) rfl rfl rfl rfl rfl rfl ⟨Nat.le_of_ble_eq_true rfl, Nat.le_of_ble_eq_true rfl⟩ (Nat.le_of_ble_eq_true rfl) dX5_refusedPairs_2 rfl ?_
    refine J_istore_n (q := 6) C dX5_refusedPairs_5 rfl rfl (by decide) rfl ?_
    refine J_aload_nN (q := 7) C dX5_refusedPairs_6 rfl rfl 2 rfl ?_
    refine J_ifnullN (tgt := 14) C dX5_refusedPairs_7 (by decide) ?_
    refine J_iload_n (q := 15) C dX5_refusedPairs_14 rfl rfl 0 rfl ?_
    obtain ⟨rfl, rfl⟩ := Prod.mk.inj (Option.some.inj h)
    exact J_iret C dX5_refusedPairs_15
  | some q1 =>
    have hq1 := ho1 q1 rfl
    have h := oc_some h
    refine entI "WokenYears" hap (by decide +kernel) rfl (Nat.le_of_ble_eq_true rfl) (fun p e s m args below meth c C => ?_)
    refine J_sub (lv' := [(0, .ref (ad 0)), (1, .ref (ad q1))]) [0, 1] rfl ?_
    refine J_aload_n (q := 1) C dX5_refusedPairs_0 rfl rfl 0 rfl ?_
    refine J_aload_n (q := 2) C dX5_refusedPairs_1 rfl rfl 1 rfl ?_
    obtain ⟨r2, σ2, ec2, h⟩ := bnd2_of h
    refine J_callIV (q := 5) (As := [.ref (ad q1)]) C (c_X5_refused hap (someI hq1) ec2) ok_X5_refused kM_X5_91 (by decide) rfl rfl rfl rfl rfl rfl ⟨Nat.le_of_ble_eq_true rfl, Nat.le_of_ble_eq_true rfl⟩ (Nat.le_of_ble_eq_true rfl) dX5_refusedPairs_2 rfl ?_
    refine J_istore_n (q := 6) C dX5_refusedPairs_5 rfl rfl (by decide) rfl ?_
    refine J_aload_n (q := 7) C dX5_refusedPairs_6 rfl rfl 2 rfl ?_
    refine J_ifnull (q := 10) C dX5_refusedPairs_7 rfl ?_
    refine J_iload_n (q := 11) C dX5_refusedPairs_10 rfl rfl 0 rfl ?_
    refine J_if_eq (tgt := 16) (q := 14) C dX5_refusedPairs_11 rfl (by decide) h (fun _ h => ?_) (fun _ h => ?_)
    · refine J_aload_n (q := 17) C dX5_refusedPairs_16 rfl rfl 2 rfl ?_
      refine JC_g_X0_size (q := 20) C hq1 kF_X5_85 dX5_refusedPairs_17 rfl ?_
      refine J_iconst (v := 2 ) (q := 21) C dX5_refusedPairs_20 rfl rfl ?_
      refine J_irem (q := 22) C dX5_refusedPairs_21 rfl (by decide) ?_
      refine jn_elim h (fun k34 ek34 h => ?_)
      have hk34 : k34 = some (r, σo) → Jd p l e (rmF 4 94) s m args below meth c D 77 ad (celC cI cR ad) okC 4 (MQ below (QI D (tysC cI cR) 77 ad (celC cI cR ad) okC r σo) args s 0 0 (inA 77 ad)) 34 [(0, .ref (ad 0))] [] σ2 := by
        intro  h
        rw [ek34] at h
        refine J_aload_n (q := 35) C dX5_refusedPairs_34 rfl rfl 0 rfl ?_
        refine J_iconst (v := 5 ) (q := 36) C dX5_refusedPairs_35 rfl rfl ?_
        obtain ⟨r3, σ3, ec3, h⟩ := bnd2_of h
        refine J_callIV (q := 39) (As := [.int (5 : Int32)]) C (c_X5_found hap  ec3) ok_X5_found kM_X5_88 (by decide) rfl rfl rfl rfl rfl rfl ⟨Nat.le_of_ble_eq_true rfl, Nat.le_of_ble_eq_true rfl⟩ (Nat.le_of_ble_eq_true rfl) dX5_refusedPairs_36 rfl ?_
        obtain ⟨rfl, rfl⟩ := Prod.mk.inj (Option.some.inj h)
        exact J_iret C dX5_refusedPairs_39
      refine J_if_ne (tgt := 34) (q := 25) C dX5_refusedPairs_22 rfl (by decide) h (fun _ h => ?_) (fun _ h => ?_)
      · refine J_aload_n (q := 26) C dX5_refusedPairs_25 rfl rfl 2 rfl ?_
        refine JC_g_X0_size (q := 29) C hq1 kF_X5_85 dX5_refusedPairs_26 rfl ?_
        refine J_bipush (v := 16) (q := 31) C dX5_refusedPairs_29 rfl rfl ?_
        refine J_icmp_le (tgt := 40) (q := 34) C dX5_refusedPairs_31 rfl (by decide) h (fun _ h => ?_) (fun _ h => ?_)
        · refine J_iconst (v := 0 ) (q := 41) C dX5_refusedPairs_40 rfl rfl ?_
          refine J_istore_n (q := 42) C dX5_refusedPairs_41 rfl rfl (by decide) rfl ?_
          refine J_sub [2, 3, 0] rfl ?_
          refine cl_X5_refusedPairs_42 hap C hq1 r σo  (fun h => ?_) FU _ h
          · refine J_aload_n (q := 78) C dX5_refusedPairs_77 rfl rfl 0 rfl ?_
            refine J_iconst (v := 3 ) (q := 79) C dX5_refusedPairs_78 rfl rfl ?_
            obtain ⟨r9, σ9, ec9, h⟩ := bnd2_of h
            refine J_callIV (q := 82) (As := [.int (3 : Int32)]) C (c_X5_found hap  ec9) ok_X5_found kM_X5_88 (by decide) rfl rfl rfl rfl rfl rfl ⟨Nat.le_of_ble_eq_true rfl, Nat.le_of_ble_eq_true rfl⟩ (Nat.le_of_ble_eq_true rfl) dX5_refusedPairs_79 rfl ?_
            obtain ⟨rfl, rfl⟩ := Prod.mk.inj (Option.some.inj h)
            exact J_iret C dX5_refusedPairs_82
        · refine J_sub [1] rfl ?_
          exact hk34 h
      · refine J_sub [1] rfl ?_
        exact hk34 h
    · refine J_iload_n (q := 15) C dX5_refusedPairs_14 rfl rfl 0 rfl ?_
      obtain ⟨rfl, rfl⟩ := Prod.mk.inj (Option.some.inj h)
      exact J_iret C dX5_refusedPairs_15
set_option maxHeartbeats 4000000 in
set_option maxRecDepth 100000 in
theorem c_X5_tookOf {l : Launch} {D : va_G} {cI cR : ClassId} {ad : Nat → Nat} (hap : apN 77 ad) {i0 : Int32} {i1 : Int32} {i2 : Int32} {σ : Sg} {r : Int32}  (h : f_X5_tookOf i0 i1 i2 = some r) : MI l D (tysC cI cR) 77 ad (celC cI cR ad) okC yX5_tookOf cX5_tookOf 4 .int 2 54 [.int i0, .int i1, .int i2] σ r σ := by
  unfold f_X5_tookOf at h
  refine entI "WokenYears" hap (by decide +kernel) rfl (Nat.le_of_ble_eq_true rfl) (fun p e s m args below meth c C => ?_)
  refine J_sub (lv' := [(0, .int i0), (1, .int i1), (2, .int i2)]) [0, 1, 2] rfl ?_
  refine J_iload_n (q := 1) C dX5_tookOf_0 rfl rfl 0 rfl ?_
  refine J_iload_n (q := 2) C dX5_tookOf_1 rfl rfl 1 rfl ?_
  refine J_iload_n (q := 3) C dX5_tookOf_2 rfl rfl 2 rfl ?_
  obtain ⟨r1, ec1, h⟩ := bnd_of h
  refine J_callIS (q := 6) (As := [.int i0, .int i1, .int i2]) C (c_X1_taps hap  ec1) ok_X1_taps kM_X5_155 rfl rfl rfl ⟨Nat.le_of_ble_eq_true rfl, Nat.le_of_ble_eq_true rfl⟩ (Nat.le_of_ble_eq_true rfl) dX5_tookOf_3 rfl ?_
  refine J_istore_n (q := 7) C dX5_tookOf_6 rfl rfl (by decide) rfl ?_
  refine J_iload_n (q := 8) C dX5_tookOf_7 rfl rfl 0 rfl ?_
  refine J_bipush (v := -9) (q := 10) C dX5_tookOf_8 rfl rfl ?_
  refine J_icmp_ne (tgt := 17) (q := 13) C dX5_tookOf_10 rfl (by decide) h (fun _ h => ?_) (fun _ h => ?_)
  · refine J_iconst (v := 0 ) (q := 14) C dX5_tookOf_13 rfl rfl ?_
    refine J_goto (tgt := 18) C dX5_tookOf_14 (by decide) ?_
    obtain rfl := Option.some.inj h
    exact J_iret C dX5_tookOf_18
  · refine J_iload_n (q := 18) C dX5_tookOf_17 rfl rfl 0 rfl ?_
    obtain rfl := Option.some.inj h
    exact J_iret C dX5_tookOf_18
set_option maxHeartbeats 4000000 in
set_option maxRecDepth 100000 in
theorem cl_X5_canBe_2 {p : Program} {l : Launch} {e : Env} {s : State} {m : MethodId} {args : Array Value} {below : List Frame} {meth : Method} {c : Code} {D : va_G} {cI cR : ClassId} {ad : Nat → Nat} (hap : apN 77 ad) (C : Cx p s m args meth c cX5_canBe 4 "WokenYears" D (tysC cI cR) 77 ad (some .boolean)) {a1 : Int32} {b2 : Nat} (hb2 : isI b2) {σ : Sg} (r : Bool)   : ∀ (n : Nat) (x3 : Int32), l_X5_canBe_2 a1 b2 σ n x3 = some r → Jd p l e (rmF 3 77) s m args below meth c D 77 ad (celC cI cR ad) okC 4 (MQ below (QI D (tysC cI cR) 77 ad (celC cI cR ad) okC (b2i r) σ) args s 0 0 (inA 77 ad)) 2 [(0, .ref (ad 0)), (1, .int a1), (2, .ref (ad b2)), (3, .int x3)] [] σ := by
  intro n
  induction n with
  | zero => intro x3 h; cases h
  | succ n ih =>
    intro x3 h
    unfold l_X5_canBe_2 at h
    refine J_iload_n (q := 3) C dX5_canBe_2 rfl rfl 3 rfl ?_
    refine J_aload_n (q := 4) C dX5_canBe_3 rfl rfl 2 rfl ?_
    refine JC_g_X0_size (q := 7) C hb2 kF_X5_85 dX5_canBe_4 rfl ?_
    refine J_icmp_ge (tgt := 44) (q := 10) C dX5_canBe_7 rfl (by decide) h (fun _ h => ?_) (fun _ h => ?_)
    · refine J_iconst (v := 1 ) (q := 45) C dX5_canBe_44 rfl rfl ?_
      obtain rfl := Option.some.inj h
      exact J_zret (b := true) C dX5_canBe_45
    · refine J_iload_n (q := 11) C dX5_canBe_10 rfl rfl 1 rfl ?_
      refine J_aload_n (q := 12) C dX5_canBe_11 rfl rfl 2 rfl ?_
      refine J_iload_n (q := 13) C dX5_canBe_12 rfl rfl 3 rfl ?_
      obtain ⟨r1, ec1, h⟩ := bnd_of h
      refine J_callIV (q := 16) (As := [.int x3]) C (c_X0_get hap hb2 ec1) ok_X0_get kM_X5_68 (lt77I hb2) (celC_I hb2) rfl rfl rfl rfl rfl ⟨Nat.le_of_ble_eq_true rfl, Nat.le_of_ble_eq_true rfl⟩ (Nat.le_of_ble_eq_true rfl) dX5_canBe_13 rfl ?_
      refine J_aload_n (q := 17) C dX5_canBe_16 rfl rfl 0 rfl ?_
      refine JC_g_X5_street (q := 20) C kF_X5_49 dX5_canBe_17 rfl (fun hs2 => ?_)
      refine JC_g_X4_frost (q := 23) C hs2 kF_X5_152 dX5_canBe_20 rfl ?_
      obtain ⟨r3, ec3, h⟩ := bnd_of h
      refine J_callIS (q := 26) (As := [.int a1, .int r1, .int (gS σ (16 * (gR σ 0) + 10))]) C (c_X5_tookOf hap  ec3) ok_X5_tookOf kM_X5_233 rfl rfl rfl ⟨Nat.le_of_ble_eq_true rfl, Nat.le_of_ble_eq_true rfl⟩ (Nat.le_of_ble_eq_true rfl) dX5_canBe_23 rfl ?_
      refine J_aload_n (q := 27) C dX5_canBe_26 rfl rfl 2 rfl ?_
      refine J_iload_n (q := 28) C dX5_canBe_27 rfl rfl 3 rfl ?_
      refine J_iconst (v := 1 ) (q := 29) C dX5_canBe_28 rfl rfl ?_
      refine J_iadd (q := 30) C dX5_canBe_29 rfl ?_
      obtain ⟨r4, ec4, h⟩ := bnd_of h
      refine J_callIV (q := 33) (As := [.int (x3 + (1 : Int32))]) C (c_X0_get hap hb2 ec4) ok_X0_get kM_X5_68 (lt77I hb2) (celC_I hb2) rfl rfl rfl rfl rfl ⟨Nat.le_of_ble_eq_true rfl, Nat.le_of_ble_eq_true rfl⟩ (Nat.le_of_ble_eq_true rfl) dX5_canBe_30 rfl ?_
      refine J_icmp_eq (tgt := 38) (q := 36) C dX5_canBe_33 rfl (by decide) h (fun _ h => ?_) (fun _ h => ?_)
      · refine jn_elim h (fun y5 ey5 h => ?_)
        refine J_iinc (v := y5) (q := 41) C dX5_canBe_38 rfl 3 rfl (by rw [ey5]; rfl) (by decide) rfl ?_
        refine J_goto (tgt := 2) C dX5_canBe_41 (by decide) ?_
        refine J_sub [1, 2, 3, 0] rfl ?_
        exact ih _ h
      · refine J_iconst (v := 0 ) (q := 37) C dX5_canBe_36 rfl rfl ?_
        obtain rfl := Option.some.inj h
        exact J_zret (b := false) C dX5_canBe_37
set_option maxHeartbeats 4000000 in
set_option maxRecDepth 100000 in
theorem c_X5_canBe {l : Launch} {D : va_G} {cI cR : ClassId} {ad : Nat → Nat} (hap : apN 77 ad) {i1 : Int32} {g2 : Nat} {σ : Sg} {r : Bool} (ho2 : isI g2) (h : f_X5_canBe i1 g2 σ = some r) : MI l D (tysC cI cR) 77 ad (celC cI cR ad) okC yX5_canBe cX5_canBe 4 .boolean 3 77 [.ref (ad 0), .int i1, .ref (ad g2)] σ (b2i r) σ := by
  unfold f_X5_canBe at h
  refine entI "WokenYears" hap (by decide +kernel) rfl (Nat.le_of_ble_eq_true rfl) (fun p e s m args below meth c C => ?_)
  refine J_sub (lv' := [(0, .ref (ad 0)), (1, .int i1), (2, .ref (ad g2))]) [0, 1, 2] rfl ?_
  refine J_iconst (v := 0 ) (q := 1) C dX5_canBe_0 rfl rfl ?_
  refine J_istore_n (q := 2) C dX5_canBe_1 rfl rfl (by decide) rfl ?_
  refine J_sub [1, 2, 3, 0] rfl ?_
  refine cl_X5_canBe_2 hap C ho2 r  FU _ h
set_option maxHeartbeats 4000000 in
set_option maxRecDepth 100000 in
theorem cl_X5_kindsBy_4 {p : Program} {l : Launch} {e : Env} {s : State} {m : MethodId} {args : Array Value} {below : List Frame} {meth : Method} {c : Code} {D : va_G} {cI cR : ClassId} {ad : Nat → Nat} (hap : apN 77 ad) (C : Cx p s m args meth c cX5_kindsBy 4 "WokenYears" D (tysC cI cR) 77 ad (some .int)) {b1 : Nat} (hb1 : isI b1) {k31 : Int32 → Option Int32} {σ : Sg} (r : Int32)  (hk31 : ∀ (u2 : Int32), k31 u2 = some r → Jd p l e (rmF 4 100) s m args below meth c D 77 ad (celC cI cR ad) okC 4 (MQ below (QI D (tysC cI cR) 77 ad (celC cI cR ad) okC r σ) args s 0 0 (inA 77 ad)) 31 [(2, .int u2)] [] σ) : ∀ (n : Nat) (x2 : Int32) (x3 : Int32), l_X5_kindsBy_4 b1 σ k31 n x2 x3 = some r → Jd p l e (rmF 4 100) s m args below meth c D 77 ad (celC cI cR ad) okC 4 (MQ below (QI D (tysC cI cR) 77 ad (celC cI cR ad) okC r σ) args s 0 0 (inA 77 ad)) 4 [(0, .ref (ad 0)), (1, .ref (ad b1)), (2, .int x2), (3, .int x3)] [] σ := by
  intro n
  induction n with
  | zero => intro x2 x3 h; cases h
  | succ n ih =>
    intro x2 x3 h
    unfold l_X5_kindsBy_4 at h
    refine J_iload_n (q := 5) C dX5_kindsBy_4 rfl rfl 3 rfl ?_
    refine J_bipush (v := 6) (q := 7) C dX5_kindsBy_5 rfl rfl ?_
    refine J_icmp_ge (tgt := 31) (q := 10) C dX5_kindsBy_7 rfl (by decide) h (fun _ h => ?_) (fun _ h => ?_)
    · refine J_sub [2] rfl ?_
      exact hk31 _ h
    · refine J_aload_n (q := 11) C dX5_kindsBy_10 rfl rfl 0 rfl ?_
      refine J_iload_n (q := 12) C dX5_kindsBy_11 rfl rfl 3 rfl ?_
      refine J_aload_n (q := 13) C dX5_kindsBy_12 rfl rfl 1 rfl ?_
      obtain ⟨r1, ec1, h⟩ := bnd_of h
      refine J_callIV (q := 16) (As := [.int x3, .ref (ad b1)]) C (c_X5_canBe hap hb1 ec1) ok_X5_canBe kM_X5_236 (by decide) rfl rfl rfl rfl rfl rfl ⟨Nat.le_of_ble_eq_true rfl, Nat.le_of_ble_eq_true rfl⟩ (Nat.le_of_ble_eq_true rfl) dX5_kindsBy_13 rfl ?_
      refine jn_elim h (fun k25 ek25 h => ?_)
      have hk25 : ∀ (u2_25 : Int32), k25 u2_25 = some r → Jd p l e (rmF 4 100) s m args below meth c D 77 ad (celC cI cR ad) okC 4 (MQ below (QI D (tysC cI cR) 77 ad (celC cI cR ad) okC r σ) args s 0 0 (inA 77 ad)) 25 [(0, .ref (ad 0)), (1, .ref (ad b1)), (2, .int u2_25), (3, .int x3)] [] σ := by
        intro u2_25 h
        rw [ek25] at h
        refine jn_elim h (fun y2 ey2 h => ?_)
        refine J_iinc (v := y2) (q := 28) C dX5_kindsBy_25 rfl 3 rfl (by rw [ey2]; rfl) (by decide) rfl ?_
        refine J_goto (tgt := 4) C dX5_kindsBy_28 (by decide) ?_
        refine J_sub [1, 2, 3, 0] rfl ?_
        exact ih _ _ h
      refine J_ifeq_b (tgt := 25) (q := 19) C dX5_kindsBy_16 rfl (by decide) h (fun _ h => ?_) (fun _ h => ?_)
      · refine J_iload_n (q := 20) C dX5_kindsBy_19 rfl rfl 2 rfl ?_
        refine J_iconst (v := 1 ) (q := 21) C dX5_kindsBy_20 rfl rfl ?_
        refine J_iload_n (q := 22) C dX5_kindsBy_21 rfl rfl 3 rfl ?_
        refine J_ishl (q := 23) C dX5_kindsBy_22 rfl ?_
        refine J_ior (q := 24) C dX5_kindsBy_23 rfl ?_
        refine J_nmi h (fun y3 ey3 h => ?_)
        refine J_istore_n (q := 25) C dX5_kindsBy_24 rfl rfl (by decide) rfl ?_
        refine J_sub [1, 2, 0, 3] rfl ?_
        exact hk25 _ h
      · exact hk25 _ h
set_option maxHeartbeats 4000000 in
set_option maxRecDepth 100000 in
theorem c_X5_kindsBy {l : Launch} {D : va_G} {cI cR : ClassId} {ad : Nat → Nat} (hap : apN 77 ad) {g1 : Nat} {σ : Sg} {r : Int32} (ho1 : isI g1) (h : f_X5_kindsBy g1 σ = some r) : MI l D (tysC cI cR) 77 ad (celC cI cR ad) okC yX5_kindsBy cX5_kindsBy 4 .int 4 100 [.ref (ad 0), .ref (ad g1)] σ r σ := by
  unfold f_X5_kindsBy at h
  refine entI "WokenYears" hap (by decide +kernel) rfl (Nat.le_of_ble_eq_true rfl) (fun p e s m args below meth c C => ?_)
  refine J_sub (lv' := [(0, .ref (ad 0)), (1, .ref (ad g1))]) [0, 1] rfl ?_
  refine J_iconst (v := 0 ) (q := 1) C dX5_kindsBy_0 rfl rfl ?_
  refine J_istore_n (q := 2) C dX5_kindsBy_1 rfl rfl (by decide) rfl ?_
  refine J_iconst (v := 0 ) (q := 3) C dX5_kindsBy_2 rfl rfl ?_
  refine J_istore_n (q := 4) C dX5_kindsBy_3 rfl rfl (by decide) rfl ?_
  refine J_sub [2, 3, 1, 0] rfl ?_
  refine cl_X5_kindsBy_4 hap C ho1 r  (fun v2_31 h => ?_) FU _ _ h
  · refine J_iload_n (q := 32) C dX5_kindsBy_31 rfl rfl 0 rfl ?_
    obtain rfl := Option.some.inj h
    exact J_iret C dX5_kindsBy_32
set_option maxHeartbeats 4000000 in
set_option maxRecDepth 100000 in
theorem cl_X5_partOf_6 {p : Program} {l : Launch} {e : Env} {s : State} {m : MethodId} {args : Array Value} {below : List Frame} {meth : Method} {c : Code} {D : va_G} {cI cR : ClassId} {ad : Nat → Nat} (hap : apN 77 ad) (C : Cx p s m args meth c cX5_partOf 6 "WokenYears" D (tysC cI cR) 77 ad (some .int)) {a1 : Int32} {a2 : Int32} {a3 : Int32} {k55 : Int32 → Option Int32} {σ : Sg} (r : Int32)  (hk55 : ∀ (u4 : Int32), k55 u4 = some r → Jd p l e (rmF 3 77) s m args below meth c D 77 ad (celC cI cR ad) okC 6 (MQ below (QI D (tysC cI cR) 77 ad (celC cI cR ad) okC r σ) args s 0 0 (inA 77 ad)) 55 [(4, .int u4)] [] σ) : ∀ (n : Nat) (x4 : Int32) (x5 : Int32), l_X5_partOf_6 a1 a2 a3 σ k55 n x4 x5 = some r → Jd p l e (rmF 3 77) s m args below meth c D 77 ad (celC cI cR ad) okC 6 (MQ below (QI D (tysC cI cR) 77 ad (celC cI cR ad) okC r σ) args s 0 0 (inA 77 ad)) 6 [(0, .ref (ad 0)), (1, .int a1), (2, .int a2), (3, .int a3), (4, .int x4), (5, .int x5)] [] σ := by
  intro n
  induction n with
  | zero => intro x4 x5 h; cases h
  | succ n ih =>
    intro x4 x5 h
    unfold l_X5_partOf_6 at h
    refine J_iload (q := 8) C dX5_partOf_6 rfl 5 rfl ?_
    refine J_bipush (v := 6) (q := 10) C dX5_partOf_8 rfl rfl ?_
    refine J_icmp_ge (tgt := 55) (q := 13) C dX5_partOf_10 rfl (by decide) h (fun _ h => ?_) (fun _ h => ?_)
    · refine J_sub [4] rfl ?_
      exact hk55 _ h
    · refine J_iload (q := 15) C dX5_partOf_13 rfl 4 rfl ?_
      refine J_iload_n (q := 16) C dX5_partOf_15 rfl rfl 1 rfl ?_
      refine J_iload (q := 18) C dX5_partOf_16 rfl 5 rfl ?_
      obtain ⟨r1, ec1, h⟩ := bnd_of h
      refine J_callIS (q := 21) (As := [.int a1, .int x5]) C (c_X5_holds hap  ec1) ok_X5_holds kM_X5_240 rfl rfl rfl ⟨Nat.le_of_ble_eq_true rfl, Nat.le_of_ble_eq_true rfl⟩ (Nat.le_of_ble_eq_true rfl) dX5_partOf_18 rfl ?_
      refine jn_elim h (fun k46 ek46 h => ?_)
      have hk46 : ∀ (t0_46 : Bool), k46 t0_46 = some r → Jd p l e (rmF 3 77) s m args below meth c D 77 ad (celC cI cR ad) okC 6 (MQ below (QI D (tysC cI cR) 77 ad (celC cI cR ad) okC r σ) args s 0 0 (inA 77 ad)) 46 [(0, .ref (ad 0)), (1, .int a1), (2, .int a2), (3, .int a3), (5, .int x5)] [.int (b2i t0_46), .int x4] σ := by
        intro t0_46 h
        rw [ek46] at h
        refine J_iadd (q := 47) C dX5_partOf_46 rfl ?_
        refine J_nmi h (fun y2 ey2 h => ?_)
        refine J_istore (q := 49) C dX5_partOf_47 rfl (by decide) rfl ?_
        refine jn_elim h (fun y3 ey3 h => ?_)
        refine J_iinc (v := y3) (q := 52) C dX5_partOf_49 rfl 5 rfl (by rw [ey3]; rfl) (by decide) rfl ?_
        refine J_goto (tgt := 6) C dX5_partOf_52 (by decide) ?_
        refine J_sub [2, 3, 4, 5, 1, 0] rfl ?_
        exact ih _ _ h
      refine jn_elim h (fun k45 ek45 h => ?_)
      have hk45 : k45 = some r → Jd p l e (rmF 3 77) s m args below meth c D 77 ad (celC cI cR ad) okC 6 (MQ below (QI D (tysC cI cR) 77 ad (celC cI cR ad) okC r σ) args s 0 0 (inA 77 ad)) 45 [(0, .ref (ad 0)), (1, .int a1), (2, .int a2), (3, .int a3), (5, .int x5)] [.int x4] σ := by
        intro  h
        rw [ek45] at h
        refine J_iconst (v := 0 ) (q := 46) C dX5_partOf_45 rfl rfl ?_
        exact hk46 _ h
      refine J_ifeq_b (tgt := 45) (q := 24) C dX5_partOf_21 rfl (by decide) h (fun _ h => ?_) (fun _ h => ?_)
      · refine J_iload (q := 26) C dX5_partOf_24 rfl 5 rfl ?_
        refine J_iload_n (q := 27) C dX5_partOf_26 rfl rfl 2 rfl ?_
        refine J_aload_n (q := 28) C dX5_partOf_27 rfl rfl 0 rfl ?_
        refine JC_g_X5_street (q := 31) C kF_X5_49 dX5_partOf_28 rfl (fun hs4 => ?_)
        refine JC_g_X4_frost (q := 34) C hs4 kF_X5_152 dX5_partOf_31 rfl ?_
        obtain ⟨r5, ec5, h⟩ := bnd_of h
        refine J_callIS (q := 37) (As := [.int x5, .int a2, .int (gS σ (16 * (gR σ 0) + 10))]) C (c_X5_tookOf hap  ec5) ok_X5_tookOf kM_X5_233 rfl rfl rfl ⟨Nat.le_of_ble_eq_true rfl, Nat.le_of_ble_eq_true rfl⟩ (Nat.le_of_ble_eq_true rfl) dX5_partOf_34 rfl ?_
        refine J_iload_n (q := 38) C dX5_partOf_37 rfl rfl 3 rfl ?_
        refine J_icmp_ne (tgt := 45) (q := 41) C dX5_partOf_38 rfl (by decide) h (fun _ h => ?_) (fun _ h => ?_)
        · refine J_iconst (v := 1 ) (q := 42) C dX5_partOf_41 rfl rfl ?_
          refine J_goto (tgt := 46) C dX5_partOf_42 (by decide) ?_
          refine J_sub [0, 1, 2, 3, 5] rfl ?_
          exact hk46 _ h
        · refine J_sub [0, 1, 2, 3, 5] rfl ?_
          exact hk45 h
      · refine J_sub [0, 1, 2, 3, 5] rfl ?_
        exact hk45 h
set_option maxHeartbeats 4000000 in
set_option maxRecDepth 100000 in
theorem c_X5_partOf {l : Launch} {D : va_G} {cI cR : ClassId} {ad : Nat → Nat} (hap : apN 77 ad) {i1 : Int32} {i2 : Int32} {i3 : Int32} {σ : Sg} {r : Int32}  (h : f_X5_partOf i1 i2 i3 σ = some r) : MI l D (tysC cI cR) 77 ad (celC cI cR ad) okC yX5_partOf cX5_partOf 6 .int 3 77 [.ref (ad 0), .int i1, .int i2, .int i3] σ r σ := by
  unfold f_X5_partOf at h
  refine entI "WokenYears" hap (by decide +kernel) rfl (Nat.le_of_ble_eq_true rfl) (fun p e s m args below meth c C => ?_)
  refine J_sub (lv' := [(0, .ref (ad 0)), (1, .int i1), (2, .int i2), (3, .int i3)]) [0, 1, 2, 3] rfl ?_
  refine J_iconst (v := 0 ) (q := 1) C dX5_partOf_0 rfl rfl ?_
  refine J_istore (q := 3) C dX5_partOf_1 rfl (by decide) rfl ?_
  refine J_iconst (v := 0 ) (q := 4) C dX5_partOf_3 rfl rfl ?_
  refine J_istore (q := 6) C dX5_partOf_4 rfl (by decide) rfl ?_
  refine J_sub [2, 3, 4, 5, 1, 0] rfl ?_
  refine cl_X5_partOf_6 hap C r  (fun v4_55 h => ?_) FU _ _ h
  · refine J_iload (q := 57) C dX5_partOf_55 rfl 0 rfl ?_
    obtain rfl := Option.some.inj h
    exact J_iret C dX5_partOf_57
set_option maxHeartbeats 4000000 in
set_option maxRecDepth 100000 in
theorem cl_X5_greatestPart_5 {p : Program} {l : Launch} {e : Env} {s : State} {m : MethodId} {args : Array Value} {below : List Frame} {meth : Method} {c : Code} {D : va_G} {cI cR : ClassId} {ad : Nat → Nat} (hap : apN 77 ad) (C : Cx p s m args meth c cX5_greatestPart 6 "WokenYears" D (tysC cI cR) 77 ad (some .int)) {a1 : Int32} {a2 : Int32} {k55 : Int32 → Option Int32} {σ : Sg} (r : Int32)  (hk55 : ∀ (u3 : Int32), k55 u3 = some r → Jd p l e (rmF 4 102) s m args below meth c D 77 ad (celC cI cR ad) okC 6 (MQ below (QI D (tysC cI cR) 77 ad (celC cI cR ad) okC r σ) args s 0 0 (inA 77 ad)) 55 [(3, .int u3)] [] σ) : ∀ (n : Nat) (x3 : Int32) (x4 : Int32), l_X5_greatestPart_5 a1 a2 σ k55 n x3 x4 = some r → Jd p l e (rmF 4 102) s m args below meth c D 77 ad (celC cI cR ad) okC 6 (MQ below (QI D (tysC cI cR) 77 ad (celC cI cR ad) okC r σ) args s 0 0 (inA 77 ad)) 5 [(0, .ref (ad 0)), (1, .int a1), (2, .int a2), (3, .int x3), (4, .int x4)] [] σ := by
  intro n
  induction n with
  | zero => intro x3 x4 h; cases h
  | succ n ih =>
    intro x3 x4 h
    unfold l_X5_greatestPart_5 at h
    refine J_iload (q := 7) C dX5_greatestPart_5 rfl 4 rfl ?_
    refine J_bipush (v := 6) (q := 9) C dX5_greatestPart_7 rfl rfl ?_
    refine J_icmp_ge (tgt := 55) (q := 12) C dX5_greatestPart_9 rfl (by decide) h (fun _ h => ?_) (fun _ h => ?_)
    · refine J_sub [3] rfl ?_
      exact hk55 _ h
    · refine J_iload_n (q := 13) C dX5_greatestPart_12 rfl rfl 1 rfl ?_
      refine J_iload (q := 15) C dX5_greatestPart_13 rfl 4 rfl ?_
      obtain ⟨r1, ec1, h⟩ := bnd_of h
      refine J_callIS (q := 18) (As := [.int a1, .int x4]) C (c_X5_holds hap  ec1) ok_X5_holds kM_X5_240 rfl rfl rfl ⟨Nat.le_of_ble_eq_true rfl, Nat.le_of_ble_eq_true rfl⟩ (Nat.le_of_ble_eq_true rfl) dX5_greatestPart_15 rfl ?_
      refine jn_elim h (fun k49 ek49 h => ?_)
      have hk49 : ∀ (u3_49 : Int32), k49 u3_49 = some r → Jd p l e (rmF 4 102) s m args below meth c D 77 ad (celC cI cR ad) okC 6 (MQ below (QI D (tysC cI cR) 77 ad (celC cI cR ad) okC r σ) args s 0 0 (inA 77 ad)) 49 [(0, .ref (ad 0)), (1, .int a1), (2, .int a2), (3, .int u3_49), (4, .int x4)] [] σ := by
        intro u3_49 h
        rw [ek49] at h
        refine jn_elim h (fun y2 ey2 h => ?_)
        refine J_iinc (v := y2) (q := 52) C dX5_greatestPart_49 rfl 4 rfl (by rw [ey2]; rfl) (by decide) rfl ?_
        refine J_goto (tgt := 5) C dX5_greatestPart_52 (by decide) ?_
        refine J_sub [1, 2, 3, 4, 0] rfl ?_
        exact ih _ _ h
      refine J_ifeq_b (tgt := 49) (q := 21) C dX5_greatestPart_18 rfl (by decide) h (fun _ h => ?_) (fun _ h => ?_)
      · refine J_iload (q := 23) C dX5_greatestPart_21 rfl 4 rfl ?_
        refine J_iload_n (q := 24) C dX5_greatestPart_23 rfl rfl 2 rfl ?_
        refine J_aload_n (q := 25) C dX5_greatestPart_24 rfl rfl 0 rfl ?_
        refine JC_g_X5_street (q := 28) C kF_X5_49 dX5_greatestPart_25 rfl (fun hs3 => ?_)
        refine JC_g_X4_frost (q := 31) C hs3 kF_X5_152 dX5_greatestPart_28 rfl ?_
        obtain ⟨r4, ec4, h⟩ := bnd_of h
        refine J_callIS (q := 34) (As := [.int x4, .int a2, .int (gS σ (16 * (gR σ 0) + 10))]) C (c_X5_tookOf hap  ec4) ok_X5_tookOf kM_X5_233 rfl rfl rfl ⟨Nat.le_of_ble_eq_true rfl, Nat.le_of_ble_eq_true rfl⟩ (Nat.le_of_ble_eq_true rfl) dX5_greatestPart_31 rfl ?_
        refine J_istore (q := 36) C dX5_greatestPart_34 rfl (by decide) rfl ?_
        refine J_iload_n (q := 37) C dX5_greatestPart_36 rfl rfl 4 rfl ?_
        refine J_aload_n (q := 38) C dX5_greatestPart_37 rfl rfl 1 rfl ?_
        refine J_iload_n (q := 39) C dX5_greatestPart_38 rfl rfl 2 rfl ?_
        refine J_iload_n (q := 40) C dX5_greatestPart_39 rfl rfl 3 rfl ?_
        refine J_iload (q := 42) C dX5_greatestPart_40 rfl 0 rfl ?_
        obtain ⟨r5, ec5, h⟩ := bnd_of h
        refine J_callIV (q := 45) (As := [.int a1, .int a2, .int r4]) C (c_X5_partOf hap  ec5) ok_X5_partOf kM_X5_243 (by decide) rfl rfl rfl rfl rfl rfl ⟨Nat.le_of_ble_eq_true rfl, Nat.le_of_ble_eq_true rfl⟩ (Nat.le_of_ble_eq_true rfl) dX5_greatestPart_42 rfl ?_
        refine J_mmax (q := 48) C kM_X5_79 kMath_max_s kMath_max_c (Nat.le_of_ble_eq_true rfl) (Nat.le_of_ble_eq_true rfl) dX5_greatestPart_45 rfl ?_
        refine J_nmi h (fun y6 ey6 h => ?_)
        refine J_istore_n (q := 49) C dX5_greatestPart_48 rfl rfl (by decide) rfl ?_
        refine J_sub [2, 3, 4, 0, 5] rfl ?_
        exact hk49 _ h
      · exact hk49 _ h
set_option maxHeartbeats 4000000 in
set_option maxRecDepth 100000 in
theorem c_X5_greatestPart {l : Launch} {D : va_G} {cI cR : ClassId} {ad : Nat → Nat} (hap : apN 77 ad) {i1 : Int32} {i2 : Int32} {σ : Sg} {r : Int32}  (h : f_X5_greatestPart i1 i2 σ = some r) : MI l D (tysC cI cR) 77 ad (celC cI cR ad) okC yX5_greatestPart cX5_greatestPart 6 .int 4 102 [.ref (ad 0), .int i1, .int i2] σ r σ := by
  unfold f_X5_greatestPart at h
  refine entI "WokenYears" hap (by decide +kernel) rfl (Nat.le_of_ble_eq_true rfl) (fun p e s m args below meth c C => ?_)
  refine J_sub (lv' := [(0, .ref (ad 0)), (1, .int i1), (2, .int i2)]) [0, 1, 2] rfl ?_
  refine J_iconst (v := 0 ) (q := 1) C dX5_greatestPart_0 rfl rfl ?_
  refine J_istore_n (q := 2) C dX5_greatestPart_1 rfl rfl (by decide) rfl ?_
  refine J_iconst (v := 0 ) (q := 3) C dX5_greatestPart_2 rfl rfl ?_
  refine J_istore (q := 5) C dX5_greatestPart_3 rfl (by decide) rfl ?_
  refine J_sub [2, 3, 4, 1, 0] rfl ?_
  refine cl_X5_greatestPart_5 hap C r  (fun v3_55 h => ?_) FU _ _ h
  · refine J_iload_n (q := 56) C dX5_greatestPart_55 rfl rfl 0 rfl ?_
    obtain rfl := Option.some.inj h
    exact J_iret C dX5_greatestPart_56
set_option maxHeartbeats 4000000 in
set_option maxRecDepth 100000 in
theorem cl_X5_whose_31 {p : Program} {l : Launch} {e : Env} {s : State} {m : MethodId} {args : Array Value} {below : List Frame} {meth : Method} {c : Code} {D : va_G} {cI cR : ClassId} {ad : Nat → Nat} (hap : apN 77 ad) (C : Cx p s m args meth c cX5_whose 6 "WokenYears" D (tysC cI cR) 77 ad (some .int)) {b2 : Nat} (hb2 : isI b2) {k78 : Int32 → Option (Int32 × Sg)} {σ : Sg} (r : Int32) (σo : Sg)  (hk78 : ∀ (u4 : Int32), k78 u4 = some (r, σo) → Jd p l e (rmF 5 117) s m args below meth c D 77 ad (celC cI cR ad) okC 6 (MQ below (QI D (tysC cI cR) 77 ad (celC cI cR ad) okC r σo) args s 0 0 (inA 77 ad)) 78 [(4, .int u4)] [] σ) : ∀ (n : Nat) (x4 : Int32) (x5 : Int32), l_X5_whose_31 b2 σ k78 n x4 x5 = some (r, σo) → Jd p l e (rmF 5 117) s m args below meth c D 77 ad (celC cI cR ad) okC 6 (MQ below (QI D (tysC cI cR) 77 ad (celC cI cR ad) okC r σo) args s 0 0 (inA 77 ad)) 31 [(0, .ref (ad 0)), (2, .ref (ad b2)), (4, .int x4), (5, .int x5)] [] σ := by
  intro n
  induction n with
  | zero => intro x4 x5 h; cases h
  | succ n ih =>
    intro x4 x5 h
    unfold l_X5_whose_31 at h
    refine J_iload (q := 33) C dX5_whose_31 rfl 3 rfl ?_
    refine J_aload_n (q := 34) C dX5_whose_33 rfl rfl 0 rfl ?_
    refine JC_g_X5_street (q := 37) C kF_X5_49 dX5_whose_34 rfl (fun hs4 => ?_)
    refine JC_g_X4_size (q := 40) C hs4 kF_X5_131 dX5_whose_37 rfl ?_
    refine J_icmp_ge (tgt := 78) (q := 43) C dX5_whose_40 rfl (by decide) h (fun _ h => ?_) (fun _ h => ?_)
    · refine J_sub [2] rfl ?_
      exact hk78 _ h
    · refine J_aload_n (q := 44) C dX5_whose_43 rfl rfl 0 rfl ?_
      refine J_aload_n (q := 45) C dX5_whose_44 rfl rfl 0 rfl ?_
      refine JC_g_X5_street (q := 48) C kF_X5_49 dX5_whose_45 rfl (fun hs5 => ?_)
      refine JC_g_X4_kinds (q := 51) C hs5 kF_X5_138 dX5_whose_48 rfl ?_
      refine J_iload (q := 53) C dX5_whose_51 rfl 3 rfl ?_
      obtain ⟨r6, ec6, h⟩ := bnd_of h
      refine J_callIV (q := 56) (As := [.int x5]) C (c_X0_get hap (isI_st hs5 0 (by decide)) ec6) ok_X0_get kM_X5_68 (lt77I (isI_st hs5 0 (by decide))) (celC_I (isI_st hs5 0 (by decide))) rfl rfl rfl rfl rfl ⟨Nat.le_of_ble_eq_true rfl, Nat.le_of_ble_eq_true rfl⟩ (Nat.le_of_ble_eq_true rfl) dX5_whose_53 rfl ?_
      refine J_aload_n (q := 57) C dX5_whose_56 rfl rfl 1 rfl ?_
      obtain ⟨r7, ec7, h⟩ := bnd_of h
      refine J_callIV (q := 60) (As := [.int r6, .ref (ad b2)]) C (c_X5_canBe hap hb2 ec7) ok_X5_canBe kM_X5_236 (by decide) rfl rfl rfl rfl rfl rfl ⟨Nat.le_of_ble_eq_true rfl, Nat.le_of_ble_eq_true rfl⟩ (Nat.le_of_ble_eq_true rfl) dX5_whose_57 rfl ?_
      refine jn_elim h (fun k72 ek72 h => ?_)
      have hk72 : ∀ (u4_72 : Int32), k72 u4_72 = some (r, σo) → Jd p l e (rmF 5 117) s m args below meth c D 77 ad (celC cI cR ad) okC 6 (MQ below (QI D (tysC cI cR) 77 ad (celC cI cR ad) okC r σo) args s 0 0 (inA 77 ad)) 72 [(0, .ref (ad 0)), (2, .ref (ad b2)), (4, .int u4_72), (5, .int x5)] [] σ := by
        intro u4_72 h
        rw [ek72] at h
        refine jn_elim h (fun y8 ey8 h => ?_)
        refine J_iinc (v := y8) (q := 75) C dX5_whose_72 rfl 3 rfl (by rw [ey8]; rfl) (by decide) rfl ?_
        refine J_goto (tgt := 31) C dX5_whose_75 (by decide) ?_
        refine J_sub [1, 2, 3, 0] rfl ?_
        exact ih _ _ h
      refine J_ifeq_b (tgt := 72) (q := 63) C dX5_whose_60 rfl (by decide) h (fun _ h => ?_) (fun _ h => ?_)
      · refine J_iload (q := 65) C dX5_whose_63 rfl 2 rfl ?_
        refine J_iconst (v := 1 ) (q := 66) C dX5_whose_65 rfl rfl ?_
        refine J_iload (q := 68) C dX5_whose_66 rfl 3 rfl ?_
        refine J_ishl (q := 69) C dX5_whose_68 rfl ?_
        refine J_ior (q := 70) C dX5_whose_69 rfl ?_
        refine J_nmi h (fun y9 ey9 h => ?_)
        refine J_istore (q := 72) C dX5_whose_70 rfl (by decide) rfl ?_
        refine J_sub [1, 2, 0, 3] rfl ?_
        exact hk72 _ h
      · exact hk72 _ h
set_option maxHeartbeats 4000000 in
set_option maxRecDepth 100000 in
theorem c_X5_whose {l : Launch} {D : va_G} {cI cR : ClassId} {ad : Nat → Nat} (hap : apN 77 ad) {i1 : Int32} {σ : Sg} {r : Int32} {σo : Sg}  (h : f_X5_whose i1 σ = some (r, σo)) : MI l D (tysC cI cR) 77 ad (celC cI cR ad) okC yX5_whose cX5_whose 6 .int 5 117 [.ref (ad 0), .int i1] σ r σo := by
  unfold f_X5_whose at h
  refine entI "WokenYears" hap (by decide +kernel) rfl (Nat.le_of_ble_eq_true rfl) (fun p e s m args below meth c C => ?_)
  refine J_sub (lv' := [(0, .ref (ad 0)), (1, .int i1)]) [0, 1] rfl ?_
  refine J_aload_n (q := 1) C dX5_whose_0 rfl rfl 0 rfl ?_
  refine JC_g_X5_rows (q := 4) C kF_X5_13 dX5_whose_1 rfl ?_
  refine J_iload_n (q := 5) C dX5_whose_4 rfl rfl 1 rfl ?_
  obtain ⟨r1, ec1, h⟩ := bnd_of h
  refine J_callRS (q := 8) (As := [.ref (ad 71), .int i1]) C (c_X5_pick hap isRA_71 ec1) ok_X5_pick kM_X5_99 rfl rfl rfl ⟨Nat.le_of_ble_eq_true rfl, Nat.le_of_ble_eq_true rfl⟩ (Nat.le_of_ble_eq_true rfl) dX5_whose_5 rfl ?_
  cases r1 with
  | none =>
    have h := oc_none h
    refine J_st (st' := [.null]) rfl ?_
    refine J_astore_nN (q := 9) C dX5_whose_8 rfl rfl (by decide) rfl ?_
    refine J_aload_n (q := 10) C dX5_whose_9 rfl rfl 1 rfl ?_
    refine J_aload_nN (q := 11) C dX5_whose_10 rfl rfl 0 rfl ?_
    obtain ⟨r2, σ2, ec2, h⟩ := bnd2_of h
    refine J_callIV (q := 14) (As := [.null]) C (c_X5_refusedPairs hap noneI ec2) ok_X5_refusedPairs kM_X5_246 (by decide) rfl rfl rfl rfl rfl rfl ⟨Nat.le_of_ble_eq_true rfl, Nat.le_of_ble_eq_true rfl⟩ (Nat.le_of_ble_eq_true rfl) dX5_whose_11 rfl ?_
    refine J_istore_n (q := 15) C dX5_whose_14 rfl rfl (by decide) rfl ?_
    refine J_aload_nN (q := 16) C dX5_whose_15 rfl rfl 1 rfl ?_
    refine J_ifnullN (tgt := 23) C dX5_whose_16 (by decide) ?_
    refine J_iload_n (q := 24) C dX5_whose_23 rfl rfl 0 rfl ?_
    obtain ⟨rfl, rfl⟩ := Prod.mk.inj (Option.some.inj h)
    exact J_iret C dX5_whose_24
  | some g1 =>
    have h := oc_some h
    have ho1 := X5_pick_isI isRA_71 ec1
    refine J_st (st' := [.ref (ad g1)]) rfl ?_
    refine J_astore_n (q := 9) C dX5_whose_8 rfl rfl (by decide) rfl ?_
    refine J_aload_n (q := 10) C dX5_whose_9 rfl rfl 1 rfl ?_
    refine J_aload_n (q := 11) C dX5_whose_10 rfl rfl 0 rfl ?_
    obtain ⟨r3, σ3, ec3, h⟩ := bnd2_of h
    refine J_callIV (q := 14) (As := [.ref (ad g1)]) C (c_X5_refusedPairs hap (someI ho1) ec3) ok_X5_refusedPairs kM_X5_246 (by decide) rfl rfl rfl rfl rfl rfl ⟨Nat.le_of_ble_eq_true rfl, Nat.le_of_ble_eq_true rfl⟩ (Nat.le_of_ble_eq_true rfl) dX5_whose_11 rfl ?_
    refine J_istore_n (q := 15) C dX5_whose_14 rfl rfl (by decide) rfl ?_
    refine J_aload_n (q := 16) C dX5_whose_15 rfl rfl 1 rfl ?_
    refine J_ifnull (q := 19) C dX5_whose_16 rfl ?_
    refine J_iload_n (q := 20) C dX5_whose_19 rfl rfl 0 rfl ?_
    refine J_if_eq (tgt := 25) (q := 23) C dX5_whose_20 rfl (by decide) h (fun _ h => ?_) (fun _ h => ?_)
    · refine J_iconst (v := 0 ) (q := 26) C dX5_whose_25 rfl rfl ?_
      refine J_istore (q := 28) C dX5_whose_26 rfl (by decide) rfl ?_
      refine J_iconst (v := 0 ) (q := 29) C dX5_whose_28 rfl rfl ?_
      refine J_istore (q := 31) C dX5_whose_29 rfl (by decide) rfl ?_
      refine J_sub [4, 3, 1, 0] rfl ?_
      refine cl_X5_whose_31 hap C ho1 r σo  (fun v4_78 h => ?_) FU _ _ h
      · refine J_iload (q := 80) C dX5_whose_78 rfl 0 rfl ?_
        obtain ⟨rfl, rfl⟩ := Prod.mk.inj (Option.some.inj h)
        exact J_iret C dX5_whose_80
    · refine J_iload_n (q := 24) C dX5_whose_23 rfl rfl 0 rfl ?_
      obtain ⟨rfl, rfl⟩ := Prod.mk.inj (Option.some.inj h)
      exact J_iret C dX5_whose_24
set_option maxHeartbeats 4000000 in
set_option maxRecDepth 100000 in
theorem c_X5_kinds {l : Launch} {D : va_G} {cI cR : ClassId} {ad : Nat → Nat} (hap : apN 77 ad) {i1 : Int32} {σ : Sg} {r : Int32} {σo : Sg}  (h : f_X5_kinds i1 σ = some (r, σo)) : MI l D (tysC cI cR) 77 ad (celC cI cR ad) okC yX5_kinds cX5_kinds 4 .int 5 123 [.ref (ad 0), .int i1] σ r σo := by
  unfold f_X5_kinds at h
  refine entI "WokenYears" hap (by decide +kernel) rfl (Nat.le_of_ble_eq_true rfl) (fun p e s m args below meth c C => ?_)
  refine J_sub (lv' := [(0, .ref (ad 0)), (1, .int i1)]) [0, 1] rfl ?_
  refine J_aload_n (q := 1) C dX5_kinds_0 rfl rfl 0 rfl ?_
  refine JC_g_X5_rows (q := 4) C kF_X5_13 dX5_kinds_1 rfl ?_
  refine J_iload_n (q := 5) C dX5_kinds_4 rfl rfl 1 rfl ?_
  obtain ⟨r1, ec1, h⟩ := bnd_of h
  refine J_callRS (q := 8) (As := [.ref (ad 71), .int i1]) C (c_X5_pick hap isRA_71 ec1) ok_X5_pick kM_X5_99 rfl rfl rfl ⟨Nat.le_of_ble_eq_true rfl, Nat.le_of_ble_eq_true rfl⟩ (Nat.le_of_ble_eq_true rfl) dX5_kinds_5 rfl ?_
  cases r1 with
  | none =>
    have h := oc_none h
    refine J_st (st' := [.null]) rfl ?_
    refine J_astore_nN (q := 9) C dX5_kinds_8 rfl rfl (by decide) rfl ?_
    refine J_aload_n (q := 10) C dX5_kinds_9 rfl rfl 1 rfl ?_
    refine J_aload_nN (q := 11) C dX5_kinds_10 rfl rfl 0 rfl ?_
    obtain ⟨r2, σ2, ec2, h⟩ := bnd2_of h
    refine J_callIV (q := 14) (As := [.null]) C (c_X5_refusedPairs hap noneI ec2) ok_X5_refusedPairs kM_X5_246 (by decide) rfl rfl rfl rfl rfl rfl ⟨Nat.le_of_ble_eq_true rfl, Nat.le_of_ble_eq_true rfl⟩ (Nat.le_of_ble_eq_true rfl) dX5_kinds_11 rfl ?_
    refine J_istore_n (q := 15) C dX5_kinds_14 rfl rfl (by decide) rfl ?_
    refine J_aload_nN (q := 16) C dX5_kinds_15 rfl rfl 1 rfl ?_
    refine J_ifnullN (tgt := 23) C dX5_kinds_16 (by decide) ?_
    refine J_iload_n (q := 24) C dX5_kinds_23 rfl rfl 0 rfl ?_
    obtain ⟨rfl, rfl⟩ := Prod.mk.inj (Option.some.inj h)
    exact J_iret C dX5_kinds_24
  | some g1 =>
    have h := oc_some h
    have ho1 := X5_pick_isI isRA_71 ec1
    refine J_st (st' := [.ref (ad g1)]) rfl ?_
    refine J_astore_n (q := 9) C dX5_kinds_8 rfl rfl (by decide) rfl ?_
    refine J_aload_n (q := 10) C dX5_kinds_9 rfl rfl 1 rfl ?_
    refine J_aload_n (q := 11) C dX5_kinds_10 rfl rfl 0 rfl ?_
    obtain ⟨r3, σ3, ec3, h⟩ := bnd2_of h
    refine J_callIV (q := 14) (As := [.ref (ad g1)]) C (c_X5_refusedPairs hap (someI ho1) ec3) ok_X5_refusedPairs kM_X5_246 (by decide) rfl rfl rfl rfl rfl rfl ⟨Nat.le_of_ble_eq_true rfl, Nat.le_of_ble_eq_true rfl⟩ (Nat.le_of_ble_eq_true rfl) dX5_kinds_11 rfl ?_
    refine J_istore_n (q := 15) C dX5_kinds_14 rfl rfl (by decide) rfl ?_
    refine J_aload_n (q := 16) C dX5_kinds_15 rfl rfl 1 rfl ?_
    refine J_ifnull (q := 19) C dX5_kinds_16 rfl ?_
    refine J_iload_n (q := 20) C dX5_kinds_19 rfl rfl 0 rfl ?_
    refine J_if_eq (tgt := 25) (q := 23) C dX5_kinds_20 rfl (by decide) h (fun _ h => ?_) (fun _ h => ?_)
    · refine J_aload_n (q := 26) C dX5_kinds_25 rfl rfl 2 rfl ?_
      refine J_aload_n (q := 27) C dX5_kinds_26 rfl rfl 1 rfl ?_
      obtain ⟨r4, ec4, h⟩ := bnd_of h
      refine J_callIV (q := 30) (As := [.ref (ad g1)]) C (c_X5_kindsBy hap ho1 ec4) ok_X5_kindsBy kM_X5_249 (by decide) rfl rfl rfl rfl rfl rfl ⟨Nat.le_of_ble_eq_true rfl, Nat.le_of_ble_eq_true rfl⟩ (Nat.le_of_ble_eq_true rfl) dX5_kinds_27 rfl ?_
      obtain ⟨rfl, rfl⟩ := Prod.mk.inj (Option.some.inj h)
      exact J_iret C dX5_kinds_30
    · refine J_iload_n (q := 24) C dX5_kinds_23 rfl rfl 0 rfl ?_
      obtain ⟨rfl, rfl⟩ := Prod.mk.inj (Option.some.inj h)
      exact J_iret C dX5_kinds_24
set_option maxHeartbeats 4000000 in
set_option maxRecDepth 100000 in
theorem cl_X5_test_55 {p : Program} {l : Launch} {e : Env} {s : State} {m : MethodId} {args : Array Value} {below : List Frame} {meth : Method} {c : Code} {D : va_G} {cI cR : ClassId} {ad : Nat → Nat} (hap : apN 77 ad) (C : Cx p s m args meth c cX5_test 9 "WokenYears" D (tysC cI cR) 77 ad (some .int)) {a4 : Int32} {k93 : Int32 → Int32 → Option (Int32 × Sg)} {σ : Sg} (r : Int32) (σo : Sg)  (hk93 : ∀ (u5 : Int32) (u6 : Int32), k93 u5 u6 = some (r, σo) → Jd p l e (rmF 5 127) s m args below meth c D 77 ad (celC cI cR ad) okC 9 (MQ below (QI D (tysC cI cR) 77 ad (celC cI cR ad) okC r σo) args s 0 0 (inA 77 ad)) 93 [(0, .ref (ad 0)), (5, .int u5), (6, .int u6)] [] σ) : ∀ (n : Nat) (x5 : Int32) (x6 : Int32) (x7 : Int32), l_X5_test_55 a4 σ k93 n x5 x6 x7 = some (r, σo) → Jd p l e (rmF 5 127) s m args below meth c D 77 ad (celC cI cR ad) okC 9 (MQ below (QI D (tysC cI cR) 77 ad (celC cI cR ad) okC r σo) args s 0 0 (inA 77 ad)) 55 [(0, .ref (ad 0)), (4, .int a4), (5, .int x5), (6, .int x6), (7, .int x7)] [] σ := by
  intro n
  induction n with
  | zero => intro x5 x6 x7 h; cases h
  | succ n ih =>
    intro x5 x6 x7 h
    unfold l_X5_test_55 at h
    refine J_iload (q := 57) C dX5_test_55 rfl 4 rfl ?_
    refine J_bipush (v := 99) (q := 59) C dX5_test_57 rfl rfl ?_
    refine J_icmp_gt (tgt := 93) (q := 62) C dX5_test_59 rfl (by decide) h (fun _ h => ?_) (fun _ h => ?_)
    · refine J_sub [0, 2, 3] rfl ?_
      exact hk93 _ _ h
    · refine J_aload_n (q := 63) C dX5_test_62 rfl rfl 0 rfl ?_
      refine J_iload (q := 65) C dX5_test_63 rfl 1 rfl ?_
      refine J_iload (q := 67) C dX5_test_65 rfl 4 rfl ?_
      obtain ⟨r6, ec6, h⟩ := bnd_of h
      refine J_callIV (q := 70) (As := [.int a4, .int x7]) C (c_X5_greatestPart hap  ec6) ok_X5_greatestPart kM_X5_252 (by decide) rfl rfl rfl rfl rfl rfl ⟨Nat.le_of_ble_eq_true rfl, Nat.le_of_ble_eq_true rfl⟩ (Nat.le_of_ble_eq_true rfl) dX5_test_67 rfl ?_
      refine J_istore (q := 72) C dX5_test_70 rfl (by decide) rfl ?_
      refine J_iload (q := 74) C dX5_test_72 rfl 0 rfl ?_
      refine J_iload (q := 76) C dX5_test_74 rfl 4 rfl ?_
      refine jn_elim h (fun k87 ek87 h => ?_)
      have hk87 : ∀ (u5_87 : Int32) (u6_87 : Int32), k87 u5_87 u6_87 = some (r, σo) → Jd p l e (rmF 5 127) s m args below meth c D 77 ad (celC cI cR ad) okC 9 (MQ below (QI D (tysC cI cR) 77 ad (celC cI cR ad) okC r σo) args s 0 0 (inA 77 ad)) 87 [(0, .ref (ad 0)), (4, .int a4), (5, .int u5_87), (6, .int u6_87), (7, .int x7)] [] σ := by
        intro u5_87 u6_87 h
        rw [ek87] at h
        refine jn_elim h (fun y7 ey7 h => ?_)
        refine J_iinc (v := y7) (q := 90) C dX5_test_87 rfl 4 rfl (by rw [ey7]; rfl) (by decide) rfl ?_
        refine J_goto (tgt := 55) C dX5_test_90 (by decide) ?_
        refine J_sub [1, 2, 3, 4, 0] rfl ?_
        exact ih _ _ _ h
      refine J_icmp_ge (tgt := 87) (q := 79) C dX5_test_76 rfl (by decide) h (fun _ h => ?_) (fun _ h => ?_)
      · refine J_sub [1, 2, 3, 4, 5] rfl ?_
        exact hk87 _ _ h
      · refine J_iload (q := 81) C dX5_test_79 rfl 0 rfl ?_
        refine J_istore (q := 83) C dX5_test_81 rfl (by decide) rfl ?_
        refine J_iload (q := 85) C dX5_test_83 rfl 5 rfl ?_
        refine J_istore (q := 87) C dX5_test_85 rfl (by decide) rfl ?_
        refine J_sub [3, 4, 0, 1, 5] rfl ?_
        exact hk87 _ _ h
set_option maxHeartbeats 4000000 in
set_option maxRecDepth 100000 in
theorem c_X5_test {l : Launch} {D : va_G} {cI cR : ClassId} {ad : Nat → Nat} (hap : apN 77 ad) {i1 : Int32} {σ : Sg} {r : Int32} {σo : Sg}  (h : f_X5_test i1 σ = some (r, σo)) : MI l D (tysC cI cR) 77 ad (celC cI cR ad) okC yX5_test cX5_test 9 .int 5 127 [.ref (ad 0), .int i1] σ r σo := by
  unfold f_X5_test at h
  refine entI "WokenYears" hap (by decide +kernel) rfl (Nat.le_of_ble_eq_true rfl) (fun p e s m args below meth c C => ?_)
  refine J_sub (lv' := [(0, .ref (ad 0)), (1, .int i1)]) [0, 1] rfl ?_
  refine J_aload_n (q := 1) C dX5_test_0 rfl rfl 0 rfl ?_
  refine JC_g_X5_rows (q := 4) C kF_X5_13 dX5_test_1 rfl ?_
  refine J_iload_n (q := 5) C dX5_test_4 rfl rfl 1 rfl ?_
  obtain ⟨r1, ec1, h⟩ := bnd_of h
  refine J_callRS (q := 8) (As := [.ref (ad 71), .int i1]) C (c_X5_pick hap isRA_71 ec1) ok_X5_pick kM_X5_99 rfl rfl rfl ⟨Nat.le_of_ble_eq_true rfl, Nat.le_of_ble_eq_true rfl⟩ (Nat.le_of_ble_eq_true rfl) dX5_test_5 rfl ?_
  cases r1 with
  | none =>
    have h := oc_none h
    refine J_st (st' := [.null]) rfl ?_
    refine J_astore_nN (q := 9) C dX5_test_8 rfl rfl (by decide) rfl ?_
    refine J_aload_n (q := 10) C dX5_test_9 rfl rfl 1 rfl ?_
    refine J_aload_nN (q := 11) C dX5_test_10 rfl rfl 0 rfl ?_
    obtain ⟨r2, σ2, ec2, h⟩ := bnd2_of h
    refine J_callIV (q := 14) (As := [.null]) C (c_X5_refusedPairs hap noneI ec2) ok_X5_refusedPairs kM_X5_246 (by decide) rfl rfl rfl rfl rfl rfl ⟨Nat.le_of_ble_eq_true rfl, Nat.le_of_ble_eq_true rfl⟩ (Nat.le_of_ble_eq_true rfl) dX5_test_11 rfl ?_
    refine J_istore_n (q := 15) C dX5_test_14 rfl rfl (by decide) rfl ?_
    refine J_aload_nN (q := 16) C dX5_test_15 rfl rfl 1 rfl ?_
    refine J_ifnullN (tgt := 23) C dX5_test_16 (by decide) ?_
    refine J_iload_n (q := 24) C dX5_test_23 rfl rfl 0 rfl ?_
    obtain ⟨rfl, rfl⟩ := Prod.mk.inj (Option.some.inj h)
    exact J_iret C dX5_test_24
  | some g1 =>
    have h := oc_some h
    have ho1 := X5_pick_isI isRA_71 ec1
    refine J_st (st' := [.ref (ad g1)]) rfl ?_
    refine J_astore_n (q := 9) C dX5_test_8 rfl rfl (by decide) rfl ?_
    refine J_aload_n (q := 10) C dX5_test_9 rfl rfl 1 rfl ?_
    refine J_aload_n (q := 11) C dX5_test_10 rfl rfl 0 rfl ?_
    obtain ⟨r3, σ3, ec3, h⟩ := bnd2_of h
    refine J_callIV (q := 14) (As := [.ref (ad g1)]) C (c_X5_refusedPairs hap (someI ho1) ec3) ok_X5_refusedPairs kM_X5_246 (by decide) rfl rfl rfl rfl rfl rfl ⟨Nat.le_of_ble_eq_true rfl, Nat.le_of_ble_eq_true rfl⟩ (Nat.le_of_ble_eq_true rfl) dX5_test_11 rfl ?_
    refine J_istore_n (q := 15) C dX5_test_14 rfl rfl (by decide) rfl ?_
    refine J_aload_n (q := 16) C dX5_test_15 rfl rfl 1 rfl ?_
    refine J_ifnull (q := 19) C dX5_test_16 rfl ?_
    refine J_iload_n (q := 20) C dX5_test_19 rfl rfl 0 rfl ?_
    refine J_if_eq (tgt := 25) (q := 23) C dX5_test_20 rfl (by decide) h (fun _ h => ?_) (fun _ h => ?_)
    · refine J_aload_n (q := 26) C dX5_test_25 rfl rfl 2 rfl ?_
      refine J_aload_n (q := 27) C dX5_test_26 rfl rfl 1 rfl ?_
      obtain ⟨r4, ec4, h⟩ := bnd_of h
      refine J_callIV (q := 30) (As := [.ref (ad g1)]) C (c_X5_kindsBy hap ho1 ec4) ok_X5_kindsBy kM_X5_249 (by decide) rfl rfl rfl rfl rfl rfl ⟨Nat.le_of_ble_eq_true rfl, Nat.le_of_ble_eq_true rfl⟩ (Nat.le_of_ble_eq_true rfl) dX5_test_27 rfl ?_
      refine J_istore (q := 32) C dX5_test_30 rfl (by decide) rfl ?_
      refine J_iload (q := 34) C dX5_test_32 rfl 0 rfl ?_
      refine J_if_ne (tgt := 40) (q := 37) C dX5_test_34 rfl (by decide) h (fun _ h => ?_) (fun _ h => ?_)
      · refine J_bipush (v := -9) (q := 39) C dX5_test_37 rfl rfl ?_
        obtain ⟨rfl, rfl⟩ := Prod.mk.inj (Option.some.inj h)
        exact J_iret C dX5_test_39
      · refine J_iconst (v := 0 ) (q := 41) C dX5_test_40 rfl rfl ?_
        refine J_istore (q := 43) C dX5_test_41 rfl (by decide) rfl ?_
        refine J_aload_n (q := 44) C dX5_test_43 rfl rfl 4 rfl ?_
        refine J_iload (q := 46) C dX5_test_44 rfl 1 rfl ?_
        refine J_iconst (v := 0 ) (q := 47) C dX5_test_46 rfl rfl ?_
        obtain ⟨r5, ec5, h⟩ := bnd_of h
        refine J_callIV (q := 50) (As := [.int r4, .int (0 : Int32)]) C (c_X5_greatestPart hap  ec5) ok_X5_greatestPart kM_X5_252 (by decide) rfl rfl rfl rfl rfl rfl ⟨Nat.le_of_ble_eq_true rfl, Nat.le_of_ble_eq_true rfl⟩ (Nat.le_of_ble_eq_true rfl) dX5_test_47 rfl ?_
        refine J_istore (q := 52) C dX5_test_50 rfl (by decide) rfl ?_
        refine J_iconst (v := 1 ) (q := 53) C dX5_test_52 rfl rfl ?_
        refine J_istore (q := 55) C dX5_test_53 rfl (by decide) rfl ?_
        refine J_sub [6, 3, 2, 1, 0] rfl ?_
        refine cl_X5_test_55 hap C r σo  (fun v5_93 v6_93 h => ?_) FU _ _ _ h
        · refine J_aload_n (q := 94) C dX5_test_93 rfl rfl 0 rfl ?_
          refine J_iload (q := 96) C dX5_test_94 rfl 2 rfl ?_
          refine JC_p_X5_asked (q := 99) C kF_X5_107 dX5_test_96 rfl ?_
          refine jn_elim h (fun σ8 eσ8 h => ?_)
          rw [← eσ8]
          refine J_iload (q := 101) C dX5_test_99 rfl 1 rfl ?_
          obtain ⟨rfl, rfl⟩ := Prod.mk.inj (Option.some.inj h)
          exact J_iret C dX5_test_101
    · refine J_iload_n (q := 24) C dX5_test_23 rfl rfl 0 rfl ?_
      obtain ⟨rfl, rfl⟩ := Prod.mk.inj (Option.some.inj h)
      exact J_iret C dX5_test_24
set_option maxHeartbeats 4000000 in
set_option maxRecDepth 100000 in
theorem cl_X5_divisor_3 {p : Program} {l : Launch} {e : Env} {s : State} {m : MethodId} {args : Array Value} {below : List Frame} {meth : Method} {c : Code} {D : va_G} {cI cR : ClassId} {ad : Nat → Nat} (hap : apN 77 ad) (C : Cx p s m args meth c cX5_divisor 7 "WokenYears" D (tysC cI cR) 77 ad (some .long)) {k32 : Int64 → Option Int64} {σ : Sg} (r : Int64)  (hk32 : ∀ (u0 : Int64), k32 u0 = some r → Jd p l e (rmF 1 30) s m args below meth c D 77 ad (celC cI cR ad) okC 7 (MQ below (QL D (tysC cI cR) 77 ad (celC cI cR ad) okC r σ) args s 0 0 (inA 77 ad)) 32 [(0, .long u0)] [] σ) : ∀ (n : Nat) (x0 : Int64) (x2 : Int64) (x4 : Int32), l_X5_divisor_3 k32 n x0 x2 x4 = some r → Jd p l e (rmF 1 30) s m args below meth c D 77 ad (celC cI cR ad) okC 7 (MQ below (QL D (tysC cI cR) 77 ad (celC cI cR ad) okC r σ) args s 0 0 (inA 77 ad)) 3 [(0, .long x0), (2, .long x2), (4, .int x4)] [] σ := by
  intro n
  induction n with
  | zero => intro x0 x2 x4 h; cases h
  | succ n ih =>
    intro x0 x2 x4 h
    unfold l_X5_divisor_3 at h
    refine J_iload (q := 5) C dX5_divisor_3 rfl 2 rfl ?_
    refine J_bipush (v := 100) (q := 7) C dX5_divisor_5 rfl rfl ?_
    refine J_icmp_ge (tgt := 32) (q := 10) C dX5_divisor_7 rfl (by decide) h (fun _ h => ?_) (fun _ h => ?_)
    · refine J_sub [0] rfl ?_
      exact hk32 _ h
    · refine J_lload_n (q := 11) C dX5_divisor_10 rfl rfl 1 rfl ?_
      refine J_lconst (v := 0) (q := 12) C dX5_divisor_11 rfl rfl ?_
      refine J_lcmp (q := 13) C dX5_divisor_12 rfl ?_
      refine J_if_eq (tgt := 32) (q := 16) C dX5_divisor_13 rfl (by decide) h (fun _ h => ?_) (fun _ h => ?_)
      · refine J_sub [0] rfl ?_
        exact hk32 _ h
      · refine J_lload_n (q := 17) C dX5_divisor_16 rfl rfl 0 rfl ?_
        refine J_lload_n (q := 18) C dX5_divisor_17 rfl rfl 1 rfl ?_
        obtain ⟨nz, h⟩ := ckn_of h
        refine J_lrem (q := 19) C dX5_divisor_18 rfl nz ?_
        refine J_nml h (fun y1 ey1 h => ?_)
        refine J_lstore (q := 21) C dX5_divisor_19 rfl (by decide) rfl ?_
        refine J_lload_n (q := 22) C dX5_divisor_21 rfl rfl 2 rfl ?_
        refine J_lstore_n (q := 23) C dX5_divisor_22 rfl rfl (by decide) rfl ?_
        refine J_lload (q := 25) C dX5_divisor_23 rfl 1 rfl ?_
        refine J_lstore_n (q := 26) C dX5_divisor_25 rfl rfl (by decide) rfl ?_
        refine jn_elim h (fun y2 ey2 h => ?_)
        refine J_iinc (v := y2) (q := 29) C dX5_divisor_26 rfl 3 rfl (by rw [ey2]; rfl) (by decide) rfl ?_
        refine J_goto (tgt := 3) C dX5_divisor_29 (by decide) ?_
        refine J_sub [2, 1, 0] rfl ?_
        exact ih _ _ _ h
set_option maxHeartbeats 4000000 in
set_option maxRecDepth 100000 in
theorem c_X5_divisor {l : Launch} {D : va_G} {cI cR : ClassId} {ad : Nat → Nat} (hap : apN 77 ad) {l0 : Int64} {l2 : Int64} {σ : Sg} {r : Int64}  (h : f_X5_divisor l0 l2 = some r) : ML l D (tysC cI cR) 77 ad (celC cI cR ad) okC yX5_divisor cX5_divisor 7 1 30 [.long l0, .long l2] σ r σ := by
  unfold f_X5_divisor at h
  refine entL "WokenYears" hap (by decide +kernel) rfl (Nat.le_of_ble_eq_true rfl) (fun p e s m args below meth c C => ?_)
  refine J_sub (lv' := [(0, .long l0), (2, .long l2)]) [0, 1] rfl ?_
  refine J_iconst (v := 0 ) (q := 1) C dX5_divisor_0 rfl rfl ?_
  refine J_istore (q := 3) C dX5_divisor_1 rfl (by decide) rfl ?_
  refine J_sub [1, 2, 0] rfl ?_
  refine cl_X5_divisor_3 hap C r  (fun v0_32 h => ?_) FU _ _ _ h
  · refine J_lload_n (q := 33) C dX5_divisor_32 rfl rfl 0 rfl ?_
    obtain rfl := Option.some.inj h
    exact J_lret C dX5_divisor_33
set_option maxHeartbeats 4000000 in
set_option maxRecDepth 100000 in
theorem c_X5_tellRatio {l : Launch} {D : va_G} {cI cR : ClassId} {ad : Nat → Nat} (hap : apN 77 ad) {l1 : Int64} {l3 : Int64} {σ : Sg} {σo : Sg}  (h : f_X5_tellRatio l1 l3 σ = some σo) : MV l D (tysC cI cR) 77 ad (celC cI cR ad) okC yX5_tellRatio cX5_tellRatio 7 2 56 [.ref (ad 0), .long l1, .long l3] σ σo := by
  unfold f_X5_tellRatio at h
  refine entV "WokenYears" hap (by decide +kernel) rfl (Nat.le_of_ble_eq_true rfl) (fun p e s m args below meth c C => ?_)
  refine J_sub (lv' := [(0, .ref (ad 0)), (1, .long l1), (3, .long l3)]) [0, 1, 2] rfl ?_
  refine J_lload_n (q := 1) C dX5_tellRatio_0 rfl rfl 1 rfl ?_
  refine J_lload_n (q := 2) C dX5_tellRatio_1 rfl rfl 2 rfl ?_
  obtain ⟨r1, ec1, h⟩ := bnd_of h
  refine J_callLS (q := 5) (As := [.long l1, .long l3]) C (c_X5_divisor hap  ec1) ok_X5_divisor kM_X5_273 rfl rfl rfl ⟨Nat.le_of_ble_eq_true rfl, Nat.le_of_ble_eq_true rfl⟩ (Nat.le_of_ble_eq_true rfl) dX5_tellRatio_2 rfl ?_
  refine J_lstore (q := 7) C dX5_tellRatio_5 rfl (by decide) rfl ?_
  refine J_aload_n (q := 8) C dX5_tellRatio_7 rfl rfl 1 rfl ?_
  refine J_lload (q := 10) C dX5_tellRatio_8 rfl 0 rfl ?_
  refine J_lconst (v := 0) (q := 11) C dX5_tellRatio_10 rfl rfl ?_
  refine J_lcmp (q := 12) C dX5_tellRatio_11 rfl ?_
  refine jn_elim h (fun k23 ek23 h => ?_)
  have hk23 : ∀ (t0_23 : Int64), k23 t0_23 = some σo → Jd p l e (rmF 2 56) s m args below meth c D 77 ad (celC cI cR ad) okC 7 (MQ below (QV D (tysC cI cR) 77 ad (celC cI cR ad) okC σo) args s 0 0 (inA 77 ad)) 23 [(0, .ref (ad 0)), (3, .long l3), (5, .long r1)] [.long t0_23, .ref (ad 0)] σ := by
    intro t0_23 h
    rw [ek23] at h
    refine JC_p_X5_upper (q := 26) C kF_X5_277 dX5_tellRatio_23 rfl ?_
    refine jn_elim h (fun σ2 eσ2 h => ?_)
    rw [← eσ2]
    refine J_aload_n (q := 27) C dX5_tellRatio_26 rfl rfl 0 rfl ?_
    refine J_lload (q := 29) C dX5_tellRatio_27 rfl 2 rfl ?_
    refine J_lconst (v := 0) (q := 30) C dX5_tellRatio_29 rfl rfl ?_
    refine J_lcmp (q := 31) C dX5_tellRatio_30 rfl ?_
    refine J_if_le (tgt := 41) (q := 34) C dX5_tellRatio_31 rfl (by decide) h (fun _ h => ?_) (fun _ h => ?_)
    · refine J_lload_n (q := 42) C dX5_tellRatio_41 rfl rfl 1 rfl ?_
      refine JC_p_X5_lower (q := 45) C kF_X5_56 dX5_tellRatio_42 rfl ?_
      refine jn_elim h (fun σ3 eσ3 h => ?_)
      rw [← eσ3]
      obtain rfl := Option.some.inj h
      exact J_vret C dX5_tellRatio_45
    · refine J_lload_n (q := 35) C dX5_tellRatio_34 rfl rfl 1 rfl ?_
      refine J_lload (q := 37) C dX5_tellRatio_35 rfl 2 rfl ?_
      obtain ⟨nz, h⟩ := ckn_of h
      refine J_ldiv (q := 38) C dX5_tellRatio_37 rfl nz ?_
      refine J_goto (tgt := 42) C dX5_tellRatio_38 (by decide) ?_
      refine JC_p_X5_lower (q := 45) C kF_X5_56 dX5_tellRatio_42 rfl ?_
      refine jn_elim h (fun σ4 eσ4 h => ?_)
      rw [← eσ4]
      obtain rfl := Option.some.inj h
      exact J_vret C dX5_tellRatio_45
  refine J_if_le (tgt := 22) (q := 15) C dX5_tellRatio_12 rfl (by decide) h (fun _ h => ?_) (fun _ h => ?_)
  · refine J_lload_n (q := 23) C dX5_tellRatio_22 rfl rfl 2 rfl ?_
    refine J_sub [1, 3, 0] rfl ?_
    exact hk23 _ h
  · refine J_lload_n (q := 16) C dX5_tellRatio_15 rfl rfl 2 rfl ?_
    refine J_lload (q := 18) C dX5_tellRatio_16 rfl 0 rfl ?_
    obtain ⟨nz, h⟩ := ckn_of h
    refine J_ldiv (q := 19) C dX5_tellRatio_18 rfl nz ?_
    refine J_goto (tgt := 23) C dX5_tellRatio_19 (by decide) ?_
    refine J_sub [1, 3, 0] rfl ?_
    exact hk23 _ h
set_option maxHeartbeats 4000000 in
set_option maxRecDepth 100000 in
theorem cl_X5_sets_33 {p : Program} {l : Launch} {e : Env} {s : State} {m : MethodId} {args : Array Value} {below : List Frame} {meth : Method} {c : Code} {D : va_G} {cI cR : ClassId} {ad : Nat → Nat} (hap : apN 77 ad) (C : Cx p s m args meth c cX5_sets 5 "WokenYears" D (tysC cI cR) 77 ad (some .int)) {a1 : Int32} {k80 : Int32 → Int32 → Option (Int32 × Sg)} {σ : Sg} (r : Int32) (σo : Sg)  (hk80 : ∀ (u2 : Int32) (u3 : Int32), k80 u2 u3 = some (r, σo) → Jd p l e (rmF 4 95) s m args below meth c D 77 ad (celC cI cR ad) okC 5 (MQ below (QI D (tysC cI cR) 77 ad (celC cI cR ad) okC r σo) args s 0 0 (inA 77 ad)) 80 [(0, .ref (ad 0)), (2, .int u2), (3, .int u3)] [] σ) : ∀ (n : Nat) (x2 : Int32) (x3 : Int32) (x4 : Int32), l_X5_sets_33 a1 σ k80 n x2 x3 x4 = some (r, σo) → Jd p l e (rmF 4 95) s m args below meth c D 77 ad (celC cI cR ad) okC 5 (MQ below (QI D (tysC cI cR) 77 ad (celC cI cR ad) okC r σo) args s 0 0 (inA 77 ad)) 33 [(0, .ref (ad 0)), (1, .int a1), (2, .int x2), (3, .int x3), (4, .int x4)] [] σ := by
  intro n
  induction n with
  | zero => intro x2 x3 x4 h; cases h
  | succ n ih =>
    intro x2 x3 x4 h
    unfold l_X5_sets_33 at h
    refine J_iload (q := 35) C dX5_sets_33 rfl 4 rfl ?_
    refine J_iconst (v := 1 ) (q := 36) C dX5_sets_35 rfl rfl ?_
    refine J_aload_n (q := 37) C dX5_sets_36 rfl rfl 0 rfl ?_
    refine JC_g_X5_street (q := 40) C kF_X5_49 dX5_sets_37 rfl (fun hs3 => ?_)
    refine JC_g_X4_size (q := 43) C hs3 kF_X5_131 dX5_sets_40 rfl ?_
    refine J_ishl (q := 44) C dX5_sets_43 rfl ?_
    refine J_icmp_ge (tgt := 80) (q := 47) C dX5_sets_44 rfl (by decide) h (fun _ h => ?_) (fun _ h => ?_)
    · refine J_sub [0, 2, 3] rfl ?_
      exact hk80 _ _ h
    · refine J_aload_n (q := 48) C dX5_sets_47 rfl rfl 0 rfl ?_
      refine JC_g_X5_street (q := 51) C kF_X5_49 dX5_sets_48 rfl (fun hs4 => ?_)
      refine J_iload (q := 53) C dX5_sets_51 rfl 4 rfl ?_
      obtain ⟨r5, ec5, h⟩ := bnd_of h
      refine J_callIV (q := 56) (As := [.int x4]) C (c_X4_fees hap hs4 ec5) ok_X4_fees kM_X5_255 (lt77S hs4) (celC_S hs4) rfl rfl rfl rfl rfl ⟨Nat.le_of_ble_eq_true rfl, Nat.le_of_ble_eq_true rfl⟩ (Nat.le_of_ble_eq_true rfl) dX5_sets_53 rfl ?_
      refine J_iload_n (q := 57) C dX5_sets_56 rfl rfl 1 rfl ?_
      refine jn_elim h (fun k74 ek74 h => ?_)
      have hk74 : ∀ (u2_74 : Int32) (u3_74 : Int32), k74 u2_74 u3_74 = some (r, σo) → Jd p l e (rmF 4 95) s m args below meth c D 77 ad (celC cI cR ad) okC 5 (MQ below (QI D (tysC cI cR) 77 ad (celC cI cR ad) okC r σo) args s 0 0 (inA 77 ad)) 74 [(0, .ref (ad 0)), (1, .int a1), (2, .int u2_74), (3, .int u3_74), (4, .int x4)] [] σ := by
        intro u2_74 u3_74 h
        rw [ek74] at h
        refine jn_elim h (fun y6 ey6 h => ?_)
        refine J_iinc (v := y6) (q := 77) C dX5_sets_74 rfl 4 rfl (by rw [ey6]; rfl) (by decide) rfl ?_
        refine J_goto (tgt := 33) C dX5_sets_77 (by decide) ?_
        refine J_sub [1, 2, 3, 4, 0] rfl ?_
        exact ih _ _ _ h
      refine J_icmp_ne (tgt := 74) (q := 60) C dX5_sets_57 rfl (by decide) h (fun _ h => ?_) (fun _ h => ?_)
      · refine J_iload_n (q := 61) C dX5_sets_60 rfl rfl 3 rfl ?_
        refine jn_elim h (fun k70 ek70 h => ?_)
        have hk70 : ∀ (t0_70 : Int32), k70 t0_70 = some (r, σo) → Jd p l e (rmF 4 95) s m args below meth c D 77 ad (celC cI cR ad) okC 5 (MQ below (QI D (tysC cI cR) 77 ad (celC cI cR ad) okC r σo) args s 0 0 (inA 77 ad)) 70 [(0, .ref (ad 0)), (1, .int a1), (3, .int x3), (4, .int x4)] [.int t0_70] σ := by
          intro t0_70 h
          rw [ek70] at h
          refine J_istore_n (q := 71) C dX5_sets_70 rfl rfl (by decide) rfl ?_
          refine jn_elim h (fun y7 ey7 h => ?_)
          refine J_iinc (v := y7) (q := 74) C dX5_sets_71 rfl 3 rfl (by rw [ey7]; rfl) (by decide) rfl ?_
          refine J_sub [2, 3, 1, 0, 4] rfl ?_
          exact hk74 _ _ h
        refine J_if_ne (tgt := 69) (q := 64) C dX5_sets_61 rfl (by decide) h (fun _ h => ?_) (fun _ h => ?_)
        · refine J_iload (q := 66) C dX5_sets_64 rfl 4 rfl ?_
          refine J_goto (tgt := 70) C dX5_sets_66 (by decide) ?_
          refine J_sub [0, 1, 3, 4] rfl ?_
          exact hk70 _ h
        · refine J_iload_n (q := 70) C dX5_sets_69 rfl rfl 2 rfl ?_
          refine J_sub [0, 1, 3, 4] rfl ?_
          exact hk70 _ h
      · exact hk74 _ _ h
set_option maxHeartbeats 4000000 in
set_option maxRecDepth 100000 in
theorem c_X5_sets {l : Launch} {D : va_G} {cI cR : ClassId} {ad : Nat → Nat} (hap : apN 77 ad) {i1 : Int32} {σ : Sg} {r : Int32} {σo : Sg}  (h : f_X5_sets i1 σ = some (r, σo)) : MI l D (tysC cI cR) 77 ad (celC cI cR ad) okC yX5_sets cX5_sets 5 .int 4 95 [.ref (ad 0), .int i1] σ r σo := by
  unfold f_X5_sets at h
  refine entI "WokenYears" hap (by decide +kernel) rfl (Nat.le_of_ble_eq_true rfl) (fun p e s m args below meth c C => ?_)
  refine J_sub (lv' := [(0, .ref (ad 0)), (1, .int i1)]) [0, 1] rfl ?_
  refine J_iload_n (q := 1) C dX5_sets_0 rfl rfl 1 rfl ?_
  refine J_iconst (v := 0 ) (q := 2) C dX5_sets_1 rfl rfl ?_
  refine J_bipush (v := 99) (q := 4) C dX5_sets_2 rfl rfl ?_
  obtain ⟨r1, ec1, h⟩ := bnd_of h
  refine J_callIS (q := 7) (As := [.int i1, .int (0 : Int32), .int (99 : Int32)]) C (c_X5_within hap  ec1) ok_X5_within kM_X5_75 rfl rfl rfl ⟨Nat.le_of_ble_eq_true rfl, Nat.le_of_ble_eq_true rfl⟩ (Nat.le_of_ble_eq_true rfl) dX5_sets_4 rfl ?_
  refine J_ifne_b (tgt := 12) (q := 10) C dX5_sets_7 rfl (by decide) h (fun _ h => ?_) (fun _ h => ?_)
  · refine J_aload_n (q := 13) C dX5_sets_12 rfl rfl 0 rfl ?_
    refine JC_g_X5_street (q := 16) C kF_X5_49 dX5_sets_13 rfl (fun hs2 => ?_)
    refine JC_g_X4_size (q := 19) C hs2 kF_X5_131 dX5_sets_16 rfl ?_
    refine J_if_ne (tgt := 25) (q := 22) C dX5_sets_19 rfl (by decide) h (fun _ h => ?_) (fun _ h => ?_)
    · refine J_bipush (v := -4) (q := 24) C dX5_sets_22 rfl rfl ?_
      obtain ⟨rfl, rfl⟩ := Prod.mk.inj (Option.some.inj h)
      exact J_iret C dX5_sets_24
    · refine J_bipush (v := -9) (q := 27) C dX5_sets_25 rfl rfl ?_
      refine J_istore_n (q := 28) C dX5_sets_27 rfl rfl (by decide) rfl ?_
      refine J_iconst (v := 0 ) (q := 29) C dX5_sets_28 rfl rfl ?_
      refine J_istore_n (q := 30) C dX5_sets_29 rfl rfl (by decide) rfl ?_
      refine J_iconst (v := 0 ) (q := 31) C dX5_sets_30 rfl rfl ?_
      refine J_istore (q := 33) C dX5_sets_31 rfl (by decide) rfl ?_
      refine J_sub [3, 4, 2, 1, 0] rfl ?_
      refine cl_X5_sets_33 hap C r σo  (fun v2_80 v3_80 h => ?_) FU _ _ _ h
      · refine J_aload_n (q := 81) C dX5_sets_80 rfl rfl 0 rfl ?_
        refine J_iload_n (q := 82) C dX5_sets_81 rfl rfl 1 rfl ?_
        refine JC_p_X5_asked (q := 85) C kF_X5_107 dX5_sets_82 rfl ?_
        refine jn_elim h (fun σ8 eσ8 h => ?_)
        rw [← eσ8]
        refine J_aload_n (q := 86) C dX5_sets_85 rfl rfl 0 rfl ?_
        refine J_iload_n (q := 87) C dX5_sets_86 rfl rfl 2 rfl ?_
        refine J_i2l (q := 88) C dX5_sets_87 rfl ?_
        refine J_lconst (v := 1) (q := 89) C dX5_sets_88 rfl rfl ?_
        obtain ⟨σ9, ec9, h⟩ := bnd_of h
        refine J_callXV (q := 92) (As := [.long (v3_80.toInt64), .long (1 : Int64)]) C (c_X5_tellRatio hap  ec9) ok_X5_tellRatio kM_X5_258 (by decide) rfl rfl rfl rfl rfl rfl ⟨Nat.le_of_ble_eq_true rfl, Nat.le_of_ble_eq_true rfl⟩ (Nat.le_of_ble_eq_true rfl) dX5_sets_89 rfl ?_
        refine J_iconst (v := 1 ) (q := 93) C dX5_sets_92 rfl rfl ?_
        obtain ⟨rfl, rfl⟩ := Prod.mk.inj (Option.some.inj h)
        exact J_iret C dX5_sets_93
  · refine J_iconst (v := -1 ) (q := 11) C dX5_sets_10 rfl rfl ?_
    obtain ⟨rfl, rfl⟩ := Prod.mk.inj (Option.some.inj h)
    exact J_iret C dX5_sets_11
set_option maxHeartbeats 4000000 in
set_option maxRecDepth 100000 in
theorem cl_X5_sure_48 {p : Program} {l : Launch} {e : Env} {s : State} {m : MethodId} {args : Array Value} {below : List Frame} {meth : Method} {c : Code} {D : va_G} {cI cR : ClassId} {ad : Nat → Nat} (hap : apN 77 ad) (C : Cx p s m args meth c cX5_sure 7 "WokenYears" D (tysC cI cR) 77 ad (some .int)) {a1 : Int32} {a2 : Int32} {k88 : Int32 → Int32 → Int32 → Option (Int32 × Sg)} {σ : Sg} (r : Int32) (σo : Sg)  (hk88 : ∀ (u3 : Int32) (u4 : Int32) (u5 : Int32), k88 u3 u4 u5 = some (r, σo) → Jd p l e (rmF 4 95) s m args below meth c D 77 ad (celC cI cR ad) okC 7 (MQ below (QI D (tysC cI cR) 77 ad (celC cI cR ad) okC r σo) args s 0 0 (inA 77 ad)) 88 [(0, .ref (ad 0)), (2, .int a2), (3, .int u3), (4, .int u4), (5, .int u5)] [] σ) : ∀ (n : Nat) (x3 : Int32) (x4 : Int32) (x5 : Int32) (x6 : Int32), l_X5_sure_48 a1 a2 σ k88 n x3 x4 x5 x6 = some (r, σo) → Jd p l e (rmF 4 95) s m args below meth c D 77 ad (celC cI cR ad) okC 7 (MQ below (QI D (tysC cI cR) 77 ad (celC cI cR ad) okC r σo) args s 0 0 (inA 77 ad)) 48 [(0, .ref (ad 0)), (1, .int a1), (2, .int a2), (3, .int x3), (4, .int x4), (5, .int x5), (6, .int x6)] [] σ := by
  intro n
  induction n with
  | zero => intro x3 x4 x5 x6 h; cases h
  | succ n ih =>
    intro x3 x4 x5 x6 h
    unfold l_X5_sure_48 at h
    refine J_iload (q := 50) C dX5_sure_48 rfl 6 rfl ?_
    refine J_iload_n (q := 51) C dX5_sure_50 rfl rfl 2 rfl ?_
    refine J_icmp_gt (tgt := 88) (q := 54) C dX5_sure_51 rfl (by decide) h (fun _ h => ?_) (fun _ h => ?_)
    · refine J_sub [0, 2, 3, 4, 5] rfl ?_
      exact hk88 _ _ _ h
    · refine J_aload_n (q := 55) C dX5_sure_54 rfl rfl 0 rfl ?_
      refine JC_g_X5_street (q := 58) C kF_X5_49 dX5_sure_55 rfl (fun hs5 => ?_)
      refine J_iload (q := 60) C dX5_sure_58 rfl 6 rfl ?_
      obtain ⟨r6, ec6, h⟩ := bnd_of h
      refine J_callIV (q := 63) (As := [.int x6]) C (c_X4_fees hap hs5 ec6) ok_X4_fees kM_X5_255 (lt77S hs5) (celC_S hs5) rfl rfl rfl rfl rfl ⟨Nat.le_of_ble_eq_true rfl, Nat.le_of_ble_eq_true rfl⟩ (Nat.le_of_ble_eq_true rfl) dX5_sure_60 rfl ?_
      refine J_iload_n (q := 64) C dX5_sure_63 rfl rfl 1 rfl ?_
      refine jn_elim h (fun k82 ek82 h => ?_)
      have hk82 : ∀ (u3_82 : Int32) (u4_82 : Int32) (u5_82 : Int32), k82 u3_82 u4_82 u5_82 = some (r, σo) → Jd p l e (rmF 4 95) s m args below meth c D 77 ad (celC cI cR ad) okC 7 (MQ below (QI D (tysC cI cR) 77 ad (celC cI cR ad) okC r σo) args s 0 0 (inA 77 ad)) 82 [(0, .ref (ad 0)), (1, .int a1), (2, .int a2), (3, .int u3_82), (4, .int u4_82), (5, .int u5_82), (6, .int x6)] [] σ := by
        intro u3_82 u4_82 u5_82 h
        rw [ek82] at h
        refine jn_elim h (fun y7 ey7 h => ?_)
        refine J_iinc (v := y7) (q := 85) C dX5_sure_82 rfl 6 rfl (by rw [ey7]; rfl) (by decide) rfl ?_
        refine J_goto (tgt := 48) C dX5_sure_85 (by decide) ?_
        refine J_sub [1, 2, 3, 4, 5, 6, 0] rfl ?_
        exact ih _ _ _ _ h
      refine J_icmp_ne (tgt := 82) (q := 67) C dX5_sure_64 rfl (by decide) h (fun _ h => ?_) (fun _ h => ?_)
      · refine J_iload_n (q := 68) C dX5_sure_67 rfl rfl 3 rfl ?_
        refine J_iload (q := 70) C dX5_sure_68 rfl 6 rfl ?_
        refine J_iand (q := 71) C dX5_sure_70 rfl ?_
        refine J_nmi h (fun y8 ey8 h => ?_)
        refine J_istore_n (q := 72) C dX5_sure_71 rfl rfl (by decide) rfl ?_
        refine J_iload (q := 74) C dX5_sure_72 rfl 4 rfl ?_
        refine J_iload (q := 76) C dX5_sure_74 rfl 6 rfl ?_
        refine J_ior (q := 77) C dX5_sure_76 rfl ?_
        refine J_nmi h (fun y9 ey9 h => ?_)
        refine J_istore (q := 79) C dX5_sure_77 rfl (by decide) rfl ?_
        refine jn_elim h (fun y10 ey10 h => ?_)
        refine J_iinc (v := y10) (q := 82) C dX5_sure_79 rfl 5 rfl (by rw [ey10]; rfl) (by decide) rfl ?_
        refine J_sub [3, 4, 5, 2, 1, 0, 6] rfl ?_
        exact hk82 _ _ _ h
      · exact hk82 _ _ _ h
set_option maxHeartbeats 4000000 in
set_option maxRecDepth 100000 in
theorem c_X5_sure {l : Launch} {D : va_G} {cI cR : ClassId} {ad : Nat → Nat} (hap : apN 77 ad) {i1 : Int32} {σ : Sg} {r : Int32} {σo : Sg}  (h : f_X5_sure i1 σ = some (r, σo)) : MI l D (tysC cI cR) 77 ad (celC cI cR ad) okC yX5_sure cX5_sure 7 .int 4 95 [.ref (ad 0), .int i1] σ r σo := by
  unfold f_X5_sure at h
  refine entI "WokenYears" hap (by decide +kernel) rfl (Nat.le_of_ble_eq_true rfl) (fun p e s m args below meth c C => ?_)
  refine J_sub (lv' := [(0, .ref (ad 0)), (1, .int i1)]) [0, 1] rfl ?_
  refine J_iload_n (q := 1) C dX5_sure_0 rfl rfl 1 rfl ?_
  refine J_iconst (v := 0 ) (q := 2) C dX5_sure_1 rfl rfl ?_
  refine J_bipush (v := 99) (q := 4) C dX5_sure_2 rfl rfl ?_
  obtain ⟨r1, ec1, h⟩ := bnd_of h
  refine J_callIS (q := 7) (As := [.int i1, .int (0 : Int32), .int (99 : Int32)]) C (c_X5_within hap  ec1) ok_X5_within kM_X5_75 rfl rfl rfl ⟨Nat.le_of_ble_eq_true rfl, Nat.le_of_ble_eq_true rfl⟩ (Nat.le_of_ble_eq_true rfl) dX5_sure_4 rfl ?_
  refine J_ifne_b (tgt := 12) (q := 10) C dX5_sure_7 rfl (by decide) h (fun _ h => ?_) (fun _ h => ?_)
  · refine J_aload_n (q := 13) C dX5_sure_12 rfl rfl 0 rfl ?_
    refine JC_g_X5_street (q := 16) C kF_X5_49 dX5_sure_13 rfl (fun hs2 => ?_)
    refine JC_g_X4_size (q := 19) C hs2 kF_X5_131 dX5_sure_16 rfl ?_
    refine J_if_ne (tgt := 25) (q := 22) C dX5_sure_19 rfl (by decide) h (fun _ h => ?_) (fun _ h => ?_)
    · refine J_bipush (v := -4) (q := 24) C dX5_sure_22 rfl rfl ?_
      obtain ⟨rfl, rfl⟩ := Prod.mk.inj (Option.some.inj h)
      exact J_iret C dX5_sure_24
    · refine J_iconst (v := 1 ) (q := 26) C dX5_sure_25 rfl rfl ?_
      refine J_aload_n (q := 27) C dX5_sure_26 rfl rfl 0 rfl ?_
      refine JC_g_X5_street (q := 30) C kF_X5_49 dX5_sure_27 rfl (fun hs3 => ?_)
      refine JC_g_X4_size (q := 33) C hs3 kF_X5_131 dX5_sure_30 rfl ?_
      refine J_ishl (q := 34) C dX5_sure_33 rfl ?_
      refine J_iconst (v := 1 ) (q := 35) C dX5_sure_34 rfl rfl ?_
      refine J_isub (q := 36) C dX5_sure_35 rfl ?_
      refine J_nmi h (fun y4 ey4 h => ?_)
      refine J_istore_n (q := 37) C dX5_sure_36 rfl rfl (by decide) rfl ?_
      refine J_iload_n (q := 38) C dX5_sure_37 rfl rfl 0 rfl ?_
      refine J_istore_n (q := 39) C dX5_sure_38 rfl rfl (by decide) rfl ?_
      refine J_iconst (v := 0 ) (q := 40) C dX5_sure_39 rfl rfl ?_
      refine J_istore (q := 42) C dX5_sure_40 rfl (by decide) rfl ?_
      refine J_iconst (v := 0 ) (q := 43) C dX5_sure_42 rfl rfl ?_
      refine J_istore (q := 45) C dX5_sure_43 rfl (by decide) rfl ?_
      refine J_iconst (v := 0 ) (q := 46) C dX5_sure_45 rfl rfl ?_
      refine J_istore (q := 48) C dX5_sure_46 rfl (by decide) rfl ?_
      refine J_sub [5, 6, 4, 3, 2, 1, 0] rfl ?_
      refine cl_X5_sure_48 hap C r σo  (fun v3_88 v4_88 v5_88 h => ?_) FU _ _ _ _ h
      · refine J_iload (q := 90) C dX5_sure_88 rfl 4 rfl ?_
        refine J_if_ne (tgt := 99) (q := 93) C dX5_sure_90 rfl (by decide) h (fun _ h => ?_) (fun _ h => ?_)
        · refine J_aload_n (q := 94) C dX5_sure_93 rfl rfl 0 rfl ?_
          refine J_iconst (v := 4 ) (q := 95) C dX5_sure_94 rfl rfl ?_
          obtain ⟨r11, σ11, ec11, h⟩ := bnd2_of h
          refine J_callIV (q := 98) (As := [.int (4 : Int32)]) C (c_X5_found hap  ec11) ok_X5_found kM_X5_88 (by decide) rfl rfl rfl rfl rfl rfl ⟨Nat.le_of_ble_eq_true rfl, Nat.le_of_ble_eq_true rfl⟩ (Nat.le_of_ble_eq_true rfl) dX5_sure_95 rfl ?_
          obtain ⟨rfl, rfl⟩ := Prod.mk.inj (Option.some.inj h)
          exact J_iret C dX5_sure_98
        · refine J_aload_n (q := 100) C dX5_sure_99 rfl rfl 0 rfl ?_
          refine J_iload_n (q := 101) C dX5_sure_100 rfl rfl 1 rfl ?_
          refine J_iload (q := 103) C dX5_sure_101 rfl 3 rfl ?_
          refine J_iconst (v := -1 ) (q := 104) C dX5_sure_103 rfl rfl ?_
          refine J_ixor (q := 105) C dX5_sure_104 rfl ?_
          refine J_iand (q := 106) C dX5_sure_105 rfl ?_
          refine JC_p_X5_asked (q := 109) C kF_X5_107 dX5_sure_106 rfl ?_
          refine jn_elim h (fun σ12 eσ12 h => ?_)
          rw [← eσ12]
          refine J_iload_n (q := 110) C dX5_sure_109 rfl rfl 2 rfl ?_
          obtain ⟨rfl, rfl⟩ := Prod.mk.inj (Option.some.inj h)
          exact J_iret C dX5_sure_110
  · refine J_iconst (v := -1 ) (q := 11) C dX5_sure_10 rfl rfl ?_
    obtain ⟨rfl, rfl⟩ := Prod.mk.inj (Option.some.inj h)
    exact J_iret C dX5_sure_11
set_option maxHeartbeats 4000000 in
set_option maxRecDepth 100000 in
theorem c_X5_duel {l : Launch} {D : va_G} {cI cR : ClassId} {ad : Nat → Nat} (hap : apN 77 ad) {i1 : Int32} {σ : Sg} {r : Int32} {σo : Sg}  (h : f_X5_duel i1 σ = some (r, σo)) : MI l D (tysC cI cR) 77 ad (celC cI cR ad) okC yX5_duel cX5_duel 2 .int 5 124 [.ref (ad 0), .int i1] σ r σo := by
  unfold f_X5_duel at h
  refine entI "WokenYears" hap (by decide +kernel) rfl (Nat.le_of_ble_eq_true rfl) (fun p e s m args below meth c C => ?_)
  refine J_sub (lv' := [(0, .ref (ad 0)), (1, .int i1)]) [0, 1] rfl ?_
  refine J_iload_n (q := 1) C dX5_duel_0 rfl rfl 1 rfl ?_
  refine J_iconst (v := 0 ) (q := 2) C dX5_duel_1 rfl rfl ?_
  refine J_iconst (v := 3 ) (q := 3) C dX5_duel_2 rfl rfl ?_
  obtain ⟨r1, ec1, h⟩ := bnd_of h
  refine J_callIS (q := 6) (As := [.int i1, .int (0 : Int32), .int (3 : Int32)]) C (c_X5_within hap  ec1) ok_X5_within kM_X5_75 rfl rfl rfl ⟨Nat.le_of_ble_eq_true rfl, Nat.le_of_ble_eq_true rfl⟩ (Nat.le_of_ble_eq_true rfl) dX5_duel_3 rfl ?_
  refine J_ifne_b (tgt := 11) (q := 9) C dX5_duel_6 rfl (by decide) h (fun _ h => ?_) (fun _ h => ?_)
  · refine J_aload_n (q := 12) C dX5_duel_11 rfl rfl 0 rfl ?_
    refine JC_g_X5_street (q := 15) C kF_X5_49 dX5_duel_12 rfl (fun hs2 => ?_)
    refine JC_g_X4_size (q := 18) C hs2 kF_X5_131 dX5_duel_15 rfl ?_
    refine J_if_ne (tgt := 24) (q := 21) C dX5_duel_18 rfl (by decide) h (fun _ h => ?_) (fun _ h => ?_)
    · refine J_bipush (v := -4) (q := 23) C dX5_duel_21 rfl rfl ?_
      obtain ⟨rfl, rfl⟩ := Prod.mk.inj (Option.some.inj h)
      exact J_iret C dX5_duel_23
    · refine J_aload_n (q := 25) C dX5_duel_24 rfl rfl 0 rfl ?_
      refine J_aload_n (q := 26) C dX5_duel_25 rfl rfl 0 rfl ?_
      refine JC_g_X5_street (q := 29) C kF_X5_49 dX5_duel_26 rfl (fun hs3 => ?_)
      refine J_iconst (v := 0 ) (q := 30) C dX5_duel_29 rfl rfl ?_
      refine J_iload_n (q := 31) C dX5_duel_30 rfl rfl 1 rfl ?_
      obtain ⟨r4, ec4, h⟩ := bnd_of h
      refine J_callIV (q := 34) (As := [.int (0 : Int32), .int i1]) C (c_X4_mostAwake hap hs3 ec4) ok_X4_mostAwake kM_X5_262 (lt77S hs3) (celC_S hs3) rfl rfl rfl rfl rfl ⟨Nat.le_of_ble_eq_true rfl, Nat.le_of_ble_eq_true rfl⟩ (Nat.le_of_ble_eq_true rfl) dX5_duel_31 rfl ?_
      refine J_aload_n (q := 35) C dX5_duel_34 rfl rfl 0 rfl ?_
      refine JC_g_X5_street (q := 38) C kF_X5_49 dX5_duel_35 rfl (fun hs5 => ?_)
      refine J_iconst (v := 1 ) (q := 39) C dX5_duel_38 rfl rfl ?_
      refine J_iload_n (q := 40) C dX5_duel_39 rfl rfl 1 rfl ?_
      obtain ⟨r6, ec6, h⟩ := bnd_of h
      refine J_callIV (q := 43) (As := [.int (1 : Int32), .int i1]) C (c_X4_mostAwake hap hs5 ec6) ok_X4_mostAwake kM_X5_262 (lt77S hs5) (celC_S hs5) rfl rfl rfl rfl rfl ⟨Nat.le_of_ble_eq_true rfl, Nat.le_of_ble_eq_true rfl⟩ (Nat.le_of_ble_eq_true rfl) dX5_duel_40 rfl ?_
      refine J_isub (q := 44) C dX5_duel_43 rfl ?_
      refine JC_p_X5_asked (q := 47) C kF_X5_107 dX5_duel_44 rfl ?_
      refine jn_elim h (fun σ7 eσ7 h => ?_)
      rw [← eσ7]
      refine J_iconst (v := 1 ) (q := 48) C dX5_duel_47 rfl rfl ?_
      obtain ⟨rfl, rfl⟩ := Prod.mk.inj (Option.some.inj h)
      exact J_iret C dX5_duel_48
  · refine J_iconst (v := -1 ) (q := 10) C dX5_duel_9 rfl rfl ?_
    obtain ⟨rfl, rfl⟩ := Prod.mk.inj (Option.some.inj h)
    exact J_iret C dX5_duel_10
set_option maxHeartbeats 4000000 in
set_option maxRecDepth 100000 in
theorem cl_X5_power_5 {p : Program} {l : Launch} {e : Env} {s : State} {m : MethodId} {args : Array Value} {below : List Frame} {meth : Method} {c : Code} {D : va_G} {cI cR : ClassId} {ad : Nat → Nat} (hap : apN 77 ad) (C : Cx p s m args meth c cX5_power 6 "WokenYears" D (tysC cI cR) 77 ad (some .long)) {a0 : Int64} {a2 : Int32} {k21 : Int64 → Option Int64} {σ : Sg} (r : Int64)  (hk21 : ∀ (u3 : Int64), k21 u3 = some r → Jd p l e (rmF 1 30) s m args below meth c D 77 ad (celC cI cR ad) okC 6 (MQ below (QL D (tysC cI cR) 77 ad (celC cI cR ad) okC r σ) args s 0 0 (inA 77 ad)) 21 [(3, .long u3)] [] σ) : ∀ (n : Nat) (x3 : Int64) (x5 : Int32), l_X5_power_5 a0 a2 k21 n x3 x5 = some r → Jd p l e (rmF 1 30) s m args below meth c D 77 ad (celC cI cR ad) okC 6 (MQ below (QL D (tysC cI cR) 77 ad (celC cI cR ad) okC r σ) args s 0 0 (inA 77 ad)) 5 [(0, .long a0), (2, .int a2), (3, .long x3), (5, .int x5)] [] σ := by
  intro n
  induction n with
  | zero => intro x3 x5 h; cases h
  | succ n ih =>
    intro x3 x5 h
    unfold l_X5_power_5 at h
    refine J_iload (q := 7) C dX5_power_5 rfl 3 rfl ?_
    refine J_iload_n (q := 8) C dX5_power_7 rfl rfl 1 rfl ?_
    refine J_icmp_ge (tgt := 21) (q := 11) C dX5_power_8 rfl (by decide) h (fun _ h => ?_) (fun _ h => ?_)
    · refine J_sub [2] rfl ?_
      exact hk21 _ h
    · refine J_lload_n (q := 12) C dX5_power_11 rfl rfl 2 rfl ?_
      refine J_lload_n (q := 13) C dX5_power_12 rfl rfl 0 rfl ?_
      refine J_lmul (q := 14) C dX5_power_13 rfl ?_
      refine J_nml h (fun y1 ey1 h => ?_)
      refine J_lstore_n (q := 15) C dX5_power_14 rfl rfl (by decide) rfl ?_
      refine jn_elim h (fun y2 ey2 h => ?_)
      refine J_iinc (v := y2) (q := 18) C dX5_power_15 rfl 3 rfl (by rw [ey2]; rfl) (by decide) rfl ?_
      refine J_goto (tgt := 5) C dX5_power_18 (by decide) ?_
      refine J_sub [2, 3, 1, 0] rfl ?_
      exact ih _ _ h
set_option maxHeartbeats 4000000 in
set_option maxRecDepth 100000 in
theorem c_X5_power {l : Launch} {D : va_G} {cI cR : ClassId} {ad : Nat → Nat} (hap : apN 77 ad) {l0 : Int64} {i2 : Int32} {σ : Sg} {r : Int64}  (h : f_X5_power l0 i2 = some r) : ML l D (tysC cI cR) 77 ad (celC cI cR ad) okC yX5_power cX5_power 6 1 30 [.long l0, .int i2] σ r σ := by
  unfold f_X5_power at h
  refine entL "WokenYears" hap (by decide +kernel) rfl (Nat.le_of_ble_eq_true rfl) (fun p e s m args below meth c C => ?_)
  refine J_sub (lv' := [(0, .long l0), (2, .int i2)]) [0, 1] rfl ?_
  refine J_lconst (v := 1) (q := 1) C dX5_power_0 rfl rfl ?_
  refine J_lstore_n (q := 2) C dX5_power_1 rfl rfl (by decide) rfl ?_
  refine J_iconst (v := 0 ) (q := 3) C dX5_power_2 rfl rfl ?_
  refine J_istore (q := 5) C dX5_power_3 rfl (by decide) rfl ?_
  refine J_sub [2, 3, 1, 0] rfl ?_
  refine cl_X5_power_5 hap C r  (fun v3_21 h => ?_) FU _ _ h
  · refine J_lload_n (q := 22) C dX5_power_21 rfl rfl 0 rfl ?_
    obtain rfl := Option.some.inj h
    exact J_lret C dX5_power_22
set_option maxHeartbeats 4000000 in
set_option maxRecDepth 100000 in
theorem cl_X5_ways_5 {p : Program} {l : Launch} {e : Env} {s : State} {m : MethodId} {args : Array Value} {below : List Frame} {meth : Method} {c : Code} {D : va_G} {cI cR : ClassId} {ad : Nat → Nat} (hap : apN 77 ad) (C : Cx p s m args meth c cX5_ways 5 "WokenYears" D (tysC cI cR) 77 ad (some .long)) {a0 : Int32} {a1 : Int32} {k31 : Int64 → Option Int64} {σ : Sg} (r : Int64)  (hk31 : ∀ (u2 : Int64), k31 u2 = some r → Jd p l e (rmF 1 30) s m args below meth c D 77 ad (celC cI cR ad) okC 5 (MQ below (QL D (tysC cI cR) 77 ad (celC cI cR ad) okC r σ) args s 0 0 (inA 77 ad)) 31 [(2, .long u2)] [] σ) : ∀ (n : Nat) (x2 : Int64) (x4 : Int32), l_X5_ways_5 a0 a1 k31 n x2 x4 = some r → Jd p l e (rmF 1 30) s m args below meth c D 77 ad (celC cI cR ad) okC 5 (MQ below (QL D (tysC cI cR) 77 ad (celC cI cR ad) okC r σ) args s 0 0 (inA 77 ad)) 5 [(0, .int a0), (1, .int a1), (2, .long x2), (4, .int x4)] [] σ := by
  intro n
  induction n with
  | zero => intro x2 x4 h; cases h
  | succ n ih =>
    intro x2 x4 h
    unfold l_X5_ways_5 at h
    refine J_iload (q := 7) C dX5_ways_5 rfl 3 rfl ?_
    refine J_iload_n (q := 8) C dX5_ways_7 rfl rfl 1 rfl ?_
    refine J_icmp_ge (tgt := 31) (q := 11) C dX5_ways_8 rfl (by decide) h (fun _ h => ?_) (fun _ h => ?_)
    · refine J_sub [2] rfl ?_
      exact hk31 _ h
    · refine J_lload_n (q := 12) C dX5_ways_11 rfl rfl 2 rfl ?_
      refine J_iload_n (q := 13) C dX5_ways_12 rfl rfl 0 rfl ?_
      refine J_iload (q := 15) C dX5_ways_13 rfl 3 rfl ?_
      refine J_isub (q := 16) C dX5_ways_15 rfl ?_
      refine J_i2l (q := 17) C dX5_ways_16 rfl ?_
      refine J_lmul (q := 18) C dX5_ways_17 rfl ?_
      refine J_iload (q := 20) C dX5_ways_18 rfl 3 rfl ?_
      refine J_iconst (v := 1 ) (q := 21) C dX5_ways_20 rfl rfl ?_
      refine J_iadd (q := 22) C dX5_ways_21 rfl ?_
      refine J_i2l (q := 23) C dX5_ways_22 rfl ?_
      obtain ⟨nz, h⟩ := ckn_of h
      refine J_ldiv (q := 24) C dX5_ways_23 rfl nz ?_
      refine J_nml h (fun y1 ey1 h => ?_)
      refine J_lstore_n (q := 25) C dX5_ways_24 rfl rfl (by decide) rfl ?_
      refine jn_elim h (fun y2 ey2 h => ?_)
      refine J_iinc (v := y2) (q := 28) C dX5_ways_25 rfl 3 rfl (by rw [ey2]; rfl) (by decide) rfl ?_
      refine J_goto (tgt := 5) C dX5_ways_28 (by decide) ?_
      refine J_sub [2, 3, 1, 0] rfl ?_
      exact ih _ _ h
set_option maxHeartbeats 4000000 in
set_option maxRecDepth 100000 in
theorem c_X5_ways {l : Launch} {D : va_G} {cI cR : ClassId} {ad : Nat → Nat} (hap : apN 77 ad) {i0 : Int32} {i1 : Int32} {σ : Sg} {r : Int64}  (h : f_X5_ways i0 i1 = some r) : ML l D (tysC cI cR) 77 ad (celC cI cR ad) okC yX5_ways cX5_ways 5 1 30 [.int i0, .int i1] σ r σ := by
  unfold f_X5_ways at h
  refine entL "WokenYears" hap (by decide +kernel) rfl (Nat.le_of_ble_eq_true rfl) (fun p e s m args below meth c C => ?_)
  refine J_sub (lv' := [(0, .int i0), (1, .int i1)]) [0, 1] rfl ?_
  refine J_lconst (v := 1) (q := 1) C dX5_ways_0 rfl rfl ?_
  refine J_lstore_n (q := 2) C dX5_ways_1 rfl rfl (by decide) rfl ?_
  refine J_iconst (v := 0 ) (q := 3) C dX5_ways_2 rfl rfl ?_
  refine J_istore (q := 5) C dX5_ways_3 rfl (by decide) rfl ?_
  refine J_sub [2, 3, 1, 0] rfl ?_
  refine cl_X5_ways_5 hap C r  (fun v2_31 h => ?_) FU _ _ h
  · refine J_lload_n (q := 32) C dX5_ways_31 rfl rfl 0 rfl ?_
    obtain rfl := Option.some.inj h
    exact J_lret C dX5_ways_32
set_option maxHeartbeats 4000000 in
set_option maxRecDepth 100000 in
theorem c_X5_weight {l : Launch} {D : va_G} {cI cR : ClassId} {ad : Nat → Nat} (hap : apN 77 ad) {i0 : Int32} {i1 : Int32} {i2 : Int32} {σ : Sg} {r : Int64}  (h : f_X5_weight i0 i1 i2 = some r) : ML l D (tysC cI cR) 77 ad (celC cI cR ad) okC yX5_weight cX5_weight 3 2 55 [.int i0, .int i1, .int i2] σ r σ := by
  unfold f_X5_weight at h
  refine entL "WokenYears" hap (by decide +kernel) rfl (Nat.le_of_ble_eq_true rfl) (fun p e s m args below meth c C => ?_)
  refine J_sub (lv' := [(0, .int i0), (1, .int i1), (2, .int i2)]) [0, 1, 2] rfl ?_
  refine J_iload_n (q := 1) C dX5_weight_0 rfl rfl 0 rfl ?_
  refine J_iload_n (q := 2) C dX5_weight_1 rfl rfl 1 rfl ?_
  obtain ⟨r1, ec1, h⟩ := bnd_of h
  refine J_callLS (q := 5) (As := [.int i0, .int i1]) C (c_X5_ways hap  ec1) ok_X5_ways kM_X5_265 rfl rfl rfl ⟨Nat.le_of_ble_eq_true rfl, Nat.le_of_ble_eq_true rfl⟩ (Nat.le_of_ble_eq_true rfl) dX5_weight_2 rfl ?_
  refine J_iload_n (q := 6) C dX5_weight_5 rfl rfl 2 rfl ?_
  refine J_i2l (q := 7) C dX5_weight_6 rfl ?_
  refine J_iload_n (q := 8) C dX5_weight_7 rfl rfl 1 rfl ?_
  obtain ⟨r2, ec2, h⟩ := bnd_of h
  refine J_callLS (q := 11) (As := [.long (i2.toInt64), .int i1]) C (c_X5_power hap  ec2) ok_X5_power kM_X5_269 rfl rfl rfl ⟨Nat.le_of_ble_eq_true rfl, Nat.le_of_ble_eq_true rfl⟩ (Nat.le_of_ble_eq_true rfl) dX5_weight_8 rfl ?_
  refine J_lmul (q := 12) C dX5_weight_11 rfl ?_
  refine J_bipush (v := 12) (q := 14) C dX5_weight_12 rfl rfl ?_
  refine J_iload_n (q := 15) C dX5_weight_14 rfl rfl 2 rfl ?_
  refine J_isub (q := 16) C dX5_weight_15 rfl ?_
  refine J_i2l (q := 17) C dX5_weight_16 rfl ?_
  refine J_iload_n (q := 18) C dX5_weight_17 rfl rfl 0 rfl ?_
  refine J_iload_n (q := 19) C dX5_weight_18 rfl rfl 1 rfl ?_
  refine J_isub (q := 20) C dX5_weight_19 rfl ?_
  obtain ⟨r3, ec3, h⟩ := bnd_of h
  refine J_callLS (q := 23) (As := [.long (((12 : Int32) - i2).toInt64), .int (i0 - i1)]) C (c_X5_power hap  ec3) ok_X5_power kM_X5_269 rfl rfl rfl ⟨Nat.le_of_ble_eq_true rfl, Nat.le_of_ble_eq_true rfl⟩ (Nat.le_of_ble_eq_true rfl) dX5_weight_20 rfl ?_
  refine J_lmul (q := 24) C dX5_weight_23 rfl ?_
  obtain rfl := Option.some.inj h
  exact J_lret C dX5_weight_24
set_option maxHeartbeats 4000000 in
set_option maxRecDepth 100000 in
theorem c_X5_isTry {l : Launch} {D : va_G} {cI cR : ClassId} {ad : Nat → Nat} (hap : apN 77 ad) {i1 : Int32} {i2 : Int32} {i3 : Int32} {σ : Sg} {r : Bool}  (h : f_X5_isTry i1 i2 i3 σ = some r) : MI l D (tysC cI cR) 77 ad (celC cI cR ad) okC yX5_isTry cX5_isTry 4 .boolean 2 52 [.ref (ad 0), .int i1, .int i2, .int i3] σ (b2i r) σ := by
  unfold f_X5_isTry at h
  refine entI "WokenYears" hap (by decide +kernel) rfl (Nat.le_of_ble_eq_true rfl) (fun p e s m args below meth c C => ?_)
  refine J_sub (lv' := [(0, .ref (ad 0)), (1, .int i1), (2, .int i2), (3, .int i3)]) [0, 1, 2, 3] rfl ?_
  refine J_aload_n (q := 1) C dX5_isTry_0 rfl rfl 0 rfl ?_
  refine JC_g_X5_street (q := 4) C kF_X5_49 dX5_isTry_1 rfl (fun hs1 => ?_)
  refine J_iload_n (q := 5) C dX5_isTry_4 rfl rfl 1 rfl ?_
  obtain ⟨r2, ec2, h⟩ := bnd_of h
  refine J_callIV (q := 8) (As := [.int i1]) C (c_X4_isHouse hap hs1 ec2) ok_X4_isHouse kM_X5_132 (lt77S hs1) (celC_S hs1) rfl rfl rfl rfl rfl ⟨Nat.le_of_ble_eq_true rfl, Nat.le_of_ble_eq_true rfl⟩ (Nat.le_of_ble_eq_true rfl) dX5_isTry_5 rfl ?_
  refine J_ifeq_b (tgt := 35) (q := 11) C dX5_isTry_8 rfl (by decide) h (fun _ h => ?_) (fun _ h => ?_)
  · refine J_iload_n (q := 12) C dX5_isTry_11 rfl rfl 2 rfl ?_
    refine J_iconst (v := 0 ) (q := 13) C dX5_isTry_12 rfl rfl ?_
    refine J_bipush (v := 8) (q := 15) C dX5_isTry_13 rfl rfl ?_
    obtain ⟨r3, ec3, h⟩ := bnd_of h
    refine J_callIS (q := 18) (As := [.int i2, .int (0 : Int32), .int (8 : Int32)]) C (c_X5_within hap  ec3) ok_X5_within kM_X5_75 rfl rfl rfl ⟨Nat.le_of_ble_eq_true rfl, Nat.le_of_ble_eq_true rfl⟩ (Nat.le_of_ble_eq_true rfl) dX5_isTry_15 rfl ?_
    refine J_ifeq_b (tgt := 35) (q := 21) C dX5_isTry_18 rfl (by decide) h (fun _ h => ?_) (fun _ h => ?_)
    · refine J_iload_n (q := 22) C dX5_isTry_21 rfl rfl 3 rfl ?_
      refine J_iconst (v := 0 ) (q := 23) C dX5_isTry_22 rfl rfl ?_
      refine J_bipush (v := 12) (q := 25) C dX5_isTry_23 rfl rfl ?_
      obtain ⟨r4, ec4, h⟩ := bnd_of h
      refine J_callIS (q := 28) (As := [.int i3, .int (0 : Int32), .int (12 : Int32)]) C (c_X5_within hap  ec4) ok_X5_within kM_X5_75 rfl rfl rfl ⟨Nat.le_of_ble_eq_true rfl, Nat.le_of_ble_eq_true rfl⟩ (Nat.le_of_ble_eq_true rfl) dX5_isTry_25 rfl ?_
      refine J_ifeq_b (tgt := 35) (q := 31) C dX5_isTry_28 rfl (by decide) h (fun _ h => ?_) (fun _ h => ?_)
      · refine J_iconst (v := 1 ) (q := 32) C dX5_isTry_31 rfl rfl ?_
        refine J_goto (tgt := 36) C dX5_isTry_32 (by decide) ?_
        obtain rfl := Option.some.inj h
        exact J_zret (b := true) C dX5_isTry_36
      · refine J_iconst (v := 0 ) (q := 36) C dX5_isTry_35 rfl rfl ?_
        obtain rfl := Option.some.inj h
        exact J_zret (b := false) C dX5_isTry_36
    · refine J_iconst (v := 0 ) (q := 36) C dX5_isTry_35 rfl rfl ?_
      obtain rfl := Option.some.inj h
      exact J_zret (b := false) C dX5_isTry_36
  · refine J_iconst (v := 0 ) (q := 36) C dX5_isTry_35 rfl rfl ?_
    obtain rfl := Option.some.inj h
    exact J_zret (b := false) C dX5_isTry_36
set_option maxHeartbeats 4000000 in
set_option maxRecDepth 100000 in
theorem cl_X5_odds_28 {p : Program} {l : Launch} {e : Env} {s : State} {m : MethodId} {args : Array Value} {below : List Frame} {meth : Method} {c : Code} {D : va_G} {cI cR : ClassId} {ad : Nat → Nat} (hap : apN 77 ad) (C : Cx p s m args meth c cX5_odds 8 "WokenYears" D (tysC cI cR) 77 ad (some .int)) {a2 : Int32} {a3 : Int32} {a4 : Int32} {k70 : Int64 → Option (Int32 × Sg)} {σ : Sg} (r : Int32) (σo : Sg)  (hk70 : ∀ (u5 : Int64), k70 u5 = some (r, σo) → Jd p l e (rmF 4 98) s m args below meth c D 77 ad (celC cI cR ad) okC 8 (MQ below (QI D (tysC cI cR) 77 ad (celC cI cR ad) okC r σo) args s 0 0 (inA 77 ad)) 70 [(0, .ref (ad 0)), (2, .int a2), (5, .long u5)] [] σ) : ∀ (n : Nat) (x5 : Int64) (x7 : Int32), l_X5_odds_28 a2 a3 a4 σ k70 n x5 x7 = some (r, σo) → Jd p l e (rmF 4 98) s m args below meth c D 77 ad (celC cI cR ad) okC 8 (MQ below (QI D (tysC cI cR) 77 ad (celC cI cR ad) okC r σo) args s 0 0 (inA 77 ad)) 28 [(0, .ref (ad 0)), (2, .int a2), (3, .int a3), (4, .int a4), (5, .long x5), (7, .int x7)] [] σ := by
  intro n
  induction n with
  | zero => intro x5 x7 h; cases h
  | succ n ih =>
    intro x5 x7 h
    unfold l_X5_odds_28 at h
    refine J_iload (q := 30) C dX5_odds_28 rfl 5 rfl ?_
    refine J_iload_n (q := 31) C dX5_odds_30 rfl rfl 1 rfl ?_
    refine J_icmp_gt (tgt := 70) (q := 34) C dX5_odds_31 rfl (by decide) h (fun _ h => ?_) (fun _ h => ?_)
    · refine J_sub [0, 1, 4] rfl ?_
      exact hk70 _ h
    · refine J_iload (q := 36) C dX5_odds_34 rfl 3 rfl ?_
      refine J_bipush (v := -9) (q := 38) C dX5_odds_36 rfl rfl ?_
      refine J_icmp_eq (tgt := 70) (q := 41) C dX5_odds_38 rfl (by decide) h (fun _ h => ?_) (fun _ h => ?_)
      · refine J_sub [0, 1, 4] rfl ?_
        exact hk70 _ h
      · refine J_lload (q := 43) C dX5_odds_41 rfl 4 rfl ?_
        refine J_iload (q := 45) C dX5_odds_43 rfl 5 rfl ?_
        refine J_iload (q := 47) C dX5_odds_45 rfl 3 rfl ?_
        refine jn_elim h (fun k61 ek61 h => ?_)
        have hk61 : ∀ (t0_61 : Int64), k61 t0_61 = some (r, σo) → Jd p l e (rmF 4 98) s m args below meth c D 77 ad (celC cI cR ad) okC 8 (MQ below (QI D (tysC cI cR) 77 ad (celC cI cR ad) okC r σo) args s 0 0 (inA 77 ad)) 61 [(0, .ref (ad 0)), (2, .int a2), (3, .int a3), (4, .int a4), (7, .int x7)] [.long t0_61, .long x5] σ := by
          intro t0_61 h
          rw [ek61] at h
          refine J_ladd (q := 62) C dX5_odds_61 rfl ?_
          refine J_nml h (fun y4 ey4 h => ?_)
          refine J_lstore (q := 64) C dX5_odds_62 rfl (by decide) rfl ?_
          refine jn_elim h (fun y5 ey5 h => ?_)
          refine J_iinc (v := y5) (q := 67) C dX5_odds_64 rfl 5 rfl (by rw [ey5]; rfl) (by decide) rfl ?_
          refine J_goto (tgt := 28) C dX5_odds_67 (by decide) ?_
          refine J_sub [2, 3, 4, 5, 1, 0] rfl ?_
          exact ih _ _ h
        refine J_icmp_lt (tgt := 60) (q := 50) C dX5_odds_47 rfl (by decide) h (fun _ h => ?_) (fun _ h => ?_)
        · refine J_lconst (v := 0) (q := 61) C dX5_odds_60 rfl rfl ?_
          refine J_sub [0, 1, 2, 3, 5] rfl ?_
          exact hk61 _ h
        · refine J_iload_n (q := 51) C dX5_odds_50 rfl rfl 1 rfl ?_
          refine J_iload (q := 53) C dX5_odds_51 rfl 5 rfl ?_
          refine J_iload_n (q := 54) C dX5_odds_53 rfl rfl 2 rfl ?_
          obtain ⟨r6, ec6, h⟩ := bnd_of h
          refine J_callLS (q := 57) (As := [.int a2, .int x7, .int a3]) C (c_X5_weight hap  ec6) ok_X5_weight kM_X5_286 rfl rfl rfl ⟨Nat.le_of_ble_eq_true rfl, Nat.le_of_ble_eq_true rfl⟩ (Nat.le_of_ble_eq_true rfl) dX5_odds_54 rfl ?_
          refine J_goto (tgt := 61) C dX5_odds_57 (by decide) ?_
          refine J_sub [0, 1, 2, 3, 5] rfl ?_
          exact hk61 _ h
set_option maxHeartbeats 4000000 in
set_option maxRecDepth 100000 in
theorem c_X5_odds {l : Launch} {D : va_G} {cI cR : ClassId} {ad : Nat → Nat} (hap : apN 77 ad) {i1 : Int32} {i2 : Int32} {i3 : Int32} {σ : Sg} {r : Int32} {σo : Sg}  (h : f_X5_odds i1 i2 i3 σ = some (r, σo)) : MI l D (tysC cI cR) 77 ad (celC cI cR ad) okC yX5_odds cX5_odds 8 .int 4 98 [.ref (ad 0), .int i1, .int i2, .int i3] σ r σo := by
  unfold f_X5_odds at h
  refine entI "WokenYears" hap (by decide +kernel) rfl (Nat.le_of_ble_eq_true rfl) (fun p e s m args below meth c C => ?_)
  refine J_sub (lv' := [(0, .ref (ad 0)), (1, .int i1), (2, .int i2), (3, .int i3)]) [0, 1, 2, 3] rfl ?_
  refine J_aload_n (q := 1) C dX5_odds_0 rfl rfl 0 rfl ?_
  refine J_iload_n (q := 2) C dX5_odds_1 rfl rfl 1 rfl ?_
  refine J_iload_n (q := 3) C dX5_odds_2 rfl rfl 2 rfl ?_
  refine J_iload_n (q := 4) C dX5_odds_3 rfl rfl 3 rfl ?_
  obtain ⟨r1, ec1, h⟩ := bnd_of h
  refine J_callIV (q := 7) (As := [.int i1, .int i2, .int i3]) C (c_X5_isTry hap  ec1) ok_X5_isTry kM_X5_280 (by decide) rfl rfl rfl rfl rfl rfl ⟨Nat.le_of_ble_eq_true rfl, Nat.le_of_ble_eq_true rfl⟩ (Nat.le_of_ble_eq_true rfl) dX5_odds_4 rfl ?_
  refine J_ifne_b (tgt := 12) (q := 10) C dX5_odds_7 rfl (by decide) h (fun _ h => ?_) (fun _ h => ?_)
  · refine J_aload_n (q := 13) C dX5_odds_12 rfl rfl 0 rfl ?_
    refine JC_g_X5_street (q := 16) C kF_X5_49 dX5_odds_13 rfl (fun hs2 => ?_)
    refine J_iload_n (q := 17) C dX5_odds_16 rfl rfl 1 rfl ?_
    obtain ⟨r3, ec3, h⟩ := bnd_of h
    refine J_callIV (q := 20) (As := [.int i1]) C (c_X4_more hap hs2 ec3) ok_X4_more kM_X5_283 (lt77S hs2) (celC_S hs2) rfl rfl rfl rfl rfl ⟨Nat.le_of_ble_eq_true rfl, Nat.le_of_ble_eq_true rfl⟩ (Nat.le_of_ble_eq_true rfl) dX5_odds_17 rfl ?_
    refine J_istore (q := 22) C dX5_odds_20 rfl (by decide) rfl ?_
    refine J_lconst (v := 0) (q := 23) C dX5_odds_22 rfl rfl ?_
    refine J_lstore (q := 25) C dX5_odds_23 rfl (by decide) rfl ?_
    refine J_iconst (v := 0 ) (q := 26) C dX5_odds_25 rfl rfl ?_
    refine J_istore (q := 28) C dX5_odds_26 rfl (by decide) rfl ?_
    refine J_sub [3, 5, 6, 2, 1, 0] rfl ?_
    refine cl_X5_odds_28 hap C r σo  (fun v5_70 h => ?_) FU _ _ h
    · refine J_aload_n (q := 71) C dX5_odds_70 rfl rfl 0 rfl ?_
      refine J_lload (q := 73) C dX5_odds_71 rfl 2 rfl ?_
      refine J_ldc2 (q := 76) C kJ_X5_290 dX5_odds_73 rfl ?_
      refine J_iload_n (q := 77) C dX5_odds_76 rfl rfl 1 rfl ?_
      obtain ⟨r7, ec7, h⟩ := bnd_of h
      refine J_callLS (q := 80) (As := [.long (12 : Int64), .int i2]) C (c_X5_power hap  ec7) ok_X5_power kM_X5_269 rfl rfl rfl ⟨Nat.le_of_ble_eq_true rfl, Nat.le_of_ble_eq_true rfl⟩ (Nat.le_of_ble_eq_true rfl) dX5_odds_77 rfl ?_
      obtain ⟨σ8, ec8, h⟩ := bnd_of h
      refine J_callXV (q := 83) (As := [.long v5_70, .long r7]) C (c_X5_tellRatio hap  ec8) ok_X5_tellRatio kM_X5_258 (by decide) rfl rfl rfl rfl rfl rfl ⟨Nat.le_of_ble_eq_true rfl, Nat.le_of_ble_eq_true rfl⟩ (Nat.le_of_ble_eq_true rfl) dX5_odds_80 rfl ?_
      refine J_iconst (v := 1 ) (q := 84) C dX5_odds_83 rfl rfl ?_
      obtain ⟨rfl, rfl⟩ := Prod.mk.inj (Option.some.inj h)
      exact J_iret C dX5_odds_84
  · refine J_iconst (v := -1 ) (q := 11) C dX5_odds_10 rfl rfl ?_
    obtain ⟨rfl, rfl⟩ := Prod.mk.inj (Option.some.inj h)
    exact J_iret C dX5_odds_11
set_option maxHeartbeats 4000000 in
set_option maxRecDepth 100000 in
theorem cl_X5_mid_41 {p : Program} {l : Launch} {e : Env} {s : State} {m : MethodId} {args : Array Value} {below : List Frame} {meth : Method} {c : Code} {D : va_G} {cI cR : ClassId} {ad : Nat → Nat} (hap : apN 77 ad) (C : Cx p s m args meth c cX5_mid 8 "WokenYears" D (tysC cI cR) 77 ad (some .int)) {a2 : Int32} {a3 : Int32} {a4 : Int32} {k76 : Int64 → Option (Int32 × Sg)} {σ : Sg} (r : Int32) (σo : Sg)  (hk76 : ∀ (u5 : Int64), k76 u5 = some (r, σo) → Jd p l e (rmF 4 98) s m args below meth c D 77 ad (celC cI cR ad) okC 8 (MQ below (QI D (tysC cI cR) 77 ad (celC cI cR ad) okC r σo) args s 0 0 (inA 77 ad)) 76 [(0, .ref (ad 0)), (2, .int a2), (5, .long u5)] [] σ) : ∀ (n : Nat) (x5 : Int64) (x7 : Int32), l_X5_mid_41 a2 a3 a4 σ k76 n x5 x7 = some (r, σo) → Jd p l e (rmF 4 98) s m args below meth c D 77 ad (celC cI cR ad) okC 8 (MQ below (QI D (tysC cI cR) 77 ad (celC cI cR ad) okC r σo) args s 0 0 (inA 77 ad)) 41 [(0, .ref (ad 0)), (2, .int a2), (3, .int a3), (4, .int a4), (5, .long x5), (7, .int x7)] [] σ := by
  intro n
  induction n with
  | zero => intro x5 x7 h; cases h
  | succ n ih =>
    intro x5 x7 h
    unfold l_X5_mid_41 at h
    refine J_iload (q := 43) C dX5_mid_41 rfl 5 rfl ?_
    refine J_iload_n (q := 44) C dX5_mid_43 rfl rfl 1 rfl ?_
    refine J_icmp_gt (tgt := 76) (q := 47) C dX5_mid_44 rfl (by decide) h (fun _ h => ?_) (fun _ h => ?_)
    · refine J_sub [0, 1, 4] rfl ?_
      exact hk76 _ h
    · refine J_lload (q := 49) C dX5_mid_47 rfl 4 rfl ?_
      refine J_iload_n (q := 50) C dX5_mid_49 rfl rfl 1 rfl ?_
      refine J_iload (q := 52) C dX5_mid_50 rfl 5 rfl ?_
      refine J_iload_n (q := 53) C dX5_mid_52 rfl rfl 2 rfl ?_
      obtain ⟨r5, ec5, h⟩ := bnd_of h
      refine J_callLS (q := 56) (As := [.int a2, .int x7, .int a3]) C (c_X5_weight hap  ec5) ok_X5_weight kM_X5_286 rfl rfl rfl ⟨Nat.le_of_ble_eq_true rfl, Nat.le_of_ble_eq_true rfl⟩ (Nat.le_of_ble_eq_true rfl) dX5_mid_53 rfl ?_
      refine J_iconst (v := 0 ) (q := 57) C dX5_mid_56 rfl rfl ?_
      refine J_iload (q := 59) C dX5_mid_57 rfl 3 rfl ?_
      refine J_iload (q := 61) C dX5_mid_59 rfl 5 rfl ?_
      refine J_isub (q := 62) C dX5_mid_61 rfl ?_
      refine J_mmax (q := 65) C kM_X5_79 kMath_max_s kMath_max_c (Nat.le_of_ble_eq_true rfl) (Nat.le_of_ble_eq_true rfl) dX5_mid_62 rfl ?_
      refine J_i2l (q := 66) C dX5_mid_65 rfl ?_
      refine J_lmul (q := 67) C dX5_mid_66 rfl ?_
      refine J_ladd (q := 68) C dX5_mid_67 rfl ?_
      refine J_nml h (fun y6 ey6 h => ?_)
      refine J_lstore (q := 70) C dX5_mid_68 rfl (by decide) rfl ?_
      refine jn_elim h (fun y7 ey7 h => ?_)
      refine J_iinc (v := y7) (q := 73) C dX5_mid_70 rfl 5 rfl (by rw [ey7]; rfl) (by decide) rfl ?_
      refine J_goto (tgt := 41) C dX5_mid_73 (by decide) ?_
      refine J_sub [2, 3, 4, 5, 1, 0] rfl ?_
      exact ih _ _ h
set_option maxHeartbeats 4000000 in
set_option maxRecDepth 100000 in
theorem c_X5_mid {l : Launch} {D : va_G} {cI cR : ClassId} {ad : Nat → Nat} (hap : apN 77 ad) {i1 : Int32} {i2 : Int32} {i3 : Int32} {σ : Sg} {r : Int32} {σo : Sg}  (h : f_X5_mid i1 i2 i3 σ = some (r, σo)) : MI l D (tysC cI cR) 77 ad (celC cI cR ad) okC yX5_mid cX5_mid 8 .int 4 98 [.ref (ad 0), .int i1, .int i2, .int i3] σ r σo := by
  unfold f_X5_mid at h
  refine entI "WokenYears" hap (by decide +kernel) rfl (Nat.le_of_ble_eq_true rfl) (fun p e s m args below meth c C => ?_)
  refine J_sub (lv' := [(0, .ref (ad 0)), (1, .int i1), (2, .int i2), (3, .int i3)]) [0, 1, 2, 3] rfl ?_
  refine J_aload_n (q := 1) C dX5_mid_0 rfl rfl 0 rfl ?_
  refine J_iload_n (q := 2) C dX5_mid_1 rfl rfl 1 rfl ?_
  refine J_iload_n (q := 3) C dX5_mid_2 rfl rfl 2 rfl ?_
  refine J_iload_n (q := 4) C dX5_mid_3 rfl rfl 3 rfl ?_
  obtain ⟨r1, ec1, h⟩ := bnd_of h
  refine J_callIV (q := 7) (As := [.int i1, .int i2, .int i3]) C (c_X5_isTry hap  ec1) ok_X5_isTry kM_X5_280 (by decide) rfl rfl rfl rfl rfl rfl ⟨Nat.le_of_ble_eq_true rfl, Nat.le_of_ble_eq_true rfl⟩ (Nat.le_of_ble_eq_true rfl) dX5_mid_4 rfl ?_
  refine J_ifne_b (tgt := 12) (q := 10) C dX5_mid_7 rfl (by decide) h (fun _ h => ?_) (fun _ h => ?_)
  · refine J_aload_n (q := 13) C dX5_mid_12 rfl rfl 0 rfl ?_
    refine JC_g_X5_street (q := 16) C kF_X5_49 dX5_mid_13 rfl (fun hs2 => ?_)
    refine J_iload_n (q := 17) C dX5_mid_16 rfl rfl 1 rfl ?_
    obtain ⟨r3, ec3, h⟩ := bnd_of h
    refine J_callIV (q := 20) (As := [.int i1]) C (c_X4_more hap hs2 ec3) ok_X4_more kM_X5_283 (lt77S hs2) (celC_S hs2) rfl rfl rfl rfl rfl ⟨Nat.le_of_ble_eq_true rfl, Nat.le_of_ble_eq_true rfl⟩ (Nat.le_of_ble_eq_true rfl) dX5_mid_17 rfl ?_
    refine J_istore (q := 22) C dX5_mid_20 rfl (by decide) rfl ?_
    refine J_iload (q := 24) C dX5_mid_22 rfl 0 rfl ?_
    refine J_bipush (v := -9) (q := 26) C dX5_mid_24 rfl rfl ?_
    refine J_icmp_ne (tgt := 35) (q := 29) C dX5_mid_26 rfl (by decide) h (fun _ h => ?_) (fun _ h => ?_)
    · refine J_aload_n (q := 30) C dX5_mid_29 rfl rfl 1 rfl ?_
      refine J_iconst (v := 4 ) (q := 31) C dX5_mid_30 rfl rfl ?_
      obtain ⟨r4, σ4, ec4, h⟩ := bnd2_of h
      refine J_callIV (q := 34) (As := [.int (4 : Int32)]) C (c_X5_found hap  ec4) ok_X5_found kM_X5_88 (by decide) rfl rfl rfl rfl rfl rfl ⟨Nat.le_of_ble_eq_true rfl, Nat.le_of_ble_eq_true rfl⟩ (Nat.le_of_ble_eq_true rfl) dX5_mid_31 rfl ?_
      obtain ⟨rfl, rfl⟩ := Prod.mk.inj (Option.some.inj h)
      exact J_iret C dX5_mid_34
    · refine J_lconst (v := 0) (q := 36) C dX5_mid_35 rfl rfl ?_
      refine J_lstore (q := 38) C dX5_mid_36 rfl (by decide) rfl ?_
      refine J_iconst (v := 0 ) (q := 39) C dX5_mid_38 rfl rfl ?_
      refine J_istore (q := 41) C dX5_mid_39 rfl (by decide) rfl ?_
      refine J_sub [3, 5, 6, 2, 1, 0] rfl ?_
      refine cl_X5_mid_41 hap C r σo  (fun v5_76 h => ?_) FU _ _ h
      · refine J_aload_n (q := 77) C dX5_mid_76 rfl rfl 0 rfl ?_
        refine J_lload (q := 79) C dX5_mid_77 rfl 2 rfl ?_
        refine J_ldc2 (q := 82) C kJ_X5_290 dX5_mid_79 rfl ?_
        refine J_iload_n (q := 83) C dX5_mid_82 rfl rfl 1 rfl ?_
        obtain ⟨r8, ec8, h⟩ := bnd_of h
        refine J_callLS (q := 86) (As := [.long (12 : Int64), .int i2]) C (c_X5_power hap  ec8) ok_X5_power kM_X5_269 rfl rfl rfl ⟨Nat.le_of_ble_eq_true rfl, Nat.le_of_ble_eq_true rfl⟩ (Nat.le_of_ble_eq_true rfl) dX5_mid_83 rfl ?_
        obtain ⟨σ9, ec9, h⟩ := bnd_of h
        refine J_callXV (q := 89) (As := [.long v5_76, .long r8]) C (c_X5_tellRatio hap  ec9) ok_X5_tellRatio kM_X5_258 (by decide) rfl rfl rfl rfl rfl rfl ⟨Nat.le_of_ble_eq_true rfl, Nat.le_of_ble_eq_true rfl⟩ (Nat.le_of_ble_eq_true rfl) dX5_mid_86 rfl ?_
        refine J_iconst (v := 1 ) (q := 90) C dX5_mid_89 rfl rfl ?_
        obtain ⟨rfl, rfl⟩ := Prod.mk.inj (Option.some.inj h)
        exact J_iret C dX5_mid_90
  · refine J_iconst (v := -1 ) (q := 11) C dX5_mid_10 rfl rfl ?_
    obtain ⟨rfl, rfl⟩ := Prod.mk.inj (Option.some.inj h)
    exact J_iret C dX5_mid_11
set_option maxHeartbeats 4000000 in
set_option maxRecDepth 100000 in
theorem c_X5_asked {l : Launch} {D : va_G} {cI cR : ClassId} {ad : Nat → Nat} (hap : apN 77 ad)  {σ : Sg} {r : Int32}  (h : f_X5_asked σ = some r) : MI l D (tysC cI cR) 77 ad (celC cI cR ad) okC yX5_asked cX5_asked 1 .int 1 30 [.ref (ad 0)] σ r σ := by
  unfold f_X5_asked at h
  refine entI "WokenYears" hap (by decide +kernel) rfl (Nat.le_of_ble_eq_true rfl) (fun p e s m args below meth c C => ?_)
  refine J_sub (lv' := [(0, .ref (ad 0))]) [0] rfl ?_
  refine J_aload_n (q := 1) C dX5_asked_0 rfl rfl 0 rfl ?_
  refine JC_g_X5_asked (q := 4) C kF_X5_107 dX5_asked_1 rfl ?_
  obtain rfl := Option.some.inj h
  exact J_iret C dX5_asked_4
set_option maxHeartbeats 4000000 in
set_option maxRecDepth 100000 in
theorem c_X5_upper {l : Launch} {D : va_G} {cI cR : ClassId} {ad : Nat → Nat} (hap : apN 77 ad)  {σ : Sg} {r : Int64}  (h : f_X5_upper σ = some r) : ML l D (tysC cI cR) 77 ad (celC cI cR ad) okC yX5_upper cX5_upper 1 1 30 [.ref (ad 0)] σ r σ := by
  unfold f_X5_upper at h
  refine entL "WokenYears" hap (by decide +kernel) rfl (Nat.le_of_ble_eq_true rfl) (fun p e s m args below meth c C => ?_)
  refine J_sub (lv' := [(0, .ref (ad 0))]) [0] rfl ?_
  refine J_aload_n (q := 1) C dX5_upper_0 rfl rfl 0 rfl ?_
  refine JC_g_X5_upper (q := 4) C kF_X5_277 dX5_upper_1 rfl ?_
  obtain rfl := Option.some.inj h
  exact J_lret C dX5_upper_4
set_option maxHeartbeats 4000000 in
set_option maxRecDepth 100000 in
theorem c_X5_lower {l : Launch} {D : va_G} {cI cR : ClassId} {ad : Nat → Nat} (hap : apN 77 ad)  {σ : Sg} {r : Int64}  (h : f_X5_lower σ = some r) : ML l D (tysC cI cR) 77 ad (celC cI cR ad) okC yX5_lower cX5_lower 1 1 30 [.ref (ad 0)] σ r σ := by
  unfold f_X5_lower at h
  refine entL "WokenYears" hap (by decide +kernel) rfl (Nat.le_of_ble_eq_true rfl) (fun p e s m args below meth c C => ?_)
  refine J_sub (lv' := [(0, .ref (ad 0))]) [0] rfl ?_
  refine J_aload_n (q := 1) C dX5_lower_0 rfl rfl 0 rfl ?_
  refine JC_g_X5_lower (q := 4) C kF_X5_56 dX5_lower_1 rfl ?_
  obtain rfl := Option.some.inj h
  exact J_lret C dX5_lower_4
set_option maxHeartbeats 4000000 in
set_option maxRecDepth 100000 in
theorem c_X5_count {l : Launch} {D : va_G} {cI cR : ClassId} {ad : Nat → Nat} (hap : apN 77 ad) {i1 : Int32} {σ : Sg} {r : Int32}  (h : f_X5_count i1 σ = some r) : MI l D (tysC cI cR) 77 ad (celC cI cR ad) okC yX5_count cX5_count 2 .int 4 94 [.ref (ad 0), .int i1] σ r σ := by
  unfold f_X5_count at h
  refine entI "WokenYears" hap (by decide +kernel) rfl (Nat.le_of_ble_eq_true rfl) (fun p e s m args below meth c C => ?_)
  refine J_sub (lv' := [(0, .ref (ad 0)), (1, .int i1)]) [0, 1] rfl ?_
  refine J_iload_n (q := 1) C dX5_count_0 rfl rfl 1 rfl ?_
  by_cases z0 : i1 = (0 : Int32)
  · have h := itp h z0
    refine J_tsIn (off := 71) (tgt := 72) C (0 : Int32) z0 dX5_count_1 (by decide) (by decide) (by decide) (by decide) ?_
    refine J_aload_n (q := 73) C dX5_count_72 rfl rfl 0 rfl ?_
    refine JC_g_X5_street (q := 76) C kF_X5_49 dX5_count_73 rfl (fun hs1 => ?_)
    refine JC_g_X4_size (q := 79) C hs1 kF_X5_131 dX5_count_76 rfl ?_
    obtain rfl := Option.some.inj h
    exact J_iret C dX5_count_79
  have h := itn h z0
  by_cases z1 : i1 = (1 : Int32)
  · have h := itp h z1
    refine J_tsIn (off := 79) (tgt := 80) C (1 : Int32) z1 dX5_count_1 (by decide) (by decide) (by decide) (by decide) ?_
    refine J_aload_n (q := 81) C dX5_count_80 rfl rfl 0 rfl ?_
    refine JC_g_X5_street (q := 84) C kF_X5_49 dX5_count_81 rfl (fun hs2 => ?_)
    refine JC_g_X4_minute (q := 87) C hs2 kF_X5_179 dX5_count_84 rfl ?_
    obtain rfl := Option.some.inj h
    exact J_iret C dX5_count_87
  have h := itn h z1
  by_cases z2 : i1 = (2 : Int32)
  · have h := itp h z2
    refine J_tsIn (off := 87) (tgt := 88) C (2 : Int32) z2 dX5_count_1 (by decide) (by decide) (by decide) (by decide) ?_
    refine J_aload_n (q := 89) C dX5_count_88 rfl rfl 0 rfl ?_
    refine JC_g_X5_street (q := 92) C kF_X5_49 dX5_count_89 rfl (fun hs3 => ?_)
    refine JC_g_X4_night (q := 95) C hs3 kF_X5_299 dX5_count_92 rfl ?_
    obtain rfl := Option.some.inj h
    exact J_iret C dX5_count_95
  have h := itn h z2
  by_cases z3 : i1 = (3 : Int32)
  · have h := itp h z3
    refine J_tsIn (off := 95) (tgt := 96) C (3 : Int32) z3 dX5_count_1 (by decide) (by decide) (by decide) (by decide) ?_
    refine J_aload_n (q := 97) C dX5_count_96 rfl rfl 0 rfl ?_
    refine JC_g_X5_street (q := 100) C kF_X5_49 dX5_count_97 rfl (fun hs4 => ?_)
    refine JC_g_X4_deeds (q := 103) C hs4 kF_X5_125 dX5_count_100 rfl ?_
    refine JC_g_X0_size (q := 106) C (isI_st hs4 6 (by decide)) kF_X5_85 dX5_count_103 rfl ?_
    obtain rfl := Option.some.inj h
    exact J_iret C dX5_count_106
  have h := itn h z3
  by_cases z4 : i1 = (4 : Int32)
  · have h := itp h z4
    refine J_tsIn (off := 106) (tgt := 107) C (4 : Int32) z4 dX5_count_1 (by decide) (by decide) (by decide) (by decide) ?_
    refine J_aload_n (q := 108) C dX5_count_107 rfl rfl 0 rfl ?_
    refine JC_g_X5_street (q := 111) C kF_X5_49 dX5_count_108 rfl (fun hs5 => ?_)
    refine JC_g_X4_place (q := 114) C hs5 kF_X5_169 dX5_count_111 rfl ?_
    obtain rfl := Option.some.inj h
    exact J_iret C dX5_count_114
  have h := itn h z4
  by_cases z5 : i1 = (5 : Int32)
  · have h := itp h z5
    refine J_tsIn (off := 114) (tgt := 115) C (5 : Int32) z5 dX5_count_1 (by decide) (by decide) (by decide) (by decide) ?_
    refine J_aload_n (q := 116) C dX5_count_115 rfl rfl 0 rfl ?_
    refine JC_g_X5_street (q := 119) C kF_X5_49 dX5_count_116 rfl (fun hs6 => ?_)
    refine JC_g_X4_frost (q := 122) C hs6 kF_X5_152 dX5_count_119 rfl ?_
    obtain rfl := Option.some.inj h
    exact J_iret C dX5_count_122
  have h := itn h z5
  by_cases z6 : i1 = (6 : Int32)
  · have h := itp h z6
    refine J_tsIn (off := 122) (tgt := 123) C (6 : Int32) z6 dX5_count_1 (by decide) (by decide) (by decide) (by decide) ?_
    refine J_aload_n (q := 124) C dX5_count_123 rfl rfl 0 rfl ?_
    refine JC_g_X5_street (q := 127) C kF_X5_49 dX5_count_124 rfl (fun hs7 => ?_)
    obtain ⟨r8, ec8, h⟩ := bnd_of h
    refine J_callIV (q := 130) (As := []) C (c_X4_awakeSet hap hs7 ec8) ok_X4_awakeSet kM_X5_188 (lt77S hs7) (celC_S hs7) rfl rfl rfl rfl rfl ⟨Nat.le_of_ble_eq_true rfl, Nat.le_of_ble_eq_true rfl⟩ (Nat.le_of_ble_eq_true rfl) dX5_count_127 rfl ?_
    obtain rfl := Option.some.inj h
    exact J_iret C dX5_count_130
  have h := itn h z6
  by_cases z7 : i1 = (7 : Int32)
  · have h := itp h z7
    refine J_tsIn (off := 130) (tgt := 131) C (7 : Int32) z7 dX5_count_1 (by decide) (by decide) (by decide) (by decide) ?_
    refine J_aload_n (q := 132) C dX5_count_131 rfl rfl 0 rfl ?_
    refine JC_g_X5_street (q := 135) C kF_X5_49 dX5_count_132 rfl (fun hs9 => ?_)
    refine JC_g_X4_purse (q := 138) C hs9 kF_X5_302 dX5_count_135 rfl ?_
    obtain rfl := Option.some.inj h
    exact J_iret C dX5_count_138
  have h := itn h z7
  by_cases z8 : i1 = (8 : Int32)
  · have h := itp h z8
    refine J_tsIn (off := 138) (tgt := 139) C (8 : Int32) z8 dX5_count_1 (by decide) (by decide) (by decide) (by decide) ?_
    refine J_aload_n (q := 140) C dX5_count_139 rfl rfl 0 rfl ?_
    refine JC_g_X5_street (q := 143) C kF_X5_49 dX5_count_140 rfl (fun hs10 => ?_)
    refine J_iconst (v := 1 ) (q := 144) C dX5_count_143 rfl rfl ?_
    obtain ⟨r11, ec11, h⟩ := bnd_of h
    refine J_callIV (q := 147) (As := [.int (1 : Int32)]) C (c_X4_manyOf hap hs10 ec11) ok_X4_manyOf kM_X5_305 (lt77S hs10) (celC_S hs10) rfl rfl rfl rfl rfl ⟨Nat.le_of_ble_eq_true rfl, Nat.le_of_ble_eq_true rfl⟩ (Nat.le_of_ble_eq_true rfl) dX5_count_144 rfl ?_
    obtain rfl := Option.some.inj h
    exact J_iret C dX5_count_147
  have h := itn h z8
  by_cases z9 : i1 = (9 : Int32)
  · have h := itp h z9
    refine J_tsIn (off := 147) (tgt := 148) C (9 : Int32) z9 dX5_count_1 (by decide) (by decide) (by decide) (by decide) ?_
    refine J_aload_n (q := 149) C dX5_count_148 rfl rfl 0 rfl ?_
    refine JC_g_X5_street (q := 152) C kF_X5_49 dX5_count_149 rfl (fun hs12 => ?_)
    refine J_iconst (v := 2 ) (q := 153) C dX5_count_152 rfl rfl ?_
    obtain ⟨r13, ec13, h⟩ := bnd_of h
    refine J_callIV (q := 156) (As := [.int (2 : Int32)]) C (c_X4_manyOf hap hs12 ec13) ok_X4_manyOf kM_X5_305 (lt77S hs12) (celC_S hs12) rfl rfl rfl rfl rfl ⟨Nat.le_of_ble_eq_true rfl, Nat.le_of_ble_eq_true rfl⟩ (Nat.le_of_ble_eq_true rfl) dX5_count_153 rfl ?_
    obtain rfl := Option.some.inj h
    exact J_iret C dX5_count_156
  have h := itn h z9
  by_cases z10 : i1 = (10 : Int32)
  · have h := itp h z10
    refine J_tsIn (off := 156) (tgt := 157) C (10 : Int32) z10 dX5_count_1 (by decide) (by decide) (by decide) (by decide) ?_
    refine J_aload_n (q := 158) C dX5_count_157 rfl rfl 0 rfl ?_
    refine JC_g_X5_rows (q := 161) C kF_X5_13 dX5_count_158 rfl ?_
    obtain ⟨r14, ec14, h⟩ := bnd_of h
    refine J_callIS (q := 164) (As := [.ref (ad 71)]) C (c_X5_present hap isRA_71 ec14) ok_X5_present kM_X5_308 rfl rfl rfl ⟨Nat.le_of_ble_eq_true rfl, Nat.le_of_ble_eq_true rfl⟩ (Nat.le_of_ble_eq_true rfl) dX5_count_161 rfl ?_
    obtain rfl := Option.some.inj h
    exact J_iret C dX5_count_164
  have h := itn h z10
  by_cases z11 : i1 = (11 : Int32)
  · have h := itp h z11
    refine J_tsIn (off := 164) (tgt := 165) C (11 : Int32) z11 dX5_count_1 (by decide) (by decide) (by decide) (by decide) ?_
    refine J_aload_n (q := 166) C dX5_count_165 rfl rfl 0 rfl ?_
    refine JC_g_X5_texts (q := 169) C kF_X5_17 dX5_count_166 rfl ?_
    obtain ⟨r15, ec15, h⟩ := bnd_of h
    refine J_callIS (q := 172) (As := [.ref (ad 72)]) C (c_X5_present hap isRA_72 ec15) ok_X5_present kM_X5_308 rfl rfl rfl ⟨Nat.le_of_ble_eq_true rfl, Nat.le_of_ble_eq_true rfl⟩ (Nat.le_of_ble_eq_true rfl) dX5_count_169 rfl ?_
    obtain rfl := Option.some.inj h
    exact J_iret C dX5_count_172
  have h := itn h z11
  by_cases z12 : i1 = (12 : Int32)
  · have h := itp h z12
    refine J_tsIn (off := 172) (tgt := 173) C (12 : Int32) z12 dX5_count_1 (by decide) (by decide) (by decide) (by decide) ?_
    refine J_aload_n (q := 174) C dX5_count_173 rfl rfl 0 rfl ?_
    refine JC_g_X5_kept (q := 177) C kF_X5_20 dX5_count_174 rfl ?_
    obtain ⟨r16, ec16, h⟩ := bnd_of h
    refine J_callIS (q := 180) (As := [.ref (ad 73)]) C (c_X5_present hap isRA_73 ec16) ok_X5_present kM_X5_308 rfl rfl rfl ⟨Nat.le_of_ble_eq_true rfl, Nat.le_of_ble_eq_true rfl⟩ (Nat.le_of_ble_eq_true rfl) dX5_count_177 rfl ?_
    obtain rfl := Option.some.inj h
    exact J_iret C dX5_count_180
  have h := itn h z12
  by_cases z13 : i1 = (13 : Int32)
  · have h := itp h z13
    refine J_tsIn (off := 180) (tgt := 181) C (13 : Int32) z13 dX5_count_1 (by decide) (by decide) (by decide) (by decide) ?_
    refine J_aload_n (q := 182) C dX5_count_181 rfl rfl 0 rfl ?_
    refine JC_g_X5_street (q := 185) C kF_X5_49 dX5_count_182 rfl (fun hs17 => ?_)
    refine JC_g_X4_quarrel (q := 188) C hs17 kF_X5_312 dX5_count_185 rfl ?_
    obtain rfl := Option.some.inj h
    exact J_iret C dX5_count_188
  have h := itn h z13
  have w0 : i1.toInt ≠ 0 := fun e => z0 (Int32.toInt_inj.mp (e.trans (by decide)))
  have w1 : i1.toInt ≠ 1 := fun e => z1 (Int32.toInt_inj.mp (e.trans (by decide)))
  have w2 : i1.toInt ≠ 2 := fun e => z2 (Int32.toInt_inj.mp (e.trans (by decide)))
  have w3 : i1.toInt ≠ 3 := fun e => z3 (Int32.toInt_inj.mp (e.trans (by decide)))
  have w4 : i1.toInt ≠ 4 := fun e => z4 (Int32.toInt_inj.mp (e.trans (by decide)))
  have w5 : i1.toInt ≠ 5 := fun e => z5 (Int32.toInt_inj.mp (e.trans (by decide)))
  have w6 : i1.toInt ≠ 6 := fun e => z6 (Int32.toInt_inj.mp (e.trans (by decide)))
  have w7 : i1.toInt ≠ 7 := fun e => z7 (Int32.toInt_inj.mp (e.trans (by decide)))
  have w8 : i1.toInt ≠ 8 := fun e => z8 (Int32.toInt_inj.mp (e.trans (by decide)))
  have w9 : i1.toInt ≠ 9 := fun e => z9 (Int32.toInt_inj.mp (e.trans (by decide)))
  have w10 : i1.toInt ≠ 10 := fun e => z10 (Int32.toInt_inj.mp (e.trans (by decide)))
  have w11 : i1.toInt ≠ 11 := fun e => z11 (Int32.toInt_inj.mp (e.trans (by decide)))
  have w12 : i1.toInt ≠ 12 := fun e => z12 (Int32.toInt_inj.mp (e.trans (by decide)))
  have w13 : i1.toInt ≠ 13 := fun e => z13 (Int32.toInt_inj.mp (e.trans (by decide)))
  refine J_tsOut (tgt := 189) C dX5_count_1 (by omega) (by decide) ?_
  refine J_iconst (v := -1 ) (q := 190) C dX5_count_189 rfl rfl ?_
  obtain rfl := Option.some.inj h
  exact J_iret C dX5_count_190
