set_option maxHeartbeats 4000000 in
set_option maxRecDepth 100000 in
theorem c_X5_found {l : Launch} {D : va_G} {cI cR : ClassId} {ad : Nat → Nat} (hap : apN 77 ad) {i1 : Int32} {σ : Sg} {r : Int32} {σo : Sg}  (h : f_X5_found i1 σ = some (r, σo)) : MI l D (tysC cI cR) 77 ad (celC cI cR ad) okC yX5_found cX5_found 2 .int 2 52 [.ref (ad 0), .int i1] σ r σo := by
  unfold f_X5_found at h
  refine entI "WokenYears" hap (by decide +kernel) rfl (Nat.le_of_ble_eq_true rfl) (fun p e s m args below meth c C => ?_)
  refine J_sub (lv' := [(0, .ref (ad 0)), (1, .int i1)]) [0, 1] rfl ?_
  refine J_aload_n (q := 1) C dX5_found_0 rfl rfl 0 rfl ?_
  refine J_iload_n (q := 2) C dX5_found_1 rfl rfl 1 rfl ?_
  refine JC_p_X5_finding (q := 5) C kF_X5_64 dX5_found_2 rfl ?_
  refine jn_elim h (fun σ1 eσ1 h => ?_)
  rw [← eσ1]
  refine J_aload_n (q := 6) C dX5_found_5 rfl rfl 0 rfl ?_
  refine JC_g_X5_findings (q := 9) C kF_X5_42 dX5_found_6 rfl ?_
  refine J_iload_n (q := 10) C dX5_found_9 rfl rfl 1 rfl ?_
  refine J_aload_n (q := 11) C dX5_found_10 rfl rfl 0 rfl ?_
  refine JC_g_X5_findings (q := 14) C kF_X5_42 dX5_found_11 rfl ?_
  refine J_iload_n (q := 15) C dX5_found_14 rfl rfl 1 rfl ?_
  obtain ⟨r2, ec2, h⟩ := bnd_of h
  refine J_callIV (q := 18) (As := [.int i1]) C (c_X0_get hap isI_18 ec2) ok_X0_get kM_X5_68 (lt77I isI_18) (celC_I isI_18) rfl rfl rfl rfl rfl ⟨Nat.le_of_ble_eq_true rfl, Nat.le_of_ble_eq_true rfl⟩ (Nat.le_of_ble_eq_true rfl) dX5_found_15 rfl ?_
  refine J_iconst (v := 1 ) (q := 19) C dX5_found_18 rfl rfl ?_
  refine J_iadd (q := 20) C dX5_found_19 rfl ?_
  obtain ⟨σ3, ec3, h⟩ := bnd_of h
  refine J_callXV (q := 23) (As := [.int i1, .int (r2 + (1 : Int32))]) C (c_X0_set hap isI_18 ec3) ok_X0_set kM_X5_72 (lt77I isI_18) (celC_I isI_18) rfl rfl rfl rfl rfl ⟨Nat.le_of_ble_eq_true rfl, Nat.le_of_ble_eq_true rfl⟩ (Nat.le_of_ble_eq_true rfl) dX5_found_20 rfl ?_
  refine J_bipush (v := -3) (q := 25) C dX5_found_23 rfl rfl ?_
  obtain ⟨rfl, rfl⟩ := Prod.mk.inj (Option.some.inj h)
  exact J_iret C dX5_found_25
set_option maxHeartbeats 4000000 in
set_option maxRecDepth 100000 in
theorem c_X5_within {l : Launch} {D : va_G} {cI cR : ClassId} {ad : Nat → Nat} (hap : apN 77 ad) {i0 : Int32} {i1 : Int32} {i2 : Int32} {σ : Sg} {r : Bool}  (h : f_X5_within i0 i1 i2 = some r) : MI l D (tysC cI cR) 77 ad (celC cI cR ad) okC yX5_within cX5_within 3 .boolean 1 30 [.int i0, .int i1, .int i2] σ (b2i r) σ := by
  unfold f_X5_within at h
  refine entI "WokenYears" hap (by decide +kernel) rfl (Nat.le_of_ble_eq_true rfl) (fun p e s m args below meth c C => ?_)
  refine J_sub (lv' := [(0, .int i0), (1, .int i1), (2, .int i2)]) [0, 1, 2] rfl ?_
  refine J_iload_n (q := 1) C dX5_within_0 rfl rfl 0 rfl ?_
  refine J_iload_n (q := 2) C dX5_within_1 rfl rfl 1 rfl ?_
  refine J_icmp_lt (tgt := 14) (q := 5) C dX5_within_2 rfl (by decide) h (fun _ h => ?_) (fun _ h => ?_)
  · refine J_iconst (v := 0 ) (q := 15) C dX5_within_14 rfl rfl ?_
    obtain rfl := Option.some.inj h
    exact J_zret (b := false) C dX5_within_15
  · refine J_iload_n (q := 6) C dX5_within_5 rfl rfl 0 rfl ?_
    refine J_iload_n (q := 7) C dX5_within_6 rfl rfl 2 rfl ?_
    refine J_icmp_gt (tgt := 14) (q := 10) C dX5_within_7 rfl (by decide) h (fun _ h => ?_) (fun _ h => ?_)
    · refine J_iconst (v := 0 ) (q := 15) C dX5_within_14 rfl rfl ?_
      obtain rfl := Option.some.inj h
      exact J_zret (b := false) C dX5_within_15
    · refine J_iconst (v := 1 ) (q := 11) C dX5_within_10 rfl rfl ?_
      refine J_goto (tgt := 15) C dX5_within_11 (by decide) ?_
      obtain rfl := Option.some.inj h
      exact J_zret (b := true) C dX5_within_15
set_option maxHeartbeats 4000000 in
set_option maxRecDepth 100000 in
theorem c_X5_isDate {l : Launch} {D : va_G} {cI cR : ClassId} {ad : Nat → Nat} (hap : apN 77 ad) {i0 : Int32} {σ : Sg} {r : Bool}  (h : f_X5_isDate i0 = some r) : MI l D (tysC cI cR) 77 ad (celC cI cR ad) okC yX5_isDate cX5_isDate 1 .boolean 2 52 [.int i0] σ (b2i r) σ := by
  unfold f_X5_isDate at h
  refine entI "WokenYears" hap (by decide +kernel) rfl (Nat.le_of_ble_eq_true rfl) (fun p e s m args below meth c C => ?_)
  refine J_sub (lv' := [(0, .int i0)]) [0] rfl ?_
  refine J_iload_n (q := 1) C dX5_isDate_0 rfl rfl 0 rfl ?_
  refine J_iconst (v := 0 ) (q := 2) C dX5_isDate_1 rfl rfl ?_
  refine J_bipush (v := 99) (q := 4) C dX5_isDate_2 rfl rfl ?_
  obtain ⟨r1, ec1, h⟩ := bnd_of h
  refine J_callIS (q := 7) (As := [.int i0, .int (0 : Int32), .int (99 : Int32)]) C (c_X5_within hap  ec1) ok_X5_within kM_X5_75 rfl rfl rfl ⟨Nat.le_of_ble_eq_true rfl, Nat.le_of_ble_eq_true rfl⟩ (Nat.le_of_ble_eq_true rfl) dX5_isDate_4 rfl ?_
  obtain rfl := Option.some.inj h
  exact J_zret (b := _) C dX5_isDate_7
set_option maxHeartbeats 4000000 in
set_option maxRecDepth 100000 in
theorem c_X5_pick {l : Launch} {D : va_G} {cI cR : ClassId} {ad : Nat → Nat} (hap : apN 77 ad) {g0 : Nat} {i1 : Int32} {σ : Sg} {r : (Option Nat)} (ho0 : isRA g0) (h : f_X5_pick g0 i1 = some r) : MR l D (tysC cI cR) 77 ad (celC cI cR ad) okC yX5_pick cX5_pick 2 (.object "WokenYears$Ints") 1 30 [.ref (ad g0), .int i1] σ r σ := by
  unfold f_X5_pick at h
  refine entR "WokenYears" hap (by decide +kernel) rfl (Nat.le_of_ble_eq_true rfl) (fun p e s m args below meth c C => ?_)
  refine J_sub (lv' := [(0, .ref (ad g0)), (1, .int i1)]) [0, 1] rfl ?_
  refine J_iload_n (q := 1) C dX5_pick_0 rfl rfl 1 rfl ?_
  refine J_if_lt (tgt := 16) (q := 4) C dX5_pick_1 rfl (by decide) h (fun _ h => ?_) (fun _ h => ?_)
  · refine J_null (q := 17) C dX5_pick_16 rfl ?_
    obtain rfl := Option.some.inj h
    exact J_aret (r := none) C rfl dX5_pick_17
  · refine J_iload_n (q := 5) C dX5_pick_4 rfl rfl 1 rfl ?_
    refine J_aload_n (q := 6) C dX5_pick_5 rfl rfl 0 rfl ?_
    refine JC_ralen (q := 7) C ho0 dX5_pick_6 rfl ?_
    refine J_icmp_ge (tgt := 16) (q := 10) C dX5_pick_7 rfl (by decide) h (fun _ h => ?_) (fun _ h => ?_)
    · refine J_null (q := 17) C dX5_pick_16 rfl ?_
      obtain rfl := Option.some.inj h
      exact J_aret (r := none) C rfl dX5_pick_17
    · refine J_aload_n (q := 11) C dX5_pick_10 rfl rfl 0 rfl ?_
      refine J_iload_n (q := 12) C dX5_pick_11 rfl rfl 1 rfl ?_
      refine JC_aald (q := 13) C ho0 h dX5_pick_12 rfl (fun hog1 h => ?_)
      refine J_goto (tgt := 17) C dX5_pick_13 (by decide) ?_
      obtain rfl := Option.some.inj h
      exact J_aret (r := (some (rBase g0 + i1.toNatClampNeg))) C rfl dX5_pick_17
theorem X5_pick_isI {g q : Nat} {i1 : Int32} (ho : isRA g) (h : f_X5_pick g i1 = some (some q)) : isI q := by
  unfold f_X5_pick at h
  by_cases h1 : i1 < 0
  · rw [if_pos h1] at h
    cases h
  · rw [if_neg h1] at h
    split at h
    · cases h
    · obtain ⟨hb, h⟩ := ck_of h
      have e := Option.some.inj (Option.some.inj h)
      rw [← e]
      exact isI_of ho hb
set_option maxHeartbeats 4000000 in
set_option maxRecDepth 100000 in
theorem c_X5_refused {l : Launch} {D : va_G} {cI cR : ClassId} {ad : Nat → Nat} (hap : apN 77 ad) {o1 : Option Nat} {σ : Sg} {r : Int32} {σo : Sg} (ho1 : ∀ q, o1 = some q → isI q) (h : f_X5_refused o1 σ = some (r, σo)) : MI l D (tysC cI cR) 77 ad (celC cI cR ad) okC yX5_refused cX5_refused 2 .int 3 73 [.ref (ad 0), va_re ad o1] σ r σo := by
  unfold f_X5_refused at h
  cases o1 with
  | none =>
    have h := oc_none h
    refine entI "WokenYears" hap (by decide +kernel) rfl (Nat.le_of_ble_eq_true rfl) (fun p e s m args below meth c C => ?_)
    refine J_sub (lv' := [(0, .ref (ad 0)), (1, .null)]) [0, 1] rfl ?_
    refine J_aload_nN (q := 1) C dX5_refused_0 rfl rfl 1 rfl ?_
    refine J_ifnonnullN (q := 4) C dX5_refused_1 rfl ?_
    refine J_iconst (v := -1 ) (q := 5) C dX5_refused_4 rfl rfl ?_
    obtain ⟨rfl, rfl⟩ := Prod.mk.inj (Option.some.inj h)
    exact J_iret C dX5_refused_5
  | some q1 =>
    have hq1 := ho1 q1 rfl
    have h := oc_some h
    refine entI "WokenYears" hap (by decide +kernel) rfl (Nat.le_of_ble_eq_true rfl) (fun p e s m args below meth c C => ?_)
    refine J_sub (lv' := [(0, .ref (ad 0)), (1, .ref (ad q1))]) [0, 1] rfl ?_
    refine J_aload_n (q := 1) C dX5_refused_0 rfl rfl 1 rfl ?_
    refine J_ifnonnull (tgt := 6) C dX5_refused_1 (by decide) ?_
    refine J_aload_n (q := 7) C dX5_refused_6 rfl rfl 1 rfl ?_
    refine JC_g_X0_size (q := 10) C hq1 kF_X5_85 dX5_refused_7 rfl ?_
    refine J_if_ge (tgt := 21) (q := 13) C dX5_refused_10 rfl (by decide) h (fun _ h => ?_) (fun _ h => ?_)
    · refine J_iconst (v := 0 ) (q := 22) C dX5_refused_21 rfl rfl ?_
      obtain ⟨rfl, rfl⟩ := Prod.mk.inj (Option.some.inj h)
      exact J_iret C dX5_refused_22
    · refine J_aload_n (q := 14) C dX5_refused_13 rfl rfl 0 rfl ?_
      refine J_iconst (v := 1 ) (q := 15) C dX5_refused_14 rfl rfl ?_
      obtain ⟨r1, σ1, ec1, h⟩ := bnd2_of h
      refine J_callIV (q := 18) (As := [.int (1 : Int32)]) C (c_X5_found hap  ec1) ok_X5_found kM_X5_88 (by decide) rfl rfl rfl rfl rfl rfl ⟨Nat.le_of_ble_eq_true rfl, Nat.le_of_ble_eq_true rfl⟩ (Nat.le_of_ble_eq_true rfl) dX5_refused_15 rfl ?_
      refine J_goto (tgt := 22) C dX5_refused_18 (by decide) ?_
      obtain ⟨rfl, rfl⟩ := Prod.mk.inj (Option.some.inj h)
      exact J_iret C dX5_refused_22
set_option maxHeartbeats 4000000 in
set_option maxRecDepth 100000 in
theorem c_X5_refusedAt {l : Launch} {D : va_G} {cI cR : ClassId} {ad : Nat → Nat} (hap : apN 77 ad) {o1 : Option Nat} {i2 : Int32} {σ : Sg} {r : Int32} {σo : Sg} (ho1 : ∀ q, o1 = some q → isI q) (h : f_X5_refusedAt o1 i2 σ = some (r, σo)) : MI l D (tysC cI cR) 77 ad (celC cI cR ad) okC yX5_refusedAt cX5_refusedAt 4 .int 4 94 [.ref (ad 0), va_re ad o1, .int i2] σ r σo := by
  unfold f_X5_refusedAt at h
  cases o1 with
  | none =>
    have h := oc_none h
    refine entI "WokenYears" hap (by decide +kernel) rfl (Nat.le_of_ble_eq_true rfl) (fun p e s m args below meth c C => ?_)
    refine J_sub (lv' := [(0, .ref (ad 0)), (1, .null), (2, .int i2)]) [0, 1, 2] rfl ?_
    refine J_aload_n (q := 1) C dX5_refusedAt_0 rfl rfl 0 rfl ?_
    refine J_aload_nN (q := 2) C dX5_refusedAt_1 rfl rfl 1 rfl ?_
    obtain ⟨r1, σ1, ec1, h⟩ := bnd2_of h
    refine J_callIV (q := 5) (As := [.null]) C (c_X5_refused hap noneI ec1) ok_X5_refused kM_X5_91 (by decide) rfl rfl rfl rfl rfl rfl ⟨Nat.le_of_ble_eq_true rfl, Nat.le_of_ble_eq_true rfl⟩ (Nat.le_of_ble_eq_true rfl) dX5_refusedAt_2 rfl ?_
    refine J_istore_n (q := 6) C dX5_refusedAt_5 rfl rfl (by decide) rfl ?_
    refine J_aload_nN (q := 7) C dX5_refusedAt_6 rfl rfl 2 rfl ?_
    refine J_ifnullN (tgt := 14) C dX5_refusedAt_7 (by decide) ?_
    refine J_iload_n (q := 15) C dX5_refusedAt_14 rfl rfl 0 rfl ?_
    obtain ⟨rfl, rfl⟩ := Prod.mk.inj (Option.some.inj h)
    exact J_iret C dX5_refusedAt_15
  | some q1 =>
    have hq1 := ho1 q1 rfl
    have h := oc_some h
    refine entI "WokenYears" hap (by decide +kernel) rfl (Nat.le_of_ble_eq_true rfl) (fun p e s m args below meth c C => ?_)
    refine J_sub (lv' := [(0, .ref (ad 0)), (1, .ref (ad q1)), (2, .int i2)]) [0, 1, 2] rfl ?_
    refine J_aload_n (q := 1) C dX5_refusedAt_0 rfl rfl 0 rfl ?_
    refine J_aload_n (q := 2) C dX5_refusedAt_1 rfl rfl 1 rfl ?_
    obtain ⟨r2, σ2, ec2, h⟩ := bnd2_of h
    refine J_callIV (q := 5) (As := [.ref (ad q1)]) C (c_X5_refused hap (someI hq1) ec2) ok_X5_refused kM_X5_91 (by decide) rfl rfl rfl rfl rfl rfl ⟨Nat.le_of_ble_eq_true rfl, Nat.le_of_ble_eq_true rfl⟩ (Nat.le_of_ble_eq_true rfl) dX5_refusedAt_2 rfl ?_
    refine J_istore_n (q := 6) C dX5_refusedAt_5 rfl rfl (by decide) rfl ?_
    refine J_aload_n (q := 7) C dX5_refusedAt_6 rfl rfl 2 rfl ?_
    refine J_ifnull (q := 10) C dX5_refusedAt_7 rfl ?_
    refine J_iload_n (q := 11) C dX5_refusedAt_10 rfl rfl 0 rfl ?_
    refine J_if_eq (tgt := 16) (q := 14) C dX5_refusedAt_11 rfl (by decide) h (fun _ h => ?_) (fun _ h => ?_)
    · refine J_aload_n (q := 17) C dX5_refusedAt_16 rfl rfl 2 rfl ?_
      refine J_iload_n (q := 18) C dX5_refusedAt_17 rfl rfl 3 rfl ?_
      obtain ⟨r3, ec3, h⟩ := bnd_of h
      refine J_callIV (q := 21) (As := [.int i2]) C (c_X0_has hap hq1 ec3) ok_X0_has kM_X5_95 (lt77I hq1) (celC_I hq1) rfl rfl rfl rfl rfl ⟨Nat.le_of_ble_eq_true rfl, Nat.le_of_ble_eq_true rfl⟩ (Nat.le_of_ble_eq_true rfl) dX5_refusedAt_18 rfl ?_
      refine J_ifeq_b (tgt := 28) (q := 24) C dX5_refusedAt_21 rfl (by decide) h (fun _ h => ?_) (fun _ h => ?_)
      · refine J_iconst (v := 0 ) (q := 25) C dX5_refusedAt_24 rfl rfl ?_
        refine J_goto (tgt := 33) C dX5_refusedAt_25 (by decide) ?_
        obtain ⟨rfl, rfl⟩ := Prod.mk.inj (Option.some.inj h)
        exact J_iret C dX5_refusedAt_33
      · refine J_aload_n (q := 29) C dX5_refusedAt_28 rfl rfl 1 rfl ?_
        refine J_iconst (v := 2 ) (q := 30) C dX5_refusedAt_29 rfl rfl ?_
        obtain ⟨r4, σ4, ec4, h⟩ := bnd2_of h
        refine J_callIV (q := 33) (As := [.int (2 : Int32)]) C (c_X5_found hap  ec4) ok_X5_found kM_X5_88 (by decide) rfl rfl rfl rfl rfl rfl ⟨Nat.le_of_ble_eq_true rfl, Nat.le_of_ble_eq_true rfl⟩ (Nat.le_of_ble_eq_true rfl) dX5_refusedAt_30 rfl ?_
        obtain ⟨rfl, rfl⟩ := Prod.mk.inj (Option.some.inj h)
        exact J_iret C dX5_refusedAt_33
    · refine J_iload_n (q := 15) C dX5_refusedAt_14 rfl rfl 0 rfl ?_
      obtain ⟨rfl, rfl⟩ := Prod.mk.inj (Option.some.inj h)
      exact J_iret C dX5_refusedAt_15
set_option maxHeartbeats 4000000 in
set_option maxRecDepth 100000 in
theorem cl_X5_present_4 {p : Program} {l : Launch} {e : Env} {s : State} {m : MethodId} {args : Array Value} {below : List Frame} {meth : Method} {c : Code} {D : va_G} {cI cR : ClassId} {ad : Nat → Nat} (hap : apN 77 ad) (C : Cx p s m args meth c cX5_present 4 "WokenYears" D (tysC cI cR) 77 ad (some .int)) {b0 : Nat} (hb0 : isRA b0) {k34 : Int32 → Option Int32} {σ : Sg} (r : Int32)  (hk34 : ∀ (u1 : Int32), k34 u1 = some r → Jd p l e (rmF 1 30) s m args below meth c D 77 ad (celC cI cR ad) okC 4 (MQ below (QI D (tysC cI cR) 77 ad (celC cI cR ad) okC r σ) args s 0 0 (inA 77 ad)) 34 [(1, .int u1)] [] σ) : ∀ (n : Nat) (x1 : Int32) (x2 : Int32), l_X5_present_4 b0 σ k34 n x1 x2 = some r → Jd p l e (rmF 1 30) s m args below meth c D 77 ad (celC cI cR ad) okC 4 (MQ below (QI D (tysC cI cR) 77 ad (celC cI cR ad) okC r σ) args s 0 0 (inA 77 ad)) 4 [(0, .ref (ad b0)), (1, .int x1), (2, .int x2)] [] σ := by
  intro n
  induction n with
  | zero => intro x1 x2 h; cases h
  | succ n ih =>
    intro x1 x2 h
    unfold l_X5_present_4 at h
    refine J_iload_n (q := 5) C dX5_present_4 rfl rfl 2 rfl ?_
    refine J_aload_n (q := 6) C dX5_present_5 rfl rfl 0 rfl ?_
    refine JC_ralen (q := 7) C hb0 dX5_present_6 rfl ?_
    refine J_icmp_ge (tgt := 34) (q := 10) C dX5_present_7 rfl (by decide) h (fun _ h => ?_) (fun _ h => ?_)
    · refine J_sub [1] rfl ?_
      exact hk34 _ h
    · refine J_aload_n (q := 11) C dX5_present_10 rfl rfl 0 rfl ?_
      refine J_iload_n (q := 12) C dX5_present_11 rfl rfl 2 rfl ?_
      refine JC_aald (q := 13) C hb0 h dX5_present_12 rfl (fun hog1 h => ?_)
      refine J_astore_n (q := 14) C dX5_present_13 rfl rfl (by decide) rfl ?_
      refine J_aload_n (q := 15) C dX5_present_14 rfl rfl 0 rfl ?_
      refine jn_elim h (fun k28 ek28 h => ?_)
      have hk28 : ∀ (u1_28 : Int32), k28 u1_28 = some r → Jd p l e (rmF 1 30) s m args below meth c D 77 ad (celC cI cR ad) okC 4 (MQ below (QI D (tysC cI cR) 77 ad (celC cI cR ad) okC r σ) args s 0 0 (inA 77 ad)) 28 [(0, .ref (ad b0)), (1, .int u1_28), (2, .int x2)] [] σ := by
        intro u1_28 h
        rw [ek28] at h
        refine jn_elim h (fun y2 ey2 h => ?_)
        refine J_iinc (v := y2) (q := 31) C dX5_present_28 rfl 2 rfl (by rw [ey2]; rfl) (by decide) rfl ?_
        refine J_goto (tgt := 4) C dX5_present_31 (by decide) ?_
        refine J_sub [1, 2, 0] rfl ?_
        exact ih _ _ h
      refine J_ifnull (q := 18) C dX5_present_15 rfl ?_
      refine J_aload_n (q := 19) C dX5_present_18 rfl rfl 0 rfl ?_
      refine JC_g_X0_size (q := 22) C hog1 kF_X5_85 dX5_present_19 rfl ?_
      refine J_if_lt (tgt := 28) (q := 25) C dX5_present_22 rfl (by decide) h (fun _ h => ?_) (fun _ h => ?_)
      · refine J_sub [1, 2, 3] rfl ?_
        exact hk28 _ h
      · refine jn_elim h (fun y3 ey3 h => ?_)
        refine J_iinc (v := y3) (q := 28) C dX5_present_25 rfl 2 rfl (by rw [ey3]; rfl) (by decide) rfl ?_
        refine J_sub [2, 0, 3] rfl ?_
        exact hk28 _ h
set_option maxHeartbeats 4000000 in
set_option maxRecDepth 100000 in
theorem c_X5_present {l : Launch} {D : va_G} {cI cR : ClassId} {ad : Nat → Nat} (hap : apN 77 ad) {g0 : Nat} {σ : Sg} {r : Int32} (ho0 : isRA g0) (h : f_X5_present g0 σ = some r) : MI l D (tysC cI cR) 77 ad (celC cI cR ad) okC yX5_present cX5_present 4 .int 1 30 [.ref (ad g0)] σ r σ := by
  unfold f_X5_present at h
  refine entI "WokenYears" hap (by decide +kernel) rfl (Nat.le_of_ble_eq_true rfl) (fun p e s m args below meth c C => ?_)
  refine J_sub (lv' := [(0, .ref (ad g0))]) [0] rfl ?_
  refine J_iconst (v := 0 ) (q := 1) C dX5_present_0 rfl rfl ?_
  refine J_istore_n (q := 2) C dX5_present_1 rfl rfl (by decide) rfl ?_
  refine J_iconst (v := 0 ) (q := 3) C dX5_present_2 rfl rfl ?_
  refine J_istore_n (q := 4) C dX5_present_3 rfl rfl (by decide) rfl ?_
  refine J_sub [2, 1, 0] rfl ?_
  refine cl_X5_present_4 hap C ho0 r  (fun v1_34 h => ?_) FU _ _ h
  · refine J_iload_n (q := 35) C dX5_present_34 rfl rfl 0 rfl ?_
    obtain rfl := Option.some.inj h
    exact J_iret C dX5_present_35
set_option maxHeartbeats 4000000 in
set_option maxRecDepth 100000 in
theorem c_X5_row {l : Launch} {D : va_G} {cI cR : ClassId} {ad : Nat → Nat} (hap : apN 77 ad) {i1 : Int32} {i2 : Int32} {σ : Sg} {r : Int32} {σo : Sg}  (h : f_X5_row i1 i2 σ = some (r, σo)) : MI l D (tysC cI cR) 77 ad (celC cI cR ad) okC yX5_row cX5_row 4 .int 3 73 [.ref (ad 0), .int i1, .int i2] σ r σo := by
  unfold f_X5_row at h
  refine entI "WokenYears" hap (by decide +kernel) rfl (Nat.le_of_ble_eq_true rfl) (fun p e s m args below meth c C => ?_)
  refine J_sub (lv' := [(0, .ref (ad 0)), (1, .int i1), (2, .int i2)]) [0, 1, 2] rfl ?_
  refine J_aload_n (q := 1) C dX5_row_0 rfl rfl 0 rfl ?_
  refine JC_g_X5_rows (q := 4) C kF_X5_13 dX5_row_1 rfl ?_
  refine J_iload_n (q := 5) C dX5_row_4 rfl rfl 1 rfl ?_
  obtain ⟨r1, ec1, h⟩ := bnd_of h
  refine J_callRS (q := 8) (As := [.ref (ad 71), .int i1]) C (c_X5_pick hap isRA_71 ec1) ok_X5_pick kM_X5_99 rfl rfl rfl ⟨Nat.le_of_ble_eq_true rfl, Nat.le_of_ble_eq_true rfl⟩ (Nat.le_of_ble_eq_true rfl) dX5_row_5 rfl ?_
  cases r1 with
  | none =>
    have h := oc_none h
    refine J_st (st' := [.null]) rfl ?_
    refine J_astore_nN (q := 9) C dX5_row_8 rfl rfl (by decide) rfl ?_
    refine J_aload_nN (q := 10) C dX5_row_9 rfl rfl 0 rfl ?_
    refine J_ifnullN (tgt := 19) C dX5_row_10 (by decide) ?_
    refine J_iconst (v := -1 ) (q := 20) C dX5_row_19 rfl rfl ?_
    obtain ⟨rfl, rfl⟩ := Prod.mk.inj (Option.some.inj h)
    exact J_iret C dX5_row_20
  | some g1 =>
    have h := oc_some h
    have ho1 := X5_pick_isI isRA_71 ec1
    refine J_st (st' := [.ref (ad g1)]) rfl ?_
    refine J_astore_n (q := 9) C dX5_row_8 rfl rfl (by decide) rfl ?_
    refine J_aload_n (q := 10) C dX5_row_9 rfl rfl 0 rfl ?_
    refine J_ifnull (q := 13) C dX5_row_10 rfl ?_
    refine J_iload_n (q := 14) C dX5_row_13 rfl rfl 3 rfl ?_
    refine J_bipush (v := 40) (q := 16) C dX5_row_14 rfl rfl ?_
    refine J_icmp_le (tgt := 21) (q := 19) C dX5_row_16 rfl (by decide) h (fun _ h => ?_) (fun _ h => ?_)
    · refine J_iload_n (q := 22) C dX5_row_21 rfl rfl 3 rfl ?_
      refine J_if_ge (tgt := 31) (q := 25) C dX5_row_22 rfl (by decide) h (fun _ h => ?_) (fun _ h => ?_)
      · refine J_aload_n (q := 32) C dX5_row_31 rfl rfl 0 rfl ?_
        refine J_iload_n (q := 33) C dX5_row_32 rfl rfl 3 rfl ?_
        refine J_iconst (v := 0 ) (q := 34) C dX5_row_33 rfl rfl ?_
        obtain ⟨σ2, ec2, h⟩ := bnd_of h
        refine J_callXV (q := 37) (As := [.int i2, .int (0 : Int32)]) C (c_X0_fill hap ho1 ec2) ok_X0_fill kM_X5_60 (lt77I ho1) (celC_I ho1) rfl rfl rfl rfl rfl ⟨Nat.le_of_ble_eq_true rfl, Nat.le_of_ble_eq_true rfl⟩ (Nat.le_of_ble_eq_true rfl) dX5_row_34 rfl ?_
        refine J_iload_n (q := 38) C dX5_row_37 rfl rfl 3 rfl ?_
        obtain ⟨rfl, rfl⟩ := Prod.mk.inj (Option.some.inj h)
        exact J_iret C dX5_row_38
      · refine J_aload_n (q := 26) C dX5_row_25 rfl rfl 1 rfl ?_
        refine J_iconst (v := 5 ) (q := 27) C dX5_row_26 rfl rfl ?_
        obtain ⟨r3, σ3, ec3, h⟩ := bnd2_of h
        refine J_callIV (q := 30) (As := [.int (5 : Int32)]) C (c_X5_found hap  ec3) ok_X5_found kM_X5_88 (by decide) rfl rfl rfl rfl rfl rfl ⟨Nat.le_of_ble_eq_true rfl, Nat.le_of_ble_eq_true rfl⟩ (Nat.le_of_ble_eq_true rfl) dX5_row_27 rfl ?_
        obtain ⟨rfl, rfl⟩ := Prod.mk.inj (Option.some.inj h)
        exact J_iret C dX5_row_30
    · refine J_iconst (v := -1 ) (q := 20) C dX5_row_19 rfl rfl ?_
      obtain ⟨rfl, rfl⟩ := Prod.mk.inj (Option.some.inj h)
      exact J_iret C dX5_row_20
set_option maxHeartbeats 4000000 in
set_option maxRecDepth 100000 in
theorem c_X5_lay {l : Launch} {D : va_G} {cI cR : ClassId} {ad : Nat → Nat} (hap : apN 77 ad) {i1 : Int32} {i2 : Int32} {i3 : Int32} {σ : Sg} {r : Int32} {σo : Sg}  (h : f_X5_lay i1 i2 i3 σ = some (r, σo)) : MI l D (tysC cI cR) 77 ad (celC cI cR ad) okC yX5_lay cX5_lay 6 .int 5 117 [.ref (ad 0), .int i1, .int i2, .int i3] σ r σo := by
  unfold f_X5_lay at h
  refine entI "WokenYears" hap (by decide +kernel) rfl (Nat.le_of_ble_eq_true rfl) (fun p e s m args below meth c C => ?_)
  refine J_sub (lv' := [(0, .ref (ad 0)), (1, .int i1), (2, .int i2), (3, .int i3)]) [0, 1, 2, 3] rfl ?_
  refine J_aload_n (q := 1) C dX5_lay_0 rfl rfl 0 rfl ?_
  refine JC_g_X5_rows (q := 4) C kF_X5_13 dX5_lay_1 rfl ?_
  refine J_iload_n (q := 5) C dX5_lay_4 rfl rfl 1 rfl ?_
  obtain ⟨r1, ec1, h⟩ := bnd_of h
  refine J_callRS (q := 8) (As := [.ref (ad 71), .int i1]) C (c_X5_pick hap isRA_71 ec1) ok_X5_pick kM_X5_99 rfl rfl rfl ⟨Nat.le_of_ble_eq_true rfl, Nat.le_of_ble_eq_true rfl⟩ (Nat.le_of_ble_eq_true rfl) dX5_lay_5 rfl ?_
  cases r1 with
  | none =>
    have h := oc_none h
    refine J_st (st' := [.null]) rfl ?_
    refine J_astoreN (q := 10) C dX5_lay_8 rfl (by decide) rfl ?_
    refine J_aload_n (q := 11) C dX5_lay_10 rfl rfl 1 rfl ?_
    refine J_aloadN (q := 13) C dX5_lay_11 rfl 0 rfl ?_
    refine J_iload_n (q := 14) C dX5_lay_13 rfl rfl 3 rfl ?_
    obtain ⟨r2, σ2, ec2, h⟩ := bnd2_of h
    refine J_callIV (q := 17) (As := [.null, .int i2]) C (c_X5_refusedAt hap noneI ec2) ok_X5_refusedAt kM_X5_103 (by decide) rfl rfl rfl rfl rfl rfl ⟨Nat.le_of_ble_eq_true rfl, Nat.le_of_ble_eq_true rfl⟩ (Nat.le_of_ble_eq_true rfl) dX5_lay_14 rfl ?_
    refine J_istore (q := 19) C dX5_lay_17 rfl (by decide) rfl ?_
    refine J_aloadN (q := 21) C dX5_lay_19 rfl 1 rfl ?_
    refine J_ifnullN (tgt := 29) C dX5_lay_21 (by decide) ?_
    refine J_iload (q := 31) C dX5_lay_29 rfl 0 rfl ?_
    obtain ⟨rfl, rfl⟩ := Prod.mk.inj (Option.some.inj h)
    exact J_iret C dX5_lay_31
  | some g1 =>
    have h := oc_some h
    have ho1 := X5_pick_isI isRA_71 ec1
    refine J_st (st' := [.ref (ad g1)]) rfl ?_
    refine J_astore (q := 10) C dX5_lay_8 rfl (by decide) rfl ?_
    refine J_aload_n (q := 11) C dX5_lay_10 rfl rfl 1 rfl ?_
    refine J_aload (q := 13) C dX5_lay_11 rfl 0 rfl ?_
    refine J_iload_n (q := 14) C dX5_lay_13 rfl rfl 3 rfl ?_
    obtain ⟨r3, σ3, ec3, h⟩ := bnd2_of h
    refine J_callIV (q := 17) (As := [.ref (ad g1), .int i2]) C (c_X5_refusedAt hap (someI ho1) ec3) ok_X5_refusedAt kM_X5_103 (by decide) rfl rfl rfl rfl rfl rfl ⟨Nat.le_of_ble_eq_true rfl, Nat.le_of_ble_eq_true rfl⟩ (Nat.le_of_ble_eq_true rfl) dX5_lay_14 rfl ?_
    refine J_istore (q := 19) C dX5_lay_17 rfl (by decide) rfl ?_
    refine J_aload (q := 21) C dX5_lay_19 rfl 1 rfl ?_
    refine J_ifnull (q := 24) C dX5_lay_21 rfl ?_
    refine J_iload (q := 26) C dX5_lay_24 rfl 0 rfl ?_
    refine J_if_eq (tgt := 32) (q := 29) C dX5_lay_26 rfl (by decide) h (fun _ h => ?_) (fun _ h => ?_)
    · refine J_aload_n (q := 33) C dX5_lay_32 rfl rfl 2 rfl ?_
      refine J_aload (q := 35) C dX5_lay_33 rfl 1 rfl ?_
      refine J_iload_n (q := 36) C dX5_lay_35 rfl rfl 4 rfl ?_
      obtain ⟨r4, ec4, h⟩ := bnd_of h
      refine J_callIV (q := 39) (As := [.int i2]) C (c_X0_get hap ho1 ec4) ok_X0_get kM_X5_68 (lt77I ho1) (celC_I ho1) rfl rfl rfl rfl rfl ⟨Nat.le_of_ble_eq_true rfl, Nat.le_of_ble_eq_true rfl⟩ (Nat.le_of_ble_eq_true rfl) dX5_lay_36 rfl ?_
      refine JC_p_X5_asked (q := 42) C kF_X5_107 dX5_lay_39 rfl ?_
      refine jn_elim h (fun σ5 eσ5 h => ?_)
      rw [← eσ5]
      refine J_aload (q := 44) C dX5_lay_42 rfl 1 rfl ?_
      refine J_iload_n (q := 45) C dX5_lay_44 rfl rfl 4 rfl ?_
      refine J_iload_n (q := 46) C dX5_lay_45 rfl rfl 5 rfl ?_
      obtain ⟨σ6, ec6, h⟩ := bnd_of h
      refine J_callXV (q := 49) (As := [.int i2, .int i3]) C (c_X0_set hap ho1 ec6) ok_X0_set kM_X5_72 (lt77I ho1) (celC_I ho1) rfl rfl rfl rfl rfl ⟨Nat.le_of_ble_eq_true rfl, Nat.le_of_ble_eq_true rfl⟩ (Nat.le_of_ble_eq_true rfl) dX5_lay_46 rfl ?_
      refine J_iconst (v := 1 ) (q := 50) C dX5_lay_49 rfl rfl ?_
      obtain ⟨rfl, rfl⟩ := Prod.mk.inj (Option.some.inj h)
      exact J_iret C dX5_lay_50
    · refine J_iload (q := 31) C dX5_lay_29 rfl 0 rfl ?_
      obtain ⟨rfl, rfl⟩ := Prod.mk.inj (Option.some.inj h)
      exact J_iret C dX5_lay_31
set_option maxHeartbeats 4000000 in
set_option maxRecDepth 100000 in
theorem c_X5_at {l : Launch} {D : va_G} {cI cR : ClassId} {ad : Nat → Nat} (hap : apN 77 ad) {i1 : Int32} {i2 : Int32} {σ : Sg} {r : Int32} {σo : Sg}  (h : f_X5_at i1 i2 σ = some (r, σo)) : MI l D (tysC cI cR) 77 ad (celC cI cR ad) okC yX5_at cX5_at 5 .int 5 117 [.ref (ad 0), .int i1, .int i2] σ r σo := by
  unfold f_X5_at at h
  refine entI "WokenYears" hap (by decide +kernel) rfl (Nat.le_of_ble_eq_true rfl) (fun p e s m args below meth c C => ?_)
  refine J_sub (lv' := [(0, .ref (ad 0)), (1, .int i1), (2, .int i2)]) [0, 1, 2] rfl ?_
  refine J_aload_n (q := 1) C dX5_at_0 rfl rfl 0 rfl ?_
  refine JC_g_X5_rows (q := 4) C kF_X5_13 dX5_at_1 rfl ?_
  refine J_iload_n (q := 5) C dX5_at_4 rfl rfl 1 rfl ?_
  obtain ⟨r1, ec1, h⟩ := bnd_of h
  refine J_callRS (q := 8) (As := [.ref (ad 71), .int i1]) C (c_X5_pick hap isRA_71 ec1) ok_X5_pick kM_X5_99 rfl rfl rfl ⟨Nat.le_of_ble_eq_true rfl, Nat.le_of_ble_eq_true rfl⟩ (Nat.le_of_ble_eq_true rfl) dX5_at_5 rfl ?_
  cases r1 with
  | none =>
    have h := oc_none h
    refine J_st (st' := [.null]) rfl ?_
    refine J_astore_nN (q := 9) C dX5_at_8 rfl rfl (by decide) rfl ?_
    refine J_aload_n (q := 10) C dX5_at_9 rfl rfl 1 rfl ?_
    refine J_aload_nN (q := 11) C dX5_at_10 rfl rfl 0 rfl ?_
    refine J_iload_n (q := 12) C dX5_at_11 rfl rfl 3 rfl ?_
    obtain ⟨r2, σ2, ec2, h⟩ := bnd2_of h
    refine J_callIV (q := 15) (As := [.null, .int i2]) C (c_X5_refusedAt hap noneI ec2) ok_X5_refusedAt kM_X5_103 (by decide) rfl rfl rfl rfl rfl rfl ⟨Nat.le_of_ble_eq_true rfl, Nat.le_of_ble_eq_true rfl⟩ (Nat.le_of_ble_eq_true rfl) dX5_at_12 rfl ?_
    refine J_istore (q := 17) C dX5_at_15 rfl (by decide) rfl ?_
    refine J_aload_nN (q := 18) C dX5_at_17 rfl rfl 1 rfl ?_
    refine J_ifnullN (tgt := 26) C dX5_at_18 (by decide) ?_
    refine J_iload (q := 28) C dX5_at_26 rfl 0 rfl ?_
    obtain ⟨rfl, rfl⟩ := Prod.mk.inj (Option.some.inj h)
    exact J_iret C dX5_at_28
  | some g1 =>
    have h := oc_some h
    have ho1 := X5_pick_isI isRA_71 ec1
    refine J_st (st' := [.ref (ad g1)]) rfl ?_
    refine J_astore_n (q := 9) C dX5_at_8 rfl rfl (by decide) rfl ?_
    refine J_aload_n (q := 10) C dX5_at_9 rfl rfl 1 rfl ?_
    refine J_aload_n (q := 11) C dX5_at_10 rfl rfl 0 rfl ?_
    refine J_iload_n (q := 12) C dX5_at_11 rfl rfl 3 rfl ?_
    obtain ⟨r3, σ3, ec3, h⟩ := bnd2_of h
    refine J_callIV (q := 15) (As := [.ref (ad g1), .int i2]) C (c_X5_refusedAt hap (someI ho1) ec3) ok_X5_refusedAt kM_X5_103 (by decide) rfl rfl rfl rfl rfl rfl ⟨Nat.le_of_ble_eq_true rfl, Nat.le_of_ble_eq_true rfl⟩ (Nat.le_of_ble_eq_true rfl) dX5_at_12 rfl ?_
    refine J_istore (q := 17) C dX5_at_15 rfl (by decide) rfl ?_
    refine J_aload_n (q := 18) C dX5_at_17 rfl rfl 1 rfl ?_
    refine J_ifnull (q := 21) C dX5_at_18 rfl ?_
    refine J_iload (q := 23) C dX5_at_21 rfl 0 rfl ?_
    refine J_if_eq (tgt := 29) (q := 26) C dX5_at_23 rfl (by decide) h (fun _ h => ?_) (fun _ h => ?_)
    · refine J_aload_n (q := 30) C dX5_at_29 rfl rfl 2 rfl ?_
      refine J_aload_n (q := 31) C dX5_at_30 rfl rfl 1 rfl ?_
      refine J_iload_n (q := 32) C dX5_at_31 rfl rfl 4 rfl ?_
      obtain ⟨r4, ec4, h⟩ := bnd_of h
      refine J_callIV (q := 35) (As := [.int i2]) C (c_X0_get hap ho1 ec4) ok_X0_get kM_X5_68 (lt77I ho1) (celC_I ho1) rfl rfl rfl rfl rfl ⟨Nat.le_of_ble_eq_true rfl, Nat.le_of_ble_eq_true rfl⟩ (Nat.le_of_ble_eq_true rfl) dX5_at_32 rfl ?_
      refine JC_p_X5_asked (q := 38) C kF_X5_107 dX5_at_35 rfl ?_
      refine jn_elim h (fun σ5 eσ5 h => ?_)
      rw [← eσ5]
      refine J_iconst (v := 1 ) (q := 39) C dX5_at_38 rfl rfl ?_
      obtain ⟨rfl, rfl⟩ := Prod.mk.inj (Option.some.inj h)
      exact J_iret C dX5_at_39
    · refine J_iload (q := 28) C dX5_at_26 rfl 0 rfl ?_
      obtain ⟨rfl, rfl⟩ := Prod.mk.inj (Option.some.inj h)
      exact J_iret C dX5_at_28
set_option maxHeartbeats 4000000 in
set_option maxRecDepth 100000 in
theorem c_X5_text {l : Launch} {D : va_G} {cI cR : ClassId} {ad : Nat → Nat} (hap : apN 77 ad) {i1 : Int32} {i2 : Int32} {σ : Sg} {r : Int32} {σo : Sg}  (h : f_X5_text i1 i2 σ = some (r, σo)) : MI l D (tysC cI cR) 77 ad (celC cI cR ad) okC yX5_text cX5_text 4 .int 3 73 [.ref (ad 0), .int i1, .int i2] σ r σo := by
  unfold f_X5_text at h
  refine entI "WokenYears" hap (by decide +kernel) rfl (Nat.le_of_ble_eq_true rfl) (fun p e s m args below meth c C => ?_)
  refine J_sub (lv' := [(0, .ref (ad 0)), (1, .int i1), (2, .int i2)]) [0, 1, 2] rfl ?_
  refine J_aload_n (q := 1) C dX5_text_0 rfl rfl 0 rfl ?_
  refine JC_g_X5_texts (q := 4) C kF_X5_17 dX5_text_1 rfl ?_
  refine J_iload_n (q := 5) C dX5_text_4 rfl rfl 1 rfl ?_
  obtain ⟨r1, ec1, h⟩ := bnd_of h
  refine J_callRS (q := 8) (As := [.ref (ad 72), .int i1]) C (c_X5_pick hap isRA_72 ec1) ok_X5_pick kM_X5_99 rfl rfl rfl ⟨Nat.le_of_ble_eq_true rfl, Nat.le_of_ble_eq_true rfl⟩ (Nat.le_of_ble_eq_true rfl) dX5_text_5 rfl ?_
  cases r1 with
  | none =>
    have h := oc_none h
    refine J_st (st' := [.null]) rfl ?_
    refine J_astore_nN (q := 9) C dX5_text_8 rfl rfl (by decide) rfl ?_
    refine J_aload_nN (q := 10) C dX5_text_9 rfl rfl 0 rfl ?_
    refine J_ifnullN (tgt := 19) C dX5_text_10 (by decide) ?_
    refine J_iconst (v := -1 ) (q := 20) C dX5_text_19 rfl rfl ?_
    obtain ⟨rfl, rfl⟩ := Prod.mk.inj (Option.some.inj h)
    exact J_iret C dX5_text_20
  | some g1 =>
    have h := oc_some h
    have ho1 := X5_pick_isI isRA_72 ec1
    refine J_st (st' := [.ref (ad g1)]) rfl ?_
    refine J_astore_n (q := 9) C dX5_text_8 rfl rfl (by decide) rfl ?_
    refine J_aload_n (q := 10) C dX5_text_9 rfl rfl 0 rfl ?_
    refine J_ifnull (q := 13) C dX5_text_10 rfl ?_
    refine J_iload_n (q := 14) C dX5_text_13 rfl rfl 3 rfl ?_
    refine J_bipush (v := 60) (q := 16) C dX5_text_14 rfl rfl ?_
    refine J_icmp_le (tgt := 21) (q := 19) C dX5_text_16 rfl (by decide) h (fun _ h => ?_) (fun _ h => ?_)
    · refine J_iload_n (q := 22) C dX5_text_21 rfl rfl 3 rfl ?_
      refine J_if_ge (tgt := 31) (q := 25) C dX5_text_22 rfl (by decide) h (fun _ h => ?_) (fun _ h => ?_)
      · refine J_aload_n (q := 32) C dX5_text_31 rfl rfl 0 rfl ?_
        refine J_iload_n (q := 33) C dX5_text_32 rfl rfl 3 rfl ?_
        refine J_bipush (v := 32) (q := 35) C dX5_text_33 rfl rfl ?_
        obtain ⟨σ2, ec2, h⟩ := bnd_of h
        refine J_callXV (q := 38) (As := [.int i2, .int (32 : Int32)]) C (c_X0_fill hap ho1 ec2) ok_X0_fill kM_X5_60 (lt77I ho1) (celC_I ho1) rfl rfl rfl rfl rfl ⟨Nat.le_of_ble_eq_true rfl, Nat.le_of_ble_eq_true rfl⟩ (Nat.le_of_ble_eq_true rfl) dX5_text_35 rfl ?_
        refine J_iload_n (q := 39) C dX5_text_38 rfl rfl 3 rfl ?_
        obtain ⟨rfl, rfl⟩ := Prod.mk.inj (Option.some.inj h)
        exact J_iret C dX5_text_39
      · refine J_aload_n (q := 26) C dX5_text_25 rfl rfl 1 rfl ?_
        refine J_iconst (v := 5 ) (q := 27) C dX5_text_26 rfl rfl ?_
        obtain ⟨r3, σ3, ec3, h⟩ := bnd2_of h
        refine J_callIV (q := 30) (As := [.int (5 : Int32)]) C (c_X5_found hap  ec3) ok_X5_found kM_X5_88 (by decide) rfl rfl rfl rfl rfl rfl ⟨Nat.le_of_ble_eq_true rfl, Nat.le_of_ble_eq_true rfl⟩ (Nat.le_of_ble_eq_true rfl) dX5_text_27 rfl ?_
        obtain ⟨rfl, rfl⟩ := Prod.mk.inj (Option.some.inj h)
        exact J_iret C dX5_text_30
    · refine J_iconst (v := -1 ) (q := 20) C dX5_text_19 rfl rfl ?_
      obtain ⟨rfl, rfl⟩ := Prod.mk.inj (Option.some.inj h)
      exact J_iret C dX5_text_20
set_option maxHeartbeats 4000000 in
set_option maxRecDepth 100000 in
theorem c_X5_put {l : Launch} {D : va_G} {cI cR : ClassId} {ad : Nat → Nat} (hap : apN 77 ad) {i1 : Int32} {i2 : Int32} {i3 : Int32} {σ : Sg} {r : Int32} {σo : Sg}  (h : f_X5_put i1 i2 i3 σ = some (r, σo)) : MI l D (tysC cI cR) 77 ad (celC cI cR ad) okC yX5_put cX5_put 7 .int 5 117 [.ref (ad 0), .int i1, .int i2, .int i3] σ r σo := by
  unfold f_X5_put at h
  refine entI "WokenYears" hap (by decide +kernel) rfl (Nat.le_of_ble_eq_true rfl) (fun p e s m args below meth c C => ?_)
  refine J_sub (lv' := [(0, .ref (ad 0)), (1, .int i1), (2, .int i2), (3, .int i3)]) [0, 1, 2, 3] rfl ?_
  refine J_aload_n (q := 1) C dX5_put_0 rfl rfl 0 rfl ?_
  refine JC_g_X5_texts (q := 4) C kF_X5_17 dX5_put_1 rfl ?_
  refine J_iload_n (q := 5) C dX5_put_4 rfl rfl 1 rfl ?_
  obtain ⟨r1, ec1, h⟩ := bnd_of h
  refine J_callRS (q := 8) (As := [.ref (ad 72), .int i1]) C (c_X5_pick hap isRA_72 ec1) ok_X5_pick kM_X5_99 rfl rfl rfl ⟨Nat.le_of_ble_eq_true rfl, Nat.le_of_ble_eq_true rfl⟩ (Nat.le_of_ble_eq_true rfl) dX5_put_5 rfl ?_
  cases r1 with
  | none =>
    have h := oc_none h
    refine J_st (st' := [.null]) rfl ?_
    refine J_astoreN (q := 10) C dX5_put_8 rfl (by decide) rfl ?_
    refine J_aload_n (q := 11) C dX5_put_10 rfl rfl 1 rfl ?_
    refine J_aloadN (q := 13) C dX5_put_11 rfl 0 rfl ?_
    refine J_iload_n (q := 14) C dX5_put_13 rfl rfl 3 rfl ?_
    obtain ⟨r2, σ2, ec2, h⟩ := bnd2_of h
    refine J_callIV (q := 17) (As := [.null, .int i2]) C (c_X5_refusedAt hap noneI ec2) ok_X5_refusedAt kM_X5_103 (by decide) rfl rfl rfl rfl rfl rfl ⟨Nat.le_of_ble_eq_true rfl, Nat.le_of_ble_eq_true rfl⟩ (Nat.le_of_ble_eq_true rfl) dX5_put_14 rfl ?_
    refine J_istore (q := 19) C dX5_put_17 rfl (by decide) rfl ?_
    refine J_aloadN (q := 21) C dX5_put_19 rfl 1 rfl ?_
    refine J_ifnullN (tgt := 29) C dX5_put_21 (by decide) ?_
    refine J_iload (q := 31) C dX5_put_29 rfl 0 rfl ?_
    obtain ⟨rfl, rfl⟩ := Prod.mk.inj (Option.some.inj h)
    exact J_iret C dX5_put_31
  | some g1 =>
    have h := oc_some h
    have ho1 := X5_pick_isI isRA_72 ec1
    refine J_st (st' := [.ref (ad g1)]) rfl ?_
    refine J_astore (q := 10) C dX5_put_8 rfl (by decide) rfl ?_
    refine J_aload_n (q := 11) C dX5_put_10 rfl rfl 1 rfl ?_
    refine J_aload (q := 13) C dX5_put_11 rfl 0 rfl ?_
    refine J_iload_n (q := 14) C dX5_put_13 rfl rfl 3 rfl ?_
    obtain ⟨r3, σ3, ec3, h⟩ := bnd2_of h
    refine J_callIV (q := 17) (As := [.ref (ad g1), .int i2]) C (c_X5_refusedAt hap (someI ho1) ec3) ok_X5_refusedAt kM_X5_103 (by decide) rfl rfl rfl rfl rfl rfl ⟨Nat.le_of_ble_eq_true rfl, Nat.le_of_ble_eq_true rfl⟩ (Nat.le_of_ble_eq_true rfl) dX5_put_14 rfl ?_
    refine J_istore (q := 19) C dX5_put_17 rfl (by decide) rfl ?_
    refine J_aload (q := 21) C dX5_put_19 rfl 1 rfl ?_
    refine J_ifnull (q := 24) C dX5_put_21 rfl ?_
    refine J_iload (q := 26) C dX5_put_24 rfl 0 rfl ?_
    refine J_if_eq (tgt := 32) (q := 29) C dX5_put_26 rfl (by decide) h (fun _ h => ?_) (fun _ h => ?_)
    · refine J_aload (q := 34) C dX5_put_32 rfl 1 rfl ?_
      refine J_iload_n (q := 35) C dX5_put_34 rfl rfl 4 rfl ?_
      obtain ⟨r4, ec4, h⟩ := bnd_of h
      refine J_callIV (q := 38) (As := [.int i2]) C (c_X0_get hap ho1 ec4) ok_X0_get kM_X5_68 (lt77I ho1) (celC_I ho1) rfl rfl rfl rfl rfl ⟨Nat.le_of_ble_eq_true rfl, Nat.le_of_ble_eq_true rfl⟩ (Nat.le_of_ble_eq_true rfl) dX5_put_35 rfl ?_
      refine J_istore (q := 40) C dX5_put_38 rfl (by decide) rfl ?_
      refine J_aload (q := 42) C dX5_put_40 rfl 2 rfl ?_
      refine J_iload_n (q := 43) C dX5_put_42 rfl rfl 5 rfl ?_
      refine J_iload_n (q := 44) C dX5_put_43 rfl rfl 6 rfl ?_
      refine J_i2b (q := 45) C dX5_put_44 rfl ?_
      obtain ⟨σ5, ec5, h⟩ := bnd_of h
      refine J_callXV (q := 48) (As := [.int i2, .int (i3.toInt8.toInt32)]) C (c_X0_set hap ho1 ec5) ok_X0_set kM_X5_72 (lt77I ho1) (celC_I ho1) rfl rfl rfl rfl rfl ⟨Nat.le_of_ble_eq_true rfl, Nat.le_of_ble_eq_true rfl⟩ (Nat.le_of_ble_eq_true rfl) dX5_put_45 rfl ?_
      refine J_sipush (v := 1000) (q := 51) C dX5_put_48 rfl rfl ?_
      refine J_iload (q := 53) C dX5_put_51 rfl 0 rfl ?_
      refine J_iadd (q := 54) C dX5_put_53 rfl ?_
      obtain ⟨rfl, rfl⟩ := Prod.mk.inj (Option.some.inj h)
      exact J_iret C dX5_put_54
    · refine J_iload (q := 31) C dX5_put_29 rfl 0 rfl ?_
      obtain ⟨rfl, rfl⟩ := Prod.mk.inj (Option.some.inj h)
      exact J_iret C dX5_put_31
set_option maxHeartbeats 4000000 in
set_option maxRecDepth 100000 in
theorem c_X5_fault {l : Launch} {D : va_G} {cI cR : ClassId} {ad : Nat → Nat} (hap : apN 77 ad) {i1 : Int32} {σ : Sg} {r : Int32} {σo : Sg}  (h : f_X5_fault i1 σ = some (r, σo)) : MI l D (tysC cI cR) 77 ad (celC cI cR ad) okC yX5_fault cX5_fault 4 .int 7 163 [.ref (ad 0), .int i1] σ r σo := by
  unfold f_X5_fault at h
  refine entI "WokenYears" hap (by decide +kernel) rfl (Nat.le_of_ble_eq_true rfl) (fun p e s m args below meth c C => ?_)
  refine J_sub (lv' := [(0, .ref (ad 0)), (1, .int i1)]) [0, 1] rfl ?_
  refine J_aload_n (q := 1) C dX5_fault_0 rfl rfl 0 rfl ?_
  refine JC_g_X5_texts (q := 4) C kF_X5_17 dX5_fault_1 rfl ?_
  refine J_iload_n (q := 5) C dX5_fault_4 rfl rfl 1 rfl ?_
  obtain ⟨r1, ec1, h⟩ := bnd_of h
  refine J_callRS (q := 8) (As := [.ref (ad 72), .int i1]) C (c_X5_pick hap isRA_72 ec1) ok_X5_pick kM_X5_99 rfl rfl rfl ⟨Nat.le_of_ble_eq_true rfl, Nat.le_of_ble_eq_true rfl⟩ (Nat.le_of_ble_eq_true rfl) dX5_fault_5 rfl ?_
  cases r1 with
  | none =>
    have h := oc_none h
    refine J_st (st' := [.null]) rfl ?_
    refine J_astore_nN (q := 9) C dX5_fault_8 rfl rfl (by decide) rfl ?_
    refine J_aload_n (q := 10) C dX5_fault_9 rfl rfl 1 rfl ?_
    refine J_aload_nN (q := 11) C dX5_fault_10 rfl rfl 0 rfl ?_
    obtain ⟨r2, σ2, ec2, h⟩ := bnd2_of h
    refine J_callIV (q := 14) (As := [.null]) C (c_X5_refused hap noneI ec2) ok_X5_refused kM_X5_91 (by decide) rfl rfl rfl rfl rfl rfl ⟨Nat.le_of_ble_eq_true rfl, Nat.le_of_ble_eq_true rfl⟩ (Nat.le_of_ble_eq_true rfl) dX5_fault_11 rfl ?_
    refine J_istore_n (q := 15) C dX5_fault_14 rfl rfl (by decide) rfl ?_
    refine J_aload_nN (q := 16) C dX5_fault_15 rfl rfl 1 rfl ?_
    refine J_ifnullN (tgt := 23) C dX5_fault_16 (by decide) ?_
    refine J_iload_n (q := 24) C dX5_fault_23 rfl rfl 0 rfl ?_
    obtain ⟨rfl, rfl⟩ := Prod.mk.inj (Option.some.inj h)
    exact J_iret C dX5_fault_24
  | some g1 =>
    have h := oc_some h
    have ho1 := X5_pick_isI isRA_72 ec1
    refine J_st (st' := [.ref (ad g1)]) rfl ?_
    refine J_astore_n (q := 9) C dX5_fault_8 rfl rfl (by decide) rfl ?_
    refine J_aload_n (q := 10) C dX5_fault_9 rfl rfl 1 rfl ?_
    refine J_aload_n (q := 11) C dX5_fault_10 rfl rfl 0 rfl ?_
    obtain ⟨r3, σ3, ec3, h⟩ := bnd2_of h
    refine J_callIV (q := 14) (As := [.ref (ad g1)]) C (c_X5_refused hap (someI ho1) ec3) ok_X5_refused kM_X5_91 (by decide) rfl rfl rfl rfl rfl rfl ⟨Nat.le_of_ble_eq_true rfl, Nat.le_of_ble_eq_true rfl⟩ (Nat.le_of_ble_eq_true rfl) dX5_fault_11 rfl ?_
    refine J_istore_n (q := 15) C dX5_fault_14 rfl rfl (by decide) rfl ?_
    refine J_aload_n (q := 16) C dX5_fault_15 rfl rfl 1 rfl ?_
    refine J_ifnull (q := 19) C dX5_fault_16 rfl ?_
    refine J_iload_n (q := 20) C dX5_fault_19 rfl rfl 0 rfl ?_
    refine J_if_eq (tgt := 25) (q := 23) C dX5_fault_20 rfl (by decide) h (fun _ h => ?_) (fun _ h => ?_)
    · refine J_aload_n (q := 26) C dX5_fault_25 rfl rfl 2 rfl ?_
      refine JC_g_X5_reader (q := 29) C kF_X5_26 dX5_fault_26 rfl ?_
      refine J_aload_n (q := 30) C dX5_fault_29 rfl rfl 1 rfl ?_
      refine J_aload_n (q := 31) C dX5_fault_30 rfl rfl 2 rfl ?_
      refine JC_g_X5_draft (q := 34) C kF_X5_53 dX5_fault_31 rfl (fun hs4 => ?_)
      obtain ⟨r5, σ5, ec5, h⟩ := bnd2_of h
      refine J_callIV (q := 37) (As := [.ref (ad g1), .ref (ad (gR σ3 1))]) C (c_X2_read hap ho1 hs4 ec5) ok_X2_read kM_X5_121 (by decide) rfl rfl rfl rfl rfl rfl ⟨Nat.le_of_ble_eq_true rfl, Nat.le_of_ble_eq_true rfl⟩ (Nat.le_of_ble_eq_true rfl) dX5_fault_34 rfl ?_
      obtain ⟨rfl, rfl⟩ := Prod.mk.inj (Option.some.inj h)
      exact J_iret C dX5_fault_37
    · refine J_iload_n (q := 24) C dX5_fault_23 rfl rfl 0 rfl ?_
      obtain ⟨rfl, rfl⟩ := Prod.mk.inj (Option.some.inj h)
      exact J_iret C dX5_fault_24
set_option maxHeartbeats 4000000 in
set_option maxRecDepth 100000 in
theorem cl_X5_town_87 {p : Program} {l : Launch} {e : Env} {s : State} {m : MethodId} {args : Array Value} {below : List Frame} {meth : Method} {c : Code} {D : va_G} {cI cR : ClassId} {ad : Nat → Nat} (hap : apN 77 ad) (C : Cx p s m args meth c cX5_town 7 "WokenYears" D (tysC cI cR) 77 ad (some .int)) {k122 : Sg → Option (Int32 × Sg)} (r : Int32) (σo : Sg)  (hk122 : ∀ (σ1 : Sg), k122 σ1 = some (r, σo) → Jd p l e (rmF 7 163) s m args below meth c D 77 ad (celC cI cR ad) okC 7 (MQ below (QI D (tysC cI cR) 77 ad (celC cI cR ad) okC r σo) args s 0 0 (inA 77 ad)) 122 [(0, .ref (ad 0))] [] σ1) : ∀ (n : Nat) (x5 : Int32) (σx : Sg), l_X5_town_87 k122 n x5 σx = some (r, σo) → Jd p l e (rmF 7 163) s m args below meth c D 77 ad (celC cI cR ad) okC 7 (MQ below (QI D (tysC cI cR) 77 ad (celC cI cR ad) okC r σo) args s 0 0 (inA 77 ad)) 87 [(0, .ref (ad 0)), (5, .int x5)] [] σx := by
  intro n
  induction n with
  | zero => intro x5 σx h; cases h
  | succ n ih =>
    intro x5 σx h
    unfold l_X5_town_87 at h
    refine J_iload (q := 89) C dX5_town_87 rfl 1 rfl ?_
    refine J_aload_n (q := 90) C dX5_town_89 rfl rfl 0 rfl ?_
    refine JC_g_X5_kept (q := 93) C kF_X5_20 dX5_town_90 rfl ?_
    refine JC_ralen (q := 94) C isRA_73 dX5_town_93 rfl ?_
    refine J_icmp_ge (tgt := 122) (q := 97) C dX5_town_94 rfl (by decide) h (fun _ h => ?_) (fun _ h => ?_)
    · refine J_sub [0] rfl ?_
      exact hk122 _ h
    · refine J_aload_n (q := 98) C dX5_town_97 rfl rfl 0 rfl ?_
      refine JC_g_X5_kept (q := 101) C kF_X5_20 dX5_town_98 rfl ?_
      refine J_iload (q := 103) C dX5_town_101 rfl 1 rfl ?_
      refine JC_aald (q := 104) C isRA_73 h dX5_town_103 rfl (fun hog14 h => ?_)
      refine J_astore (q := 106) C dX5_town_104 rfl (by decide) rfl ?_
      refine J_aload (q := 108) C dX5_town_106 rfl 0 rfl ?_
      refine jn_elim h (fun k116 ek116 h => ?_)
      have hk116 : ∀ (σj116 : Sg), k116 σj116 = some (r, σo) → Jd p l e (rmF 7 163) s m args below meth c D 77 ad (celC cI cR ad) okC 7 (MQ below (QI D (tysC cI cR) 77 ad (celC cI cR ad) okC r σo) args s 0 0 (inA 77 ad)) 116 [(0, .ref (ad 0)), (5, .int x5)] [] σj116 := by
        intro σj116 h
        rw [ek116] at h
        refine jn_elim h (fun y15 ey15 h => ?_)
        refine J_iinc (v := y15) (q := 119) C dX5_town_116 rfl 1 rfl (by rw [ey15]; rfl) (by decide) rfl ?_
        refine J_goto (tgt := 87) C dX5_town_119 (by decide) ?_
        refine J_sub [1, 0] rfl ?_
        exact ih _ _ h
      refine J_ifnull (q := 111) C dX5_town_108 rfl ?_
      refine J_aload (q := 113) C dX5_town_111 rfl 0 rfl ?_
      obtain ⟨σ16, ec16, h⟩ := bnd_of h
      refine J_callXV (q := 116) (As := []) C (c_X0_drop hap hog14 ec16) ok_X0_drop kM_X5_110 (lt77I hog14) (celC_I hog14) rfl rfl rfl rfl rfl ⟨Nat.le_of_ble_eq_true rfl, Nat.le_of_ble_eq_true rfl⟩ (Nat.le_of_ble_eq_true rfl) dX5_town_113 rfl ?_
      refine J_sub [1, 2] rfl ?_
      exact hk116 _ h
set_option maxHeartbeats 4000000 in
set_option maxRecDepth 100000 in
theorem c_X5_town {l : Launch} {D : va_G} {cI cR : ClassId} {ad : Nat → Nat} (hap : apN 77 ad) {i1 : Int32} {σ : Sg} {r : Int32} {σo : Sg}  (h : f_X5_town i1 σ = some (r, σo)) : MI l D (tysC cI cR) 77 ad (celC cI cR ad) okC yX5_town cX5_town 7 .int 7 163 [.ref (ad 0), .int i1] σ r σo := by
  unfold f_X5_town at h
  refine entI "WokenYears" hap (by decide +kernel) rfl (Nat.le_of_ble_eq_true rfl) (fun p e s m args below meth c C => ?_)
  refine J_sub (lv' := [(0, .ref (ad 0)), (1, .int i1)]) [0, 1] rfl ?_
  refine J_aload_n (q := 1) C dX5_town_0 rfl rfl 0 rfl ?_
  refine JC_g_X5_texts (q := 4) C kF_X5_17 dX5_town_1 rfl ?_
  refine J_iload_n (q := 5) C dX5_town_4 rfl rfl 1 rfl ?_
  obtain ⟨r1, ec1, h⟩ := bnd_of h
  refine J_callRS (q := 8) (As := [.ref (ad 72), .int i1]) C (c_X5_pick hap isRA_72 ec1) ok_X5_pick kM_X5_99 rfl rfl rfl ⟨Nat.le_of_ble_eq_true rfl, Nat.le_of_ble_eq_true rfl⟩ (Nat.le_of_ble_eq_true rfl) dX5_town_5 rfl ?_
  cases r1 with
  | none =>
    have h := oc_none h
    refine J_st (st' := [.null]) rfl ?_
    refine J_astore_nN (q := 9) C dX5_town_8 rfl rfl (by decide) rfl ?_
    refine J_aload_n (q := 10) C dX5_town_9 rfl rfl 1 rfl ?_
    refine J_aload_nN (q := 11) C dX5_town_10 rfl rfl 0 rfl ?_
    obtain ⟨r2, σ2, ec2, h⟩ := bnd2_of h
    refine J_callIV (q := 14) (As := [.null]) C (c_X5_refused hap noneI ec2) ok_X5_refused kM_X5_91 (by decide) rfl rfl rfl rfl rfl rfl ⟨Nat.le_of_ble_eq_true rfl, Nat.le_of_ble_eq_true rfl⟩ (Nat.le_of_ble_eq_true rfl) dX5_town_11 rfl ?_
    refine J_istore_n (q := 15) C dX5_town_14 rfl rfl (by decide) rfl ?_
    refine J_aload_nN (q := 16) C dX5_town_15 rfl rfl 1 rfl ?_
    refine J_ifnullN (tgt := 23) C dX5_town_16 (by decide) ?_
    refine J_iload_n (q := 24) C dX5_town_23 rfl rfl 0 rfl ?_
    obtain ⟨rfl, rfl⟩ := Prod.mk.inj (Option.some.inj h)
    exact J_iret C dX5_town_24
  | some g1 =>
    have h := oc_some h
    have ho1 := X5_pick_isI isRA_72 ec1
    refine J_st (st' := [.ref (ad g1)]) rfl ?_
    refine J_astore_n (q := 9) C dX5_town_8 rfl rfl (by decide) rfl ?_
    refine J_aload_n (q := 10) C dX5_town_9 rfl rfl 1 rfl ?_
    refine J_aload_n (q := 11) C dX5_town_10 rfl rfl 0 rfl ?_
    obtain ⟨r3, σ3, ec3, h⟩ := bnd2_of h
    refine J_callIV (q := 14) (As := [.ref (ad g1)]) C (c_X5_refused hap (someI ho1) ec3) ok_X5_refused kM_X5_91 (by decide) rfl rfl rfl rfl rfl rfl ⟨Nat.le_of_ble_eq_true rfl, Nat.le_of_ble_eq_true rfl⟩ (Nat.le_of_ble_eq_true rfl) dX5_town_11 rfl ?_
    refine J_istore_n (q := 15) C dX5_town_14 rfl rfl (by decide) rfl ?_
    refine J_aload_n (q := 16) C dX5_town_15 rfl rfl 1 rfl ?_
    refine J_ifnull (q := 19) C dX5_town_16 rfl ?_
    refine J_iload_n (q := 20) C dX5_town_19 rfl rfl 0 rfl ?_
    refine J_if_eq (tgt := 25) (q := 23) C dX5_town_20 rfl (by decide) h (fun _ h => ?_) (fun _ h => ?_)
    · refine J_aload_n (q := 26) C dX5_town_25 rfl rfl 2 rfl ?_
      refine JC_g_X5_reader (q := 29) C kF_X5_26 dX5_town_26 rfl ?_
      refine J_aload_n (q := 30) C dX5_town_29 rfl rfl 1 rfl ?_
      refine J_aload_n (q := 31) C dX5_town_30 rfl rfl 2 rfl ?_
      refine JC_g_X5_draft (q := 34) C kF_X5_53 dX5_town_31 rfl (fun hs4 => ?_)
      obtain ⟨r5, σ5, ec5, h⟩ := bnd2_of h
      refine J_callIV (q := 37) (As := [.ref (ad g1), .ref (ad (gR σ3 1))]) C (c_X2_read hap ho1 hs4 ec5) ok_X2_read kM_X5_121 (by decide) rfl rfl rfl rfl rfl rfl ⟨Nat.le_of_ble_eq_true rfl, Nat.le_of_ble_eq_true rfl⟩ (Nat.le_of_ble_eq_true rfl) dX5_town_34 rfl ?_
      refine J_bipush (v := -9) (q := 39) C dX5_town_37 rfl rfl ?_
      refine J_icmp_eq (tgt := 45) (q := 42) C dX5_town_39 rfl (by decide) h (fun _ h => ?_) (fun _ h => ?_)
      · refine J_aload_n (q := 46) C dX5_town_45 rfl rfl 2 rfl ?_
        refine JC_g_X5_street (q := 49) C kF_X5_49 dX5_town_46 rfl (fun hs6 => ?_)
        refine J_astore (q := 51) C dX5_town_49 rfl (by decide) rfl ?_
        refine J_aload_n (q := 52) C dX5_town_51 rfl rfl 3 rfl ?_
        refine J_aload_n (q := 53) C dX5_town_52 rfl rfl 3 rfl ?_
        refine JC_g_X5_draft (q := 56) C kF_X5_53 dX5_town_53 rfl (fun hs7 => ?_)
        refine JC_p_X5_street (q := 59) C hs7 kF_X5_49 dX5_town_56 rfl ?_
        refine jn_elim h (fun σ8 eσ8 h => ?_)
        rw [← eσ8]
        refine J_aload_n (q := 60) C dX5_town_59 rfl rfl 3 rfl ?_
        refine J_aload (q := 62) C dX5_town_60 rfl 0 rfl ?_
        refine JC_p_X5_draft (q := 65) C hs6 kF_X5_53 dX5_town_62 rfl ?_
        refine jn_elim h (fun σ9 eσ9 h => ?_)
        rw [← eσ9]
        refine J_aload_n (q := 66) C dX5_town_65 rfl rfl 3 rfl ?_
        refine JC_g_X5_street (q := 69) C kF_X5_49 dX5_town_66 rfl (fun hs10 => ?_)
        refine JC_g_X4_deeds (q := 72) C hs10 kF_X5_125 dX5_town_69 rfl ?_
        refine J_iconst (v := 0 ) (q := 73) C dX5_town_72 rfl rfl ?_
        refine J_iconst (v := 0 ) (q := 74) C dX5_town_73 rfl rfl ?_
        obtain ⟨σ11, ec11, h⟩ := bnd_of h
        refine J_callXV (q := 77) (As := [.int (0 : Int32), .int (0 : Int32)]) C (c_X0_fill hap (isI_st hs10 6 (by decide)) ec11) ok_X0_fill kM_X5_60 (lt77I (isI_st hs10 6 (by decide))) (celC_I (isI_st hs10 6 (by decide))) rfl rfl rfl rfl rfl ⟨Nat.le_of_ble_eq_true rfl, Nat.le_of_ble_eq_true rfl⟩ (Nat.le_of_ble_eq_true rfl) dX5_town_74 rfl ?_
        refine J_aload_n (q := 78) C dX5_town_77 rfl rfl 3 rfl ?_
        refine JC_g_X5_street (q := 81) C kF_X5_49 dX5_town_78 rfl (fun hs12 => ?_)
        obtain ⟨σ13, ec13, h⟩ := bnd_of h
        refine J_callXV (q := 84) (As := []) C (c_X4_replay hap hs12 ec13) ok_X4_replay kM_X5_128 (lt77S hs12) (celC_S hs12) rfl rfl rfl rfl rfl ⟨Nat.le_of_ble_eq_true rfl, Nat.le_of_ble_eq_true rfl⟩ (Nat.le_of_ble_eq_true rfl) dX5_town_81 rfl ?_
        refine J_iconst (v := 0 ) (q := 85) C dX5_town_84 rfl rfl ?_
        refine J_istore (q := 87) C dX5_town_85 rfl (by decide) rfl ?_
        refine J_sub [4, 0] rfl ?_
        refine cl_X5_town_87 hap C r σo  (fun σv122 h => ?_) FU _ _ h
        · refine J_aload_n (q := 123) C dX5_town_122 rfl rfl 0 rfl ?_
          refine JC_g_X5_street (q := 126) C kF_X5_49 dX5_town_123 rfl (fun hs17 => ?_)
          refine JC_g_X4_size (q := 129) C hs17 kF_X5_131 dX5_town_126 rfl ?_
          obtain ⟨rfl, rfl⟩ := Prod.mk.inj (Option.some.inj h)
          exact J_iret C dX5_town_129
      · refine J_bipush (v := -4) (q := 44) C dX5_town_42 rfl rfl ?_
        obtain ⟨rfl, rfl⟩ := Prod.mk.inj (Option.some.inj h)
        exact J_iret C dX5_town_44
    · refine J_iload_n (q := 24) C dX5_town_23 rfl rfl 0 rfl ?_
      obtain ⟨rfl, rfl⟩ := Prod.mk.inj (Option.some.inj h)
      exact J_iret C dX5_town_24
set_option maxHeartbeats 4000000 in
set_option maxRecDepth 100000 in
theorem c_X5_house {l : Launch} {D : va_G} {cI cR : ClassId} {ad : Nat → Nat} (hap : apN 77 ad) {i1 : Int32} {i2 : Int32} {σ : Sg} {r : Int32} {σo : Sg}  (h : f_X5_house i1 i2 σ = some (r, σo)) : MI l D (tysC cI cR) 77 ad (celC cI cR ad) okC yX5_house cX5_house 3 .int 5 120 [.ref (ad 0), .int i1, .int i2] σ r σo := by
  unfold f_X5_house at h
  refine entI "WokenYears" hap (by decide +kernel) rfl (Nat.le_of_ble_eq_true rfl) (fun p e s m args below meth c C => ?_)
  refine J_sub (lv' := [(0, .ref (ad 0)), (1, .int i1), (2, .int i2)]) [0, 1, 2] rfl ?_
  refine J_aload_n (q := 1) C dX5_house_0 rfl rfl 0 rfl ?_
  refine JC_g_X5_street (q := 4) C kF_X5_49 dX5_house_1 rfl (fun hs1 => ?_)
  refine J_iload_n (q := 5) C dX5_house_4 rfl rfl 1 rfl ?_
  obtain ⟨r2, ec2, h⟩ := bnd_of h
  refine J_callIV (q := 8) (As := [.int i1]) C (c_X4_isHouse hap hs1 ec2) ok_X4_isHouse kM_X5_132 (lt77S hs1) (celC_S hs1) rfl rfl rfl rfl rfl ⟨Nat.le_of_ble_eq_true rfl, Nat.le_of_ble_eq_true rfl⟩ (Nat.le_of_ble_eq_true rfl) dX5_house_5 rfl ?_
  refine J_ifeq_b (tgt := 20) (q := 11) C dX5_house_8 rfl (by decide) h (fun _ h => ?_) (fun _ h => ?_)
  · refine J_iload_n (q := 12) C dX5_house_11 rfl rfl 2 rfl ?_
    refine J_iconst (v := 0 ) (q := 13) C dX5_house_12 rfl rfl ?_
    refine J_iconst (v := 5 ) (q := 14) C dX5_house_13 rfl rfl ?_
    obtain ⟨r3, ec3, h⟩ := bnd_of h
    refine J_callIS (q := 17) (As := [.int i2, .int (0 : Int32), .int (5 : Int32)]) C (c_X5_within hap  ec3) ok_X5_within kM_X5_75 rfl rfl rfl ⟨Nat.le_of_ble_eq_true rfl, Nat.le_of_ble_eq_true rfl⟩ (Nat.le_of_ble_eq_true rfl) dX5_house_14 rfl ?_
    refine J_ifne_b (tgt := 22) (q := 20) C dX5_house_17 rfl (by decide) h (fun _ h => ?_) (fun _ h => ?_)
    · refine J_aload_n (q := 23) C dX5_house_22 rfl rfl 0 rfl ?_
      refine J_aload_n (q := 24) C dX5_house_23 rfl rfl 0 rfl ?_
      refine JC_g_X5_street (q := 27) C kF_X5_49 dX5_house_24 rfl (fun hs4 => ?_)
      refine J_iload_n (q := 28) C dX5_house_27 rfl rfl 1 rfl ?_
      refine J_iload_n (q := 29) C dX5_house_28 rfl rfl 2 rfl ?_
      obtain ⟨r5, ec5, h⟩ := bnd_of h
      refine J_callIV (q := 32) (As := [.int i1, .int i2]) C (c_X4_tell hap hs4 ec5) ok_X4_tell kM_X5_135 (lt77S hs4) (celC_S hs4) rfl rfl rfl rfl rfl ⟨Nat.le_of_ble_eq_true rfl, Nat.le_of_ble_eq_true rfl⟩ (Nat.le_of_ble_eq_true rfl) dX5_house_29 rfl ?_
      refine JC_p_X5_asked (q := 35) C kF_X5_107 dX5_house_32 rfl ?_
      refine jn_elim h (fun σ6 eσ6 h => ?_)
      rw [← eσ6]
      refine J_iconst (v := 1 ) (q := 36) C dX5_house_35 rfl rfl ?_
      obtain ⟨rfl, rfl⟩ := Prod.mk.inj (Option.some.inj h)
      exact J_iret C dX5_house_36
    · refine J_iconst (v := -1 ) (q := 21) C dX5_house_20 rfl rfl ?_
      obtain ⟨rfl, rfl⟩ := Prod.mk.inj (Option.some.inj h)
      exact J_iret C dX5_house_21
  · refine J_iconst (v := -1 ) (q := 21) C dX5_house_20 rfl rfl ?_
    obtain ⟨rfl, rfl⟩ := Prod.mk.inj (Option.some.inj h)
    exact J_iret C dX5_house_21
set_option maxHeartbeats 4000000 in
set_option maxRecDepth 100000 in
theorem c_X5_isFull {l : Launch} {D : va_G} {cI cR : ClassId} {ad : Nat → Nat} (hap : apN 77 ad) {i1 : Int32} {σ : Sg} {r : Bool}  (h : f_X5_isFull i1 σ = some r) : MI l D (tysC cI cR) 77 ad (celC cI cR ad) okC yX5_isFull cX5_isFull 2 .boolean 1 30 [.ref (ad 0), .int i1] σ (b2i r) σ := by
  unfold f_X5_isFull at h
  refine entI "WokenYears" hap (by decide +kernel) rfl (Nat.le_of_ble_eq_true rfl) (fun p e s m args below meth c C => ?_)
  refine J_sub (lv' := [(0, .ref (ad 0)), (1, .int i1)]) [0, 1] rfl ?_
  refine J_aload_n (q := 1) C dX5_isFull_0 rfl rfl 0 rfl ?_
  refine JC_g_X5_street (q := 4) C kF_X5_49 dX5_isFull_1 rfl (fun hs1 => ?_)
  refine JC_g_X4_deeds (q := 7) C hs1 kF_X5_125 dX5_isFull_4 rfl ?_
  refine JC_g_X0_size (q := 10) C (isI_st hs1 6 (by decide)) kF_X5_85 dX5_isFull_7 rfl ?_
  refine J_iload_n (q := 11) C dX5_isFull_10 rfl rfl 1 rfl ?_
  refine J_iadd (q := 12) C dX5_isFull_11 rfl ?_
  refine J_bipush (v := 40) (q := 14) C dX5_isFull_12 rfl rfl ?_
  refine J_icmp_le (tgt := 21) (q := 17) C dX5_isFull_14 rfl (by decide) h (fun _ h => ?_) (fun _ h => ?_)
  · refine J_iconst (v := 0 ) (q := 22) C dX5_isFull_21 rfl rfl ?_
    obtain rfl := Option.some.inj h
    exact J_zret (b := false) C dX5_isFull_22
  · refine J_iconst (v := 1 ) (q := 18) C dX5_isFull_17 rfl rfl ?_
    refine J_goto (tgt := 22) C dX5_isFull_18 (by decide) ?_
    obtain rfl := Option.some.inj h
    exact J_zret (b := true) C dX5_isFull_22
set_option maxHeartbeats 4000000 in
set_option maxRecDepth 100000 in
theorem c_X5_walk {l : Launch} {D : va_G} {cI cR : ClassId} {ad : Nat → Nat} (hap : apN 77 ad) {i1 : Int32} {σ : Sg} {r : Int32} {σo : Sg}  (h : f_X5_walk i1 σ = some (r, σo)) : MI l D (tysC cI cR) 77 ad (celC cI cR ad) okC yX5_walk cX5_walk 2 .int 6 145 [.ref (ad 0), .int i1] σ r σo := by
  unfold f_X5_walk at h
  refine entI "WokenYears" hap (by decide +kernel) rfl (Nat.le_of_ble_eq_true rfl) (fun p e s m args below meth c C => ?_)
  refine J_sub (lv' := [(0, .ref (ad 0)), (1, .int i1)]) [0, 1] rfl ?_
  refine J_aload_n (q := 1) C dX5_walk_0 rfl rfl 0 rfl ?_
  refine JC_g_X5_street (q := 4) C kF_X5_49 dX5_walk_1 rfl (fun hs1 => ?_)
  refine J_iload_n (q := 5) C dX5_walk_4 rfl rfl 1 rfl ?_
  obtain ⟨r2, ec2, h⟩ := bnd_of h
  refine J_callIV (q := 8) (As := [.int i1]) C (c_X4_isHouse hap hs1 ec2) ok_X4_isHouse kM_X5_132 (lt77S hs1) (celC_S hs1) rfl rfl rfl rfl rfl ⟨Nat.le_of_ble_eq_true rfl, Nat.le_of_ble_eq_true rfl⟩ (Nat.le_of_ble_eq_true rfl) dX5_walk_5 rfl ?_
  refine J_ifne_b (tgt := 13) (q := 11) C dX5_walk_8 rfl (by decide) h (fun _ h => ?_) (fun _ h => ?_)
  · refine J_aload_n (q := 14) C dX5_walk_13 rfl rfl 0 rfl ?_
    refine JC_g_X5_street (q := 17) C kF_X5_49 dX5_walk_14 rfl (fun hs3 => ?_)
    refine JC_g_X4_place (q := 20) C hs3 kF_X5_169 dX5_walk_17 rfl ?_
    refine J_iload_n (q := 21) C dX5_walk_20 rfl rfl 1 rfl ?_
    refine J_icmp_ne (tgt := 27) (q := 24) C dX5_walk_21 rfl (by decide) h (fun _ h => ?_) (fun _ h => ?_)
    · refine J_bipush (v := -4) (q := 26) C dX5_walk_24 rfl rfl ?_
      obtain ⟨rfl, rfl⟩ := Prod.mk.inj (Option.some.inj h)
      exact J_iret C dX5_walk_26
    · refine J_aload_n (q := 28) C dX5_walk_27 rfl rfl 0 rfl ?_
      refine J_iconst (v := 1 ) (q := 29) C dX5_walk_28 rfl rfl ?_
      obtain ⟨r4, ec4, h⟩ := bnd_of h
      refine J_callIV (q := 32) (As := [.int (1 : Int32)]) C (c_X5_isFull hap  ec4) ok_X5_isFull kM_X5_172 (by decide) rfl rfl rfl rfl rfl rfl ⟨Nat.le_of_ble_eq_true rfl, Nat.le_of_ble_eq_true rfl⟩ (Nat.le_of_ble_eq_true rfl) dX5_walk_29 rfl ?_
      refine J_ifeq_b (tgt := 38) (q := 35) C dX5_walk_32 rfl (by decide) h (fun _ h => ?_) (fun _ h => ?_)
      · refine J_bipush (v := -2) (q := 37) C dX5_walk_35 rfl rfl ?_
        obtain ⟨rfl, rfl⟩ := Prod.mk.inj (Option.some.inj h)
        exact J_iret C dX5_walk_37
      · refine J_aload_n (q := 39) C dX5_walk_38 rfl rfl 0 rfl ?_
        refine JC_g_X5_street (q := 42) C kF_X5_49 dX5_walk_39 rfl (fun hs5 => ?_)
        refine J_iconst (v := 0 ) (q := 43) C dX5_walk_42 rfl rfl ?_
        refine J_iload_n (q := 44) C dX5_walk_43 rfl rfl 1 rfl ?_
        refine J_iconst (v := 0 ) (q := 45) C dX5_walk_44 rfl rfl ?_
        obtain ⟨σ6, ec6, h⟩ := bnd_of h
        refine J_callXV (q := 48) (As := [.int (0 : Int32), .int i1, .int (0 : Int32)]) C (c_X4_does hap hs5 ec6) ok_X4_does kM_X5_175 (lt77S hs5) (celC_S hs5) rfl rfl rfl rfl rfl ⟨Nat.le_of_ble_eq_true rfl, Nat.le_of_ble_eq_true rfl⟩ (Nat.le_of_ble_eq_true rfl) dX5_walk_45 rfl ?_
        refine J_aload_n (q := 49) C dX5_walk_48 rfl rfl 0 rfl ?_
        refine JC_g_X5_street (q := 52) C kF_X5_49 dX5_walk_49 rfl (fun hs7 => ?_)
        refine JC_g_X4_minute (q := 55) C hs7 kF_X5_179 dX5_walk_52 rfl ?_
        obtain ⟨rfl, rfl⟩ := Prod.mk.inj (Option.some.inj h)
        exact J_iret C dX5_walk_55
  · refine J_iconst (v := -1 ) (q := 12) C dX5_walk_11 rfl rfl ?_
    obtain ⟨rfl, rfl⟩ := Prod.mk.inj (Option.some.inj h)
    exact J_iret C dX5_walk_12
set_option maxHeartbeats 4000000 in
set_option maxRecDepth 100000 in
theorem c_X5_tap {l : Launch} {D : va_G} {cI cR : ClassId} {ad : Nat → Nat} (hap : apN 77 ad)  {σ : Sg} {r : Int32} {σo : Sg}  (h : f_X5_tap σ = some (r, σo)) : MI l D (tysC cI cR) 77 ad (celC cI cR ad) okC yX5_tap cX5_tap 1 .int 6 145 [.ref (ad 0)] σ r σo := by
  unfold f_X5_tap at h
  refine entI "WokenYears" hap (by decide +kernel) rfl (Nat.le_of_ble_eq_true rfl) (fun p e s m args below meth c C => ?_)
  refine J_sub (lv' := [(0, .ref (ad 0))]) [0] rfl ?_
  refine J_aload_n (q := 1) C dX5_tap_0 rfl rfl 0 rfl ?_
  refine JC_g_X5_street (q := 4) C kF_X5_49 dX5_tap_1 rfl (fun hs1 => ?_)
  refine JC_g_X4_size (q := 7) C hs1 kF_X5_131 dX5_tap_4 rfl ?_
  refine J_if_ne (tgt := 13) (q := 10) C dX5_tap_7 rfl (by decide) h (fun _ h => ?_) (fun _ h => ?_)
  · refine J_bipush (v := -4) (q := 12) C dX5_tap_10 rfl rfl ?_
    obtain ⟨rfl, rfl⟩ := Prod.mk.inj (Option.some.inj h)
    exact J_iret C dX5_tap_12
  · refine J_aload_n (q := 14) C dX5_tap_13 rfl rfl 0 rfl ?_
    refine J_iconst (v := 1 ) (q := 15) C dX5_tap_14 rfl rfl ?_
    obtain ⟨r2, ec2, h⟩ := bnd_of h
    refine J_callIV (q := 18) (As := [.int (1 : Int32)]) C (c_X5_isFull hap  ec2) ok_X5_isFull kM_X5_172 (by decide) rfl rfl rfl rfl rfl rfl ⟨Nat.le_of_ble_eq_true rfl, Nat.le_of_ble_eq_true rfl⟩ (Nat.le_of_ble_eq_true rfl) dX5_tap_15 rfl ?_
    refine J_ifeq_b (tgt := 24) (q := 21) C dX5_tap_18 rfl (by decide) h (fun _ h => ?_) (fun _ h => ?_)
    · refine J_bipush (v := -2) (q := 23) C dX5_tap_21 rfl rfl ?_
      obtain ⟨rfl, rfl⟩ := Prod.mk.inj (Option.some.inj h)
      exact J_iret C dX5_tap_23
    · refine J_aload_n (q := 25) C dX5_tap_24 rfl rfl 0 rfl ?_
      refine JC_g_X5_street (q := 28) C kF_X5_49 dX5_tap_25 rfl (fun hs3 => ?_)
      refine J_iconst (v := 1 ) (q := 29) C dX5_tap_28 rfl rfl ?_
      refine J_iconst (v := 0 ) (q := 30) C dX5_tap_29 rfl rfl ?_
      refine J_iconst (v := 0 ) (q := 31) C dX5_tap_30 rfl rfl ?_
      obtain ⟨σ4, ec4, h⟩ := bnd_of h
      refine J_callXV (q := 34) (As := [.int (1 : Int32), .int (0 : Int32), .int (0 : Int32)]) C (c_X4_does hap hs3 ec4) ok_X4_does kM_X5_175 (lt77S hs3) (celC_S hs3) rfl rfl rfl rfl rfl ⟨Nat.le_of_ble_eq_true rfl, Nat.le_of_ble_eq_true rfl⟩ (Nat.le_of_ble_eq_true rfl) dX5_tap_31 rfl ?_
      refine J_aload_n (q := 35) C dX5_tap_34 rfl rfl 0 rfl ?_
      refine JC_g_X5_street (q := 38) C kF_X5_49 dX5_tap_35 rfl (fun hs5 => ?_)
      refine J_aload_n (q := 39) C dX5_tap_38 rfl rfl 0 rfl ?_
      refine JC_g_X5_street (q := 42) C kF_X5_49 dX5_tap_39 rfl (fun hs6 => ?_)
      refine JC_g_X4_place (q := 45) C hs6 kF_X5_169 dX5_tap_42 rfl ?_
      obtain ⟨r7, ec7, h⟩ := bnd_of h
      refine J_callIV (q := 48) (As := [.int (gS σ4 (16 * (gR σ4 0) + 13))]) C (c_X4_isAwake hap hs5 ec7) ok_X4_isAwake kM_X5_182 (lt77S hs5) (celC_S hs5) rfl rfl rfl rfl rfl ⟨Nat.le_of_ble_eq_true rfl, Nat.le_of_ble_eq_true rfl⟩ (Nat.le_of_ble_eq_true rfl) dX5_tap_45 rfl ?_
      refine J_ifeq_b (tgt := 55) (q := 51) C dX5_tap_48 rfl (by decide) h (fun _ h => ?_) (fun _ h => ?_)
      · refine J_iconst (v := 1 ) (q := 52) C dX5_tap_51 rfl rfl ?_
        refine J_goto (tgt := 56) C dX5_tap_52 (by decide) ?_
        obtain ⟨rfl, rfl⟩ := Prod.mk.inj (Option.some.inj h)
        exact J_iret C dX5_tap_56
      · refine J_iconst (v := 0 ) (q := 56) C dX5_tap_55 rfl rfl ?_
        obtain ⟨rfl, rfl⟩ := Prod.mk.inj (Option.some.inj h)
        exact J_iret C dX5_tap_56
set_option maxHeartbeats 4000000 in
set_option maxRecDepth 100000 in
theorem c_X5_slate {l : Launch} {D : va_G} {cI cR : ClassId} {ad : Nat → Nat} (hap : apN 77 ad) {i1 : Int32} {i2 : Int32} {σ : Sg} {r : Int32} {σo : Sg}  (h : f_X5_slate i1 i2 σ = some (r, σo)) : MI l D (tysC cI cR) 77 ad (celC cI cR ad) okC yX5_slate cX5_slate 4 .int 6 145 [.ref (ad 0), .int i1, .int i2] σ r σo := by
  unfold f_X5_slate at h
  refine entI "WokenYears" hap (by decide +kernel) rfl (Nat.le_of_ble_eq_true rfl) (fun p e s m args below meth c C => ?_)
  refine J_sub (lv' := [(0, .ref (ad 0)), (1, .int i1), (2, .int i2)]) [0, 1, 2] rfl ?_
  refine J_aload_n (q := 1) C dX5_slate_0 rfl rfl 0 rfl ?_
  refine JC_g_X5_street (q := 4) C kF_X5_49 dX5_slate_1 rfl (fun hs1 => ?_)
  refine J_iload_n (q := 5) C dX5_slate_4 rfl rfl 1 rfl ?_
  obtain ⟨r2, ec2, h⟩ := bnd_of h
  refine J_callIV (q := 8) (As := [.int i1]) C (c_X4_isHouse hap hs1 ec2) ok_X4_isHouse kM_X5_132 (lt77S hs1) (celC_S hs1) rfl rfl rfl rfl rfl ⟨Nat.le_of_ble_eq_true rfl, Nat.le_of_ble_eq_true rfl⟩ (Nat.le_of_ble_eq_true rfl) dX5_slate_5 rfl ?_
  refine J_ifeq_b (tgt := 18) (q := 11) C dX5_slate_8 rfl (by decide) h (fun _ h => ?_) (fun _ h => ?_)
  · refine J_iload_n (q := 12) C dX5_slate_11 rfl rfl 2 rfl ?_
    obtain ⟨r3, ec3, h⟩ := bnd_of h
    refine J_callIS (q := 15) (As := [.int i2]) C (c_X5_isDate hap  ec3) ok_X5_isDate kM_X5_185 rfl rfl rfl ⟨Nat.le_of_ble_eq_true rfl, Nat.le_of_ble_eq_true rfl⟩ (Nat.le_of_ble_eq_true rfl) dX5_slate_12 rfl ?_
    refine J_ifne_b (tgt := 20) (q := 18) C dX5_slate_15 rfl (by decide) h (fun _ h => ?_) (fun _ h => ?_)
    · refine J_aload_n (q := 21) C dX5_slate_20 rfl rfl 0 rfl ?_
      refine JC_g_X5_street (q := 24) C kF_X5_49 dX5_slate_21 rfl (fun hs4 => ?_)
      refine JC_g_X4_dates (q := 27) C hs4 kF_X5_146 dX5_slate_24 rfl ?_
      refine J_iload_n (q := 28) C dX5_slate_27 rfl rfl 1 rfl ?_
      obtain ⟨r5, ec5, h⟩ := bnd_of h
      refine J_callIV (q := 31) (As := [.int i1]) C (c_X0_get hap (isI_st hs4 3 (by decide)) ec5) ok_X0_get kM_X5_68 (lt77I (isI_st hs4 3 (by decide))) (celC_I (isI_st hs4 3 (by decide))) rfl rfl rfl rfl rfl ⟨Nat.le_of_ble_eq_true rfl, Nat.le_of_ble_eq_true rfl⟩ (Nat.le_of_ble_eq_true rfl) dX5_slate_28 rfl ?_
      refine J_istore_n (q := 32) C dX5_slate_31 rfl rfl (by decide) rfl ?_
      refine J_iload_n (q := 33) C dX5_slate_32 rfl rfl 0 rfl ?_
      refine J_iload_n (q := 34) C dX5_slate_33 rfl rfl 3 rfl ?_
      refine J_icmp_ne (tgt := 40) (q := 37) C dX5_slate_34 rfl (by decide) h (fun _ h => ?_) (fun _ h => ?_)
      · refine J_bipush (v := -4) (q := 39) C dX5_slate_37 rfl rfl ?_
        obtain ⟨rfl, rfl⟩ := Prod.mk.inj (Option.some.inj h)
        exact J_iret C dX5_slate_39
      · refine J_aload_n (q := 41) C dX5_slate_40 rfl rfl 1 rfl ?_
        refine J_iconst (v := 1 ) (q := 42) C dX5_slate_41 rfl rfl ?_
        obtain ⟨r6, ec6, h⟩ := bnd_of h
        refine J_callIV (q := 45) (As := [.int (1 : Int32)]) C (c_X5_isFull hap  ec6) ok_X5_isFull kM_X5_172 (by decide) rfl rfl rfl rfl rfl rfl ⟨Nat.le_of_ble_eq_true rfl, Nat.le_of_ble_eq_true rfl⟩ (Nat.le_of_ble_eq_true rfl) dX5_slate_42 rfl ?_
        refine J_ifeq_b (tgt := 51) (q := 48) C dX5_slate_45 rfl (by decide) h (fun _ h => ?_) (fun _ h => ?_)
        · refine J_bipush (v := -2) (q := 50) C dX5_slate_48 rfl rfl ?_
          obtain ⟨rfl, rfl⟩ := Prod.mk.inj (Option.some.inj h)
          exact J_iret C dX5_slate_50
        · refine J_aload_n (q := 52) C dX5_slate_51 rfl rfl 1 rfl ?_
          refine JC_g_X5_street (q := 55) C kF_X5_49 dX5_slate_52 rfl (fun hs7 => ?_)
          refine J_iconst (v := 2 ) (q := 56) C dX5_slate_55 rfl rfl ?_
          refine J_iload_n (q := 57) C dX5_slate_56 rfl rfl 2 rfl ?_
          refine J_iload_n (q := 58) C dX5_slate_57 rfl rfl 3 rfl ?_
          obtain ⟨σ8, ec8, h⟩ := bnd_of h
          refine J_callXV (q := 61) (As := [.int (2 : Int32), .int i1, .int i2]) C (c_X4_does hap hs7 ec8) ok_X4_does kM_X5_175 (lt77S hs7) (celC_S hs7) rfl rfl rfl rfl rfl ⟨Nat.le_of_ble_eq_true rfl, Nat.le_of_ble_eq_true rfl⟩ (Nat.le_of_ble_eq_true rfl) dX5_slate_58 rfl ?_
          refine J_iload_n (q := 62) C dX5_slate_61 rfl rfl 0 rfl ?_
          obtain ⟨rfl, rfl⟩ := Prod.mk.inj (Option.some.inj h)
          exact J_iret C dX5_slate_62
    · refine J_iconst (v := -1 ) (q := 19) C dX5_slate_18 rfl rfl ?_
      obtain ⟨rfl, rfl⟩ := Prod.mk.inj (Option.some.inj h)
      exact J_iret C dX5_slate_19
  · refine J_iconst (v := -1 ) (q := 19) C dX5_slate_18 rfl rfl ?_
    obtain ⟨rfl, rfl⟩ := Prod.mk.inj (Option.some.inj h)
    exact J_iret C dX5_slate_19
set_option maxHeartbeats 4000000 in
set_option maxRecDepth 100000 in
theorem c_X5_frost {l : Launch} {D : va_G} {cI cR : ClassId} {ad : Nat → Nat} (hap : apN 77 ad) {i1 : Int32} {σ : Sg} {r : Int32} {σo : Sg}  (h : f_X5_frost i1 σ = some (r, σo)) : MI l D (tysC cI cR) 77 ad (celC cI cR ad) okC yX5_frost cX5_frost 2 .int 6 145 [.ref (ad 0), .int i1] σ r σo := by
  unfold f_X5_frost at h
  refine entI "WokenYears" hap (by decide +kernel) rfl (Nat.le_of_ble_eq_true rfl) (fun p e s m args below meth c C => ?_)
  refine J_sub (lv' := [(0, .ref (ad 0)), (1, .int i1)]) [0, 1] rfl ?_
  refine J_iload_n (q := 1) C dX5_frost_0 rfl rfl 1 rfl ?_
  refine J_iconst (v := 0 ) (q := 2) C dX5_frost_1 rfl rfl ?_
  refine J_iconst (v := 1 ) (q := 3) C dX5_frost_2 rfl rfl ?_
  obtain ⟨r1, ec1, h⟩ := bnd_of h
  refine J_callIS (q := 6) (As := [.int i1, .int (0 : Int32), .int (1 : Int32)]) C (c_X5_within hap  ec1) ok_X5_within kM_X5_75 rfl rfl rfl ⟨Nat.le_of_ble_eq_true rfl, Nat.le_of_ble_eq_true rfl⟩ (Nat.le_of_ble_eq_true rfl) dX5_frost_3 rfl ?_
  refine J_ifne_b (tgt := 11) (q := 9) C dX5_frost_6 rfl (by decide) h (fun _ h => ?_) (fun _ h => ?_)
  · refine J_aload_n (q := 12) C dX5_frost_11 rfl rfl 0 rfl ?_
    refine JC_g_X5_street (q := 15) C kF_X5_49 dX5_frost_12 rfl (fun hs2 => ?_)
    refine JC_g_X4_size (q := 18) C hs2 kF_X5_131 dX5_frost_15 rfl ?_
    refine J_if_eq (tgt := 32) (q := 21) C dX5_frost_18 rfl (by decide) h (fun _ h => ?_) (fun _ h => ?_)
    · refine J_bipush (v := -4) (q := 34) C dX5_frost_32 rfl rfl ?_
      obtain ⟨rfl, rfl⟩ := Prod.mk.inj (Option.some.inj h)
      exact J_iret C dX5_frost_34
    · refine J_aload_n (q := 22) C dX5_frost_21 rfl rfl 0 rfl ?_
      refine JC_g_X5_street (q := 25) C kF_X5_49 dX5_frost_22 rfl (fun hs3 => ?_)
      refine JC_g_X4_frost (q := 28) C hs3 kF_X5_152 dX5_frost_25 rfl ?_
      refine J_iload_n (q := 29) C dX5_frost_28 rfl rfl 1 rfl ?_
      refine J_icmp_ne (tgt := 35) (q := 32) C dX5_frost_29 rfl (by decide) h (fun _ h => ?_) (fun _ h => ?_)
      · refine J_bipush (v := -4) (q := 34) C dX5_frost_32 rfl rfl ?_
        obtain ⟨rfl, rfl⟩ := Prod.mk.inj (Option.some.inj h)
        exact J_iret C dX5_frost_34
      · refine J_aload_n (q := 36) C dX5_frost_35 rfl rfl 0 rfl ?_
        refine J_iconst (v := 1 ) (q := 37) C dX5_frost_36 rfl rfl ?_
        obtain ⟨r4, ec4, h⟩ := bnd_of h
        refine J_callIV (q := 40) (As := [.int (1 : Int32)]) C (c_X5_isFull hap  ec4) ok_X5_isFull kM_X5_172 (by decide) rfl rfl rfl rfl rfl rfl ⟨Nat.le_of_ble_eq_true rfl, Nat.le_of_ble_eq_true rfl⟩ (Nat.le_of_ble_eq_true rfl) dX5_frost_37 rfl ?_
        refine J_ifeq_b (tgt := 46) (q := 43) C dX5_frost_40 rfl (by decide) h (fun _ h => ?_) (fun _ h => ?_)
        · refine J_bipush (v := -2) (q := 45) C dX5_frost_43 rfl rfl ?_
          obtain ⟨rfl, rfl⟩ := Prod.mk.inj (Option.some.inj h)
          exact J_iret C dX5_frost_45
        · refine J_aload_n (q := 47) C dX5_frost_46 rfl rfl 0 rfl ?_
          refine JC_g_X5_street (q := 50) C kF_X5_49 dX5_frost_47 rfl (fun hs5 => ?_)
          refine J_iconst (v := 3 ) (q := 51) C dX5_frost_50 rfl rfl ?_
          refine J_iconst (v := 0 ) (q := 52) C dX5_frost_51 rfl rfl ?_
          refine J_iload_n (q := 53) C dX5_frost_52 rfl rfl 1 rfl ?_
          obtain ⟨σ6, ec6, h⟩ := bnd_of h
          refine J_callXV (q := 56) (As := [.int (3 : Int32), .int (0 : Int32), .int i1]) C (c_X4_does hap hs5 ec6) ok_X4_does kM_X5_175 (lt77S hs5) (celC_S hs5) rfl rfl rfl rfl rfl ⟨Nat.le_of_ble_eq_true rfl, Nat.le_of_ble_eq_true rfl⟩ (Nat.le_of_ble_eq_true rfl) dX5_frost_53 rfl ?_
          refine J_iload_n (q := 57) C dX5_frost_56 rfl rfl 1 rfl ?_
          obtain ⟨rfl, rfl⟩ := Prod.mk.inj (Option.some.inj h)
          exact J_iret C dX5_frost_57
  · refine J_iconst (v := -1 ) (q := 10) C dX5_frost_9 rfl rfl ?_
    obtain ⟨rfl, rfl⟩ := Prod.mk.inj (Option.some.inj h)
    exact J_iret C dX5_frost_10
set_option maxHeartbeats 4000000 in
set_option maxRecDepth 100000 in
theorem c_X5_night {l : Launch} {D : va_G} {cI cR : ClassId} {ad : Nat → Nat} (hap : apN 77 ad)  {σ : Sg} {r : Int32} {σo : Sg}  (h : f_X5_night σ = some (r, σo)) : MI l D (tysC cI cR) 77 ad (celC cI cR ad) okC yX5_night cX5_night 2 .int 6 145 [.ref (ad 0)] σ r σo := by
  unfold f_X5_night at h
  refine entI "WokenYears" hap (by decide +kernel) rfl (Nat.le_of_ble_eq_true rfl) (fun p e s m args below meth c C => ?_)
  refine J_sub (lv' := [(0, .ref (ad 0))]) [0] rfl ?_
  refine J_aload_n (q := 1) C dX5_night_0 rfl rfl 0 rfl ?_
  refine JC_g_X5_street (q := 4) C kF_X5_49 dX5_night_1 rfl (fun hs1 => ?_)
  refine JC_g_X4_size (q := 7) C hs1 kF_X5_131 dX5_night_4 rfl ?_
  refine J_if_ne (tgt := 13) (q := 10) C dX5_night_7 rfl (by decide) h (fun _ h => ?_) (fun _ h => ?_)
  · refine J_bipush (v := -4) (q := 12) C dX5_night_10 rfl rfl ?_
    obtain ⟨rfl, rfl⟩ := Prod.mk.inj (Option.some.inj h)
    exact J_iret C dX5_night_12
  · refine J_aload_n (q := 14) C dX5_night_13 rfl rfl 0 rfl ?_
    refine J_iconst (v := 1 ) (q := 15) C dX5_night_14 rfl rfl ?_
    obtain ⟨r2, ec2, h⟩ := bnd_of h
    refine J_callIV (q := 18) (As := [.int (1 : Int32)]) C (c_X5_isFull hap  ec2) ok_X5_isFull kM_X5_172 (by decide) rfl rfl rfl rfl rfl rfl ⟨Nat.le_of_ble_eq_true rfl, Nat.le_of_ble_eq_true rfl⟩ (Nat.le_of_ble_eq_true rfl) dX5_night_15 rfl ?_
    refine J_ifeq_b (tgt := 24) (q := 21) C dX5_night_18 rfl (by decide) h (fun _ h => ?_) (fun _ h => ?_)
    · refine J_bipush (v := -2) (q := 23) C dX5_night_21 rfl rfl ?_
      obtain ⟨rfl, rfl⟩ := Prod.mk.inj (Option.some.inj h)
      exact J_iret C dX5_night_23
    · refine J_aload_n (q := 25) C dX5_night_24 rfl rfl 0 rfl ?_
      refine JC_g_X5_street (q := 28) C kF_X5_49 dX5_night_25 rfl (fun hs3 => ?_)
      obtain ⟨r4, ec4, h⟩ := bnd_of h
      refine J_callIV (q := 31) (As := []) C (c_X4_awakeSet hap hs3 ec4) ok_X4_awakeSet kM_X5_188 (lt77S hs3) (celC_S hs3) rfl rfl rfl rfl rfl ⟨Nat.le_of_ble_eq_true rfl, Nat.le_of_ble_eq_true rfl⟩ (Nat.le_of_ble_eq_true rfl) dX5_night_28 rfl ?_
      obtain ⟨r5, ec5, h⟩ := bnd_of h
      refine J_callIS (q := 34) (As := [.int r4]) C (c_J6_bitCount_0f7a4 hap  ec5) ok_J6_bitCount_0f7a4 kM_X5_192 rfl rfl rfl ⟨Nat.le_of_ble_eq_true rfl, Nat.le_of_ble_eq_true rfl⟩ (Nat.le_of_ble_eq_true rfl) dX5_night_31 rfl ?_
      refine J_istore_n (q := 35) C dX5_night_34 rfl rfl (by decide) rfl ?_
      refine J_aload_n (q := 36) C dX5_night_35 rfl rfl 1 rfl ?_
      refine JC_g_X5_street (q := 39) C kF_X5_49 dX5_night_36 rfl (fun hs6 => ?_)
      refine J_iconst (v := 4 ) (q := 40) C dX5_night_39 rfl rfl ?_
      refine J_iconst (v := 0 ) (q := 41) C dX5_night_40 rfl rfl ?_
      refine J_iconst (v := 0 ) (q := 42) C dX5_night_41 rfl rfl ?_
      obtain ⟨σ7, ec7, h⟩ := bnd_of h
      refine J_callXV (q := 45) (As := [.int (4 : Int32), .int (0 : Int32), .int (0 : Int32)]) C (c_X4_does hap hs6 ec7) ok_X4_does kM_X5_175 (lt77S hs6) (celC_S hs6) rfl rfl rfl rfl rfl ⟨Nat.le_of_ble_eq_true rfl, Nat.le_of_ble_eq_true rfl⟩ (Nat.le_of_ble_eq_true rfl) dX5_night_42 rfl ?_
      refine J_iload_n (q := 46) C dX5_night_45 rfl rfl 0 rfl ?_
      obtain ⟨rfl, rfl⟩ := Prod.mk.inj (Option.some.inj h)
      exact J_iret C dX5_night_46
set_option maxHeartbeats 4000000 in
set_option maxRecDepth 100000 in
theorem c_X5_undo {l : Launch} {D : va_G} {cI cR : ClassId} {ad : Nat → Nat} (hap : apN 77 ad) {i1 : Int32} {σ : Sg} {r : Int32} {σo : Sg}  (h : f_X5_undo i1 σ = some (r, σo)) : MI l D (tysC cI cR) 77 ad (celC cI cR ad) okC yX5_undo cX5_undo 3 .int 6 142 [.ref (ad 0), .int i1] σ r σo := by
  unfold f_X5_undo at h
  refine entI "WokenYears" hap (by decide +kernel) rfl (Nat.le_of_ble_eq_true rfl) (fun p e s m args below meth c C => ?_)
  refine J_sub (lv' := [(0, .ref (ad 0)), (1, .int i1)]) [0, 1] rfl ?_
  refine J_aload_n (q := 1) C dX5_undo_0 rfl rfl 0 rfl ?_
  refine JC_g_X5_street (q := 4) C kF_X5_49 dX5_undo_1 rfl (fun hs1 => ?_)
  refine JC_g_X4_deeds (q := 7) C hs1 kF_X5_125 dX5_undo_4 rfl ?_
  refine JC_g_X0_size (q := 10) C (isI_st hs1 6 (by decide)) kF_X5_85 dX5_undo_7 rfl ?_
  refine J_nmi h (fun y2 ey2 h => ?_)
  refine J_istore_n (q := 11) C dX5_undo_10 rfl rfl (by decide) rfl ?_
  refine J_iload_n (q := 12) C dX5_undo_11 rfl rfl 2 rfl ?_
  refine J_iconst (v := 0 ) (q := 13) C dX5_undo_12 rfl rfl ?_
  refine J_iload_n (q := 14) C dX5_undo_13 rfl rfl 0 rfl ?_
  obtain ⟨r3, ec3, h⟩ := bnd_of h
  refine J_callIS (q := 17) (As := [.int i1, .int (0 : Int32), .int y2]) C (c_X5_within hap  ec3) ok_X5_within kM_X5_75 rfl rfl rfl ⟨Nat.le_of_ble_eq_true rfl, Nat.le_of_ble_eq_true rfl⟩ (Nat.le_of_ble_eq_true rfl) dX5_undo_14 rfl ?_
  refine J_ifne_b (tgt := 22) (q := 20) C dX5_undo_17 rfl (by decide) h (fun _ h => ?_) (fun _ h => ?_)
  · refine J_aload_n (q := 23) C dX5_undo_22 rfl rfl 1 rfl ?_
    refine JC_g_X5_street (q := 26) C kF_X5_49 dX5_undo_23 rfl (fun hs4 => ?_)
    refine JC_g_X4_deeds (q := 29) C hs4 kF_X5_125 dX5_undo_26 rfl ?_
    refine J_iload_n (q := 30) C dX5_undo_29 rfl rfl 2 rfl ?_
    obtain ⟨σ5, ec5, h⟩ := bnd_of h
    refine J_callXV (q := 33) (As := [.int i1]) C (c_X0_cut hap (isI_st hs4 6 (by decide)) ec5) ok_X0_cut kM_X5_197 (lt77I (isI_st hs4 6 (by decide))) (celC_I (isI_st hs4 6 (by decide))) rfl rfl rfl rfl rfl ⟨Nat.le_of_ble_eq_true rfl, Nat.le_of_ble_eq_true rfl⟩ (Nat.le_of_ble_eq_true rfl) dX5_undo_30 rfl ?_
    refine J_aload_n (q := 34) C dX5_undo_33 rfl rfl 1 rfl ?_
    refine JC_g_X5_street (q := 37) C kF_X5_49 dX5_undo_34 rfl (fun hs6 => ?_)
    obtain ⟨σ7, ec7, h⟩ := bnd_of h
    refine J_callXV (q := 40) (As := []) C (c_X4_replay hap hs6 ec7) ok_X4_replay kM_X5_128 (lt77S hs6) (celC_S hs6) rfl rfl rfl rfl rfl ⟨Nat.le_of_ble_eq_true rfl, Nat.le_of_ble_eq_true rfl⟩ (Nat.le_of_ble_eq_true rfl) dX5_undo_37 rfl ?_
    refine J_iload_n (q := 41) C dX5_undo_40 rfl rfl 0 rfl ?_
    refine J_iload_n (q := 42) C dX5_undo_41 rfl rfl 2 rfl ?_
    refine J_isub (q := 43) C dX5_undo_42 rfl ?_
    obtain ⟨rfl, rfl⟩ := Prod.mk.inj (Option.some.inj h)
    exact J_iret C dX5_undo_43
  · refine J_iconst (v := -1 ) (q := 21) C dX5_undo_20 rfl rfl ?_
    obtain ⟨rfl, rfl⟩ := Prod.mk.inj (Option.some.inj h)
    exact J_iret C dX5_undo_21
set_option maxHeartbeats 4000000 in
set_option maxRecDepth 100000 in
theorem c_X5_keep {l : Launch} {D : va_G} {cI cR : ClassId} {ad : Nat → Nat} (hap : apN 77 ad) {i1 : Int32} {σ : Sg} {r : Int32} {σo : Sg}  (h : f_X5_keep i1 σ = some (r, σo)) : MI l D (tysC cI cR) 77 ad (celC cI cR ad) okC yX5_keep cX5_keep 3 .int 4 105 [.ref (ad 0), .int i1] σ r σo := by
  unfold f_X5_keep at h
  refine entI "WokenYears" hap (by decide +kernel) rfl (Nat.le_of_ble_eq_true rfl) (fun p e s m args below meth c C => ?_)
  refine J_sub (lv' := [(0, .ref (ad 0)), (1, .int i1)]) [0, 1] rfl ?_
  refine J_aload_n (q := 1) C dX5_keep_0 rfl rfl 0 rfl ?_
  refine JC_g_X5_kept (q := 4) C kF_X5_20 dX5_keep_1 rfl ?_
  refine J_iload_n (q := 5) C dX5_keep_4 rfl rfl 1 rfl ?_
  obtain ⟨r1, ec1, h⟩ := bnd_of h
  refine J_callRS (q := 8) (As := [.ref (ad 73), .int i1]) C (c_X5_pick hap isRA_73 ec1) ok_X5_pick kM_X5_99 rfl rfl rfl ⟨Nat.le_of_ble_eq_true rfl, Nat.le_of_ble_eq_true rfl⟩ (Nat.le_of_ble_eq_true rfl) dX5_keep_5 rfl ?_
  cases r1 with
  | none =>
    have h := oc_none h
    refine J_st (st' := [.null]) rfl ?_
    refine J_astore_nN (q := 9) C dX5_keep_8 rfl rfl (by decide) rfl ?_
    refine J_aload_nN (q := 10) C dX5_keep_9 rfl rfl 0 rfl ?_
    refine J_ifnonnullN (q := 13) C dX5_keep_10 rfl ?_
    refine J_iconst (v := -1 ) (q := 14) C dX5_keep_13 rfl rfl ?_
    obtain ⟨rfl, rfl⟩ := Prod.mk.inj (Option.some.inj h)
    exact J_iret C dX5_keep_14
  | some g1 =>
    have h := oc_some h
    have ho1 := X5_pick_isI isRA_73 ec1
    refine J_st (st' := [.ref (ad g1)]) rfl ?_
    refine J_astore_n (q := 9) C dX5_keep_8 rfl rfl (by decide) rfl ?_
    refine J_aload_n (q := 10) C dX5_keep_9 rfl rfl 0 rfl ?_
    refine J_ifnonnull (tgt := 15) C dX5_keep_10 (by decide) ?_
    refine J_aload_n (q := 16) C dX5_keep_15 rfl rfl 1 rfl ?_
    refine JC_g_X5_street (q := 19) C kF_X5_49 dX5_keep_16 rfl (fun hs2 => ?_)
    refine JC_g_X4_size (q := 22) C hs2 kF_X5_131 dX5_keep_19 rfl ?_
    refine J_if_ne (tgt := 28) (q := 25) C dX5_keep_22 rfl (by decide) h (fun _ h => ?_) (fun _ h => ?_)
    · refine J_bipush (v := -4) (q := 27) C dX5_keep_25 rfl rfl ?_
      obtain ⟨rfl, rfl⟩ := Prod.mk.inj (Option.some.inj h)
      exact J_iret C dX5_keep_27
    · refine J_aload_n (q := 29) C dX5_keep_28 rfl rfl 0 rfl ?_
      refine J_aload_n (q := 30) C dX5_keep_29 rfl rfl 1 rfl ?_
      refine JC_g_X5_street (q := 33) C kF_X5_49 dX5_keep_30 rfl (fun hs3 => ?_)
      refine JC_g_X4_deeds (q := 36) C hs3 kF_X5_125 dX5_keep_33 rfl ?_
      obtain ⟨σ4, ec4, h⟩ := bnd_of h
      refine J_callXV (q := 39) (As := [.ref (ad (stI (gR σ 0) 6))]) C (c_X0_takeFrom hap ho1 (isI_st hs3 6 (by decide)) ec4) ok_X0_takeFrom kM_X5_200 (lt77I ho1) (celC_I ho1) rfl rfl rfl rfl rfl ⟨Nat.le_of_ble_eq_true rfl, Nat.le_of_ble_eq_true rfl⟩ (Nat.le_of_ble_eq_true rfl) dX5_keep_36 rfl ?_
      refine J_aload_n (q := 40) C dX5_keep_39 rfl rfl 0 rfl ?_
      refine JC_g_X0_size (q := 43) C ho1 kF_X5_85 dX5_keep_40 rfl ?_
      obtain ⟨rfl, rfl⟩ := Prod.mk.inj (Option.some.inj h)
      exact J_iret C dX5_keep_43
set_option maxHeartbeats 4000000 in
set_option maxRecDepth 100000 in
theorem c_X5_on {l : Launch} {D : va_G} {cI cR : ClassId} {ad : Nat → Nat} (hap : apN 77 ad) {i1 : Int32} {σ : Sg} {r : Int32} {σo : Sg}  (h : f_X5_on i1 σ = some (r, σo)) : MI l D (tysC cI cR) 77 ad (celC cI cR ad) okC yX5_on cX5_on 4 .int 6 142 [.ref (ad 0), .int i1] σ r σo := by
  unfold f_X5_on at h
  refine entI "WokenYears" hap (by decide +kernel) rfl (Nat.le_of_ble_eq_true rfl) (fun p e s m args below meth c C => ?_)
  refine J_sub (lv' := [(0, .ref (ad 0)), (1, .int i1)]) [0, 1] rfl ?_
  refine J_aload_n (q := 1) C dX5_on_0 rfl rfl 0 rfl ?_
  refine JC_g_X5_kept (q := 4) C kF_X5_20 dX5_on_1 rfl ?_
  refine J_iload_n (q := 5) C dX5_on_4 rfl rfl 1 rfl ?_
  obtain ⟨r1, ec1, h⟩ := bnd_of h
  refine J_callRS (q := 8) (As := [.ref (ad 73), .int i1]) C (c_X5_pick hap isRA_73 ec1) ok_X5_pick kM_X5_99 rfl rfl rfl ⟨Nat.le_of_ble_eq_true rfl, Nat.le_of_ble_eq_true rfl⟩ (Nat.le_of_ble_eq_true rfl) dX5_on_5 rfl ?_
  cases r1 with
  | none =>
    have h := oc_none h
    refine J_st (st' := [.null]) rfl ?_
    refine J_astore_nN (q := 9) C dX5_on_8 rfl rfl (by decide) rfl ?_
    refine J_aload_n (q := 10) C dX5_on_9 rfl rfl 1 rfl ?_
    refine J_aload_nN (q := 11) C dX5_on_10 rfl rfl 0 rfl ?_
    obtain ⟨r2, σ2, ec2, h⟩ := bnd2_of h
    refine J_callIV (q := 14) (As := [.null]) C (c_X5_refused hap noneI ec2) ok_X5_refused kM_X5_91 (by decide) rfl rfl rfl rfl rfl rfl ⟨Nat.le_of_ble_eq_true rfl, Nat.le_of_ble_eq_true rfl⟩ (Nat.le_of_ble_eq_true rfl) dX5_on_11 rfl ?_
    refine J_istore_n (q := 15) C dX5_on_14 rfl rfl (by decide) rfl ?_
    refine J_aload_nN (q := 16) C dX5_on_15 rfl rfl 1 rfl ?_
    refine J_ifnullN (tgt := 23) C dX5_on_16 (by decide) ?_
    refine J_iload_n (q := 24) C dX5_on_23 rfl rfl 0 rfl ?_
    obtain ⟨rfl, rfl⟩ := Prod.mk.inj (Option.some.inj h)
    exact J_iret C dX5_on_24
  | some g1 =>
    have h := oc_some h
    have ho1 := X5_pick_isI isRA_73 ec1
    refine J_st (st' := [.ref (ad g1)]) rfl ?_
    refine J_astore_n (q := 9) C dX5_on_8 rfl rfl (by decide) rfl ?_
    refine J_aload_n (q := 10) C dX5_on_9 rfl rfl 1 rfl ?_
    refine J_aload_n (q := 11) C dX5_on_10 rfl rfl 0 rfl ?_
    obtain ⟨r3, σ3, ec3, h⟩ := bnd2_of h
    refine J_callIV (q := 14) (As := [.ref (ad g1)]) C (c_X5_refused hap (someI ho1) ec3) ok_X5_refused kM_X5_91 (by decide) rfl rfl rfl rfl rfl rfl ⟨Nat.le_of_ble_eq_true rfl, Nat.le_of_ble_eq_true rfl⟩ (Nat.le_of_ble_eq_true rfl) dX5_on_11 rfl ?_
    refine J_istore_n (q := 15) C dX5_on_14 rfl rfl (by decide) rfl ?_
    refine J_aload_n (q := 16) C dX5_on_15 rfl rfl 1 rfl ?_
    refine J_ifnull (q := 19) C dX5_on_16 rfl ?_
    refine J_iload_n (q := 20) C dX5_on_19 rfl rfl 0 rfl ?_
    refine J_if_eq (tgt := 25) (q := 23) C dX5_on_20 rfl (by decide) h (fun _ h => ?_) (fun _ h => ?_)
    · refine J_aload_n (q := 26) C dX5_on_25 rfl rfl 2 rfl ?_
      refine JC_g_X5_street (q := 29) C kF_X5_49 dX5_on_26 rfl (fun hs4 => ?_)
      refine JC_g_X4_deeds (q := 32) C hs4 kF_X5_125 dX5_on_29 rfl ?_
      refine J_aload_n (q := 33) C dX5_on_32 rfl rfl 1 rfl ?_
      obtain ⟨σ5, ec5, h⟩ := bnd_of h
      refine J_callXV (q := 36) (As := [.ref (ad g1)]) C (c_X0_takeFrom hap (isI_st hs4 6 (by decide)) ho1 ec5) ok_X0_takeFrom kM_X5_200 (lt77I (isI_st hs4 6 (by decide))) (celC_I (isI_st hs4 6 (by decide))) rfl rfl rfl rfl rfl ⟨Nat.le_of_ble_eq_true rfl, Nat.le_of_ble_eq_true rfl⟩ (Nat.le_of_ble_eq_true rfl) dX5_on_33 rfl ?_
      refine J_aload_n (q := 37) C dX5_on_36 rfl rfl 2 rfl ?_
      refine JC_g_X5_street (q := 40) C kF_X5_49 dX5_on_37 rfl (fun hs6 => ?_)
      obtain ⟨σ7, ec7, h⟩ := bnd_of h
      refine J_callXV (q := 43) (As := []) C (c_X4_replay hap hs6 ec7) ok_X4_replay kM_X5_128 (lt77S hs6) (celC_S hs6) rfl rfl rfl rfl rfl ⟨Nat.le_of_ble_eq_true rfl, Nat.le_of_ble_eq_true rfl⟩ (Nat.le_of_ble_eq_true rfl) dX5_on_40 rfl ?_
      refine J_aload_n (q := 44) C dX5_on_43 rfl rfl 2 rfl ?_
      refine JC_g_X5_street (q := 47) C kF_X5_49 dX5_on_44 rfl (fun hs8 => ?_)
      refine JC_g_X4_deeds (q := 50) C hs8 kF_X5_125 dX5_on_47 rfl ?_
      refine JC_g_X0_size (q := 53) C (isI_st hs8 6 (by decide)) kF_X5_85 dX5_on_50 rfl ?_
      obtain ⟨rfl, rfl⟩ := Prod.mk.inj (Option.some.inj h)
      exact J_iret C dX5_on_53
    · refine J_iload_n (q := 24) C dX5_on_23 rfl rfl 0 rfl ?_
      obtain ⟨rfl, rfl⟩ := Prod.mk.inj (Option.some.inj h)
      exact J_iret C dX5_on_24
set_option maxHeartbeats 4000000 in
set_option maxRecDepth 100000 in
theorem c_X5_takes {l : Launch} {D : va_G} {cI cR : ClassId} {ad : Nat → Nat} (hap : apN 77 ad) {i1 : Int32} {i2 : Int32} {σ : Sg} {r : Int32}  (h : f_X5_takes i1 i2 σ = some r) : MI l D (tysC cI cR) 77 ad (celC cI cR ad) okC yX5_takes cX5_takes 3 .int 3 76 [.ref (ad 0), .int i1, .int i2] σ r σ := by
  unfold f_X5_takes at h
  refine entI "WokenYears" hap (by decide +kernel) rfl (Nat.le_of_ble_eq_true rfl) (fun p e s m args below meth c C => ?_)
  refine J_sub (lv' := [(0, .ref (ad 0)), (1, .int i1), (2, .int i2)]) [0, 1, 2] rfl ?_
  refine J_aload_n (q := 1) C dX5_takes_0 rfl rfl 0 rfl ?_
  refine JC_g_X5_street (q := 4) C kF_X5_49 dX5_takes_1 rfl (fun hs1 => ?_)
  refine J_iload_n (q := 5) C dX5_takes_4 rfl rfl 1 rfl ?_
  obtain ⟨r2, ec2, h⟩ := bnd_of h
  refine J_callIV (q := 8) (As := [.int i1]) C (c_X4_isHouse hap hs1 ec2) ok_X4_isHouse kM_X5_132 (lt77S hs1) (celC_S hs1) rfl rfl rfl rfl rfl ⟨Nat.le_of_ble_eq_true rfl, Nat.le_of_ble_eq_true rfl⟩ (Nat.le_of_ble_eq_true rfl) dX5_takes_5 rfl ?_
  refine J_ifeq_b (tgt := 18) (q := 11) C dX5_takes_8 rfl (by decide) h (fun _ h => ?_) (fun _ h => ?_)
  · refine J_iload_n (q := 12) C dX5_takes_11 rfl rfl 2 rfl ?_
    obtain ⟨r3, ec3, h⟩ := bnd_of h
    refine J_callIS (q := 15) (As := [.int i2]) C (c_X5_isDate hap  ec3) ok_X5_isDate kM_X5_185 rfl rfl rfl ⟨Nat.le_of_ble_eq_true rfl, Nat.le_of_ble_eq_true rfl⟩ (Nat.le_of_ble_eq_true rfl) dX5_takes_12 rfl ?_
    refine J_ifne_b (tgt := 20) (q := 18) C dX5_takes_15 rfl (by decide) h (fun _ h => ?_) (fun _ h => ?_)
    · refine J_aload_n (q := 21) C dX5_takes_20 rfl rfl 0 rfl ?_
      refine JC_g_X5_street (q := 24) C kF_X5_49 dX5_takes_21 rfl (fun hs4 => ?_)
      refine J_iload_n (q := 25) C dX5_takes_24 rfl rfl 1 rfl ?_
      refine J_iload_n (q := 26) C dX5_takes_25 rfl rfl 2 rfl ?_
      obtain ⟨r5, ec5, h⟩ := bnd_of h
      refine J_callIV (q := 29) (As := [.int i1, .int i2]) C (c_X4_tapsFor hap hs4 ec5) ok_X4_tapsFor kM_X5_149 (lt77S hs4) (celC_S hs4) rfl rfl rfl rfl rfl ⟨Nat.le_of_ble_eq_true rfl, Nat.le_of_ble_eq_true rfl⟩ (Nat.le_of_ble_eq_true rfl) dX5_takes_26 rfl ?_
      obtain rfl := Option.some.inj h
      exact J_iret C dX5_takes_29
    · refine J_iconst (v := -1 ) (q := 19) C dX5_takes_18 rfl rfl ?_
      obtain rfl := Option.some.inj h
      exact J_iret C dX5_takes_19
  · refine J_iconst (v := -1 ) (q := 19) C dX5_takes_18 rfl rfl ?_
    obtain rfl := Option.some.inj h
    exact J_iret C dX5_takes_19
set_option maxHeartbeats 4000000 in
set_option maxRecDepth 100000 in
theorem c_X5_pays {l : Launch} {D : va_G} {cI cR : ClassId} {ad : Nat → Nat} (hap : apN 77 ad) {i1 : Int32} {σ : Sg} {r : Int32}  (h : f_X5_pays i1 σ = some r) : MI l D (tysC cI cR) 77 ad (celC cI cR ad) okC yX5_pays cX5_pays 2 .int 3 72 [.ref (ad 0), .int i1] σ r σ := by
  unfold f_X5_pays at h
  refine entI "WokenYears" hap (by decide +kernel) rfl (Nat.le_of_ble_eq_true rfl) (fun p e s m args below meth c C => ?_)
  refine J_sub (lv' := [(0, .ref (ad 0)), (1, .int i1)]) [0, 1] rfl ?_
  refine J_aload_n (q := 1) C dX5_pays_0 rfl rfl 0 rfl ?_
  refine JC_g_X5_street (q := 4) C kF_X5_49 dX5_pays_1 rfl (fun hs1 => ?_)
  refine J_iload_n (q := 5) C dX5_pays_4 rfl rfl 1 rfl ?_
  obtain ⟨r2, ec2, h⟩ := bnd_of h
  refine J_callIV (q := 8) (As := [.int i1]) C (c_X4_isHouse hap hs1 ec2) ok_X4_isHouse kM_X5_132 (lt77S hs1) (celC_S hs1) rfl rfl rfl rfl rfl ⟨Nat.le_of_ble_eq_true rfl, Nat.le_of_ble_eq_true rfl⟩ (Nat.le_of_ble_eq_true rfl) dX5_pays_5 rfl ?_
  refine J_ifeq_b (tgt := 22) (q := 11) C dX5_pays_8 rfl (by decide) h (fun _ h => ?_) (fun _ h => ?_)
  · refine J_aload_n (q := 12) C dX5_pays_11 rfl rfl 0 rfl ?_
    refine JC_g_X5_street (q := 15) C kF_X5_49 dX5_pays_12 rfl (fun hs3 => ?_)
    refine J_iload_n (q := 16) C dX5_pays_15 rfl rfl 1 rfl ?_
    obtain ⟨r4, ec4, h⟩ := bnd_of h
    refine J_callIV (q := 19) (As := [.int i1]) C (c_X4_fee hap hs3 ec4) ok_X4_fee kM_X5_159 (lt77S hs3) (celC_S hs3) rfl rfl rfl rfl rfl ⟨Nat.le_of_ble_eq_true rfl, Nat.le_of_ble_eq_true rfl⟩ (Nat.le_of_ble_eq_true rfl) dX5_pays_16 rfl ?_
    refine J_goto (tgt := 23) C dX5_pays_19 (by decide) ?_
    obtain rfl := Option.some.inj h
    exact J_iret C dX5_pays_23
  · refine J_iconst (v := -1 ) (q := 23) C dX5_pays_22 rfl rfl ?_
    obtain rfl := Option.some.inj h
    exact J_iret C dX5_pays_23
set_option maxHeartbeats 4000000 in
set_option maxRecDepth 100000 in
theorem cl_X5_who_24 {p : Program} {l : Launch} {e : Env} {s : State} {m : MethodId} {args : Array Value} {below : List Frame} {meth : Method} {c : Code} {D : va_G} {cI cR : ClassId} {ad : Nat → Nat} (hap : apN 77 ad) (C : Cx p s m args meth c cX5_who 5 "WokenYears" D (tysC cI cR) 77 ad (some .int)) {a1 : Int32} {a2 : Int32} {k63 : Int32 → Option Int32} {σ : Sg} (r : Int32)  (hk63 : ∀ (u3 : Int32), k63 u3 = some r → Jd p l e (rmF 3 76) s m args below meth c D 77 ad (celC cI cR ad) okC 5 (MQ below (QI D (tysC cI cR) 77 ad (celC cI cR ad) okC r σ) args s 0 0 (inA 77 ad)) 63 [(3, .int u3)] [] σ) : ∀ (n : Nat) (x3 : Int32) (x4 : Int32), l_X5_who_24 a1 a2 σ k63 n x3 x4 = some r → Jd p l e (rmF 3 76) s m args below meth c D 77 ad (celC cI cR ad) okC 5 (MQ below (QI D (tysC cI cR) 77 ad (celC cI cR ad) okC r σ) args s 0 0 (inA 77 ad)) 24 [(0, .ref (ad 0)), (1, .int a1), (2, .int a2), (3, .int x3), (4, .int x4)] [] σ := by
  intro n
  induction n with
  | zero => intro x3 x4 h; cases h
  | succ n ih =>
    intro x3 x4 h
    unfold l_X5_who_24 at h
    refine J_iload (q := 26) C dX5_who_24 rfl 4 rfl ?_
    refine J_aload_n (q := 27) C dX5_who_26 rfl rfl 0 rfl ?_
    refine JC_g_X5_street (q := 30) C kF_X5_49 dX5_who_27 rfl (fun hs3 => ?_)
    refine JC_g_X4_size (q := 33) C hs3 kF_X5_131 dX5_who_30 rfl ?_
    refine J_icmp_ge (tgt := 63) (q := 36) C dX5_who_33 rfl (by decide) h (fun _ h => ?_) (fun _ h => ?_)
    · refine J_sub [3] rfl ?_
      exact hk63 _ h
    · refine J_aload_n (q := 37) C dX5_who_36 rfl rfl 0 rfl ?_
      refine JC_g_X5_street (q := 40) C kF_X5_49 dX5_who_37 rfl (fun hs4 => ?_)
      refine J_iload (q := 42) C dX5_who_40 rfl 4 rfl ?_
      refine J_iload_n (q := 43) C dX5_who_42 rfl rfl 1 rfl ?_
      obtain ⟨r5, ec5, h⟩ := bnd_of h
      refine J_callIV (q := 46) (As := [.int x4, .int a1]) C (c_X4_tapsFor hap hs4 ec5) ok_X4_tapsFor kM_X5_149 (lt77S hs4) (celC_S hs4) rfl rfl rfl rfl rfl ⟨Nat.le_of_ble_eq_true rfl, Nat.le_of_ble_eq_true rfl⟩ (Nat.le_of_ble_eq_true rfl) dX5_who_43 rfl ?_
      refine J_iload_n (q := 47) C dX5_who_46 rfl rfl 2 rfl ?_
      refine jn_elim h (fun k57 ek57 h => ?_)
      have hk57 : ∀ (u3_57 : Int32), k57 u3_57 = some r → Jd p l e (rmF 3 76) s m args below meth c D 77 ad (celC cI cR ad) okC 5 (MQ below (QI D (tysC cI cR) 77 ad (celC cI cR ad) okC r σ) args s 0 0 (inA 77 ad)) 57 [(0, .ref (ad 0)), (1, .int a1), (2, .int a2), (3, .int u3_57), (4, .int x4)] [] σ := by
        intro u3_57 h
        rw [ek57] at h
        refine jn_elim h (fun y6 ey6 h => ?_)
        refine J_iinc (v := y6) (q := 60) C dX5_who_57 rfl 4 rfl (by rw [ey6]; rfl) (by decide) rfl ?_
        refine J_goto (tgt := 24) C dX5_who_60 (by decide) ?_
        refine J_sub [1, 2, 3, 4, 0] rfl ?_
        exact ih _ _ h
      refine J_icmp_ne (tgt := 57) (q := 50) C dX5_who_47 rfl (by decide) h (fun _ h => ?_) (fun _ h => ?_)
      · refine J_iload_n (q := 51) C dX5_who_50 rfl rfl 3 rfl ?_
        refine J_iconst (v := 1 ) (q := 52) C dX5_who_51 rfl rfl ?_
        refine J_iload (q := 54) C dX5_who_52 rfl 4 rfl ?_
        refine J_ishl (q := 55) C dX5_who_54 rfl ?_
        refine J_ior (q := 56) C dX5_who_55 rfl ?_
        refine J_nmi h (fun y7 ey7 h => ?_)
        refine J_istore_n (q := 57) C dX5_who_56 rfl rfl (by decide) rfl ?_
        refine J_sub [1, 2, 3, 0, 4] rfl ?_
        exact hk57 _ h
      · exact hk57 _ h
set_option maxHeartbeats 4000000 in
set_option maxRecDepth 100000 in
theorem c_X5_who {l : Launch} {D : va_G} {cI cR : ClassId} {ad : Nat → Nat} (hap : apN 77 ad) {i1 : Int32} {i2 : Int32} {σ : Sg} {r : Int32}  (h : f_X5_who i1 i2 σ = some r) : MI l D (tysC cI cR) 77 ad (celC cI cR ad) okC yX5_who cX5_who 5 .int 3 76 [.ref (ad 0), .int i1, .int i2] σ r σ := by
  unfold f_X5_who at h
  refine entI "WokenYears" hap (by decide +kernel) rfl (Nat.le_of_ble_eq_true rfl) (fun p e s m args below meth c C => ?_)
  refine J_sub (lv' := [(0, .ref (ad 0)), (1, .int i1), (2, .int i2)]) [0, 1, 2] rfl ?_
  refine J_iload_n (q := 1) C dX5_who_0 rfl rfl 1 rfl ?_
  obtain ⟨r1, ec1, h⟩ := bnd_of h
  refine J_callIS (q := 4) (As := [.int i1]) C (c_X5_isDate hap  ec1) ok_X5_isDate kM_X5_185 rfl rfl rfl ⟨Nat.le_of_ble_eq_true rfl, Nat.le_of_ble_eq_true rfl⟩ (Nat.le_of_ble_eq_true rfl) dX5_who_1 rfl ?_
  refine J_ifeq_b (tgt := 17) (q := 7) C dX5_who_4 rfl (by decide) h (fun _ h => ?_) (fun _ h => ?_)
  · refine J_iload_n (q := 8) C dX5_who_7 rfl rfl 2 rfl ?_
    refine J_iconst (v := 1 ) (q := 9) C dX5_who_8 rfl rfl ?_
    refine J_bipush (v := 9) (q := 11) C dX5_who_9 rfl rfl ?_
    obtain ⟨r2, ec2, h⟩ := bnd_of h
    refine J_callIS (q := 14) (As := [.int i2, .int (1 : Int32), .int (9 : Int32)]) C (c_X5_within hap  ec2) ok_X5_within kM_X5_75 rfl rfl rfl ⟨Nat.le_of_ble_eq_true rfl, Nat.le_of_ble_eq_true rfl⟩ (Nat.le_of_ble_eq_true rfl) dX5_who_11 rfl ?_
    refine J_ifne_b (tgt := 19) (q := 17) C dX5_who_14 rfl (by decide) h (fun _ h => ?_) (fun _ h => ?_)
    · refine J_iconst (v := 0 ) (q := 20) C dX5_who_19 rfl rfl ?_
      refine J_istore_n (q := 21) C dX5_who_20 rfl rfl (by decide) rfl ?_
      refine J_iconst (v := 0 ) (q := 22) C dX5_who_21 rfl rfl ?_
      refine J_istore (q := 24) C dX5_who_22 rfl (by decide) rfl ?_
      refine J_sub [2, 3, 4, 1, 0] rfl ?_
      refine cl_X5_who_24 hap C r  (fun v3_63 h => ?_) FU _ _ h
      · refine J_iload_n (q := 64) C dX5_who_63 rfl rfl 0 rfl ?_
        obtain rfl := Option.some.inj h
        exact J_iret C dX5_who_64
    · refine J_iconst (v := -1 ) (q := 18) C dX5_who_17 rfl rfl ?_
      obtain rfl := Option.some.inj h
      exact J_iret C dX5_who_18
  · refine J_iconst (v := -1 ) (q := 18) C dX5_who_17 rfl rfl ?_
    obtain rfl := Option.some.inj h
    exact J_iret C dX5_who_18
set_option maxHeartbeats 4000000 in
set_option maxRecDepth 100000 in
theorem c_X5_soonest {l : Launch} {D : va_G} {cI cR : ClassId} {ad : Nat → Nat} (hap : apN 77 ad) {i1 : Int32} {σ : Sg} {r : Int32}  (h : f_X5_soonest i1 σ = some r) : MI l D (tysC cI cR) 77 ad (celC cI cR ad) okC yX5_soonest cX5_soonest 2 .int 5 121 [.ref (ad 0), .int i1] σ r σ := by
  unfold f_X5_soonest at h
  refine entI "WokenYears" hap (by decide +kernel) rfl (Nat.le_of_ble_eq_true rfl) (fun p e s m args below meth c C => ?_)
  refine J_sub (lv' := [(0, .ref (ad 0)), (1, .int i1)]) [0, 1] rfl ?_
  refine J_aload_n (q := 1) C dX5_soonest_0 rfl rfl 0 rfl ?_
  refine JC_g_X5_street (q := 4) C kF_X5_49 dX5_soonest_1 rfl (fun hs1 => ?_)
  refine J_iload_n (q := 5) C dX5_soonest_4 rfl rfl 1 rfl ?_
  obtain ⟨r2, ec2, h⟩ := bnd_of h
  refine J_callIV (q := 8) (As := [.int i1]) C (c_X4_isSet hap hs1 ec2) ok_X4_isSet kM_X5_207 (lt77S hs1) (celC_S hs1) rfl rfl rfl rfl rfl ⟨Nat.le_of_ble_eq_true rfl, Nat.le_of_ble_eq_true rfl⟩ (Nat.le_of_ble_eq_true rfl) dX5_soonest_5 rfl ?_
  refine J_ifne_b (tgt := 13) (q := 11) C dX5_soonest_8 rfl (by decide) h (fun _ h => ?_) (fun _ h => ?_)
  · refine J_aload_n (q := 14) C dX5_soonest_13 rfl rfl 0 rfl ?_
    refine JC_g_X5_street (q := 17) C kF_X5_49 dX5_soonest_14 rfl (fun hs3 => ?_)
    refine J_iload_n (q := 18) C dX5_soonest_17 rfl rfl 1 rfl ?_
    obtain ⟨r4, ec4, h⟩ := bnd_of h
    refine J_callIV (q := 21) (As := [.int i1]) C (c_X4_canWake hap hs3 ec4) ok_X4_canWake kM_X5_210 (lt77S hs3) (celC_S hs3) rfl rfl rfl rfl rfl ⟨Nat.le_of_ble_eq_true rfl, Nat.le_of_ble_eq_true rfl⟩ (Nat.le_of_ble_eq_true rfl) dX5_soonest_18 rfl ?_
    refine J_ifne_b (tgt := 27) (q := 24) C dX5_soonest_21 rfl (by decide) h (fun _ h => ?_) (fun _ h => ?_)
    · refine J_aload_n (q := 28) C dX5_soonest_27 rfl rfl 0 rfl ?_
      refine JC_g_X5_street (q := 31) C kF_X5_49 dX5_soonest_28 rfl (fun hs5 => ?_)
      refine J_iload_n (q := 32) C dX5_soonest_31 rfl rfl 1 rfl ?_
      obtain ⟨r6, ec6, h⟩ := bnd_of h
      refine J_callIV (q := 35) (As := [.int i1]) C (c_X4_tapsLeft hap hs5 ec6) ok_X4_tapsLeft kM_X5_213 (lt77S hs5) (celC_S hs5) rfl rfl rfl rfl rfl ⟨Nat.le_of_ble_eq_true rfl, Nat.le_of_ble_eq_true rfl⟩ (Nat.le_of_ble_eq_true rfl) dX5_soonest_32 rfl ?_
      refine J_iload_n (q := 36) C dX5_soonest_35 rfl rfl 1 rfl ?_
      refine J_aload_n (q := 37) C dX5_soonest_36 rfl rfl 0 rfl ?_
      refine JC_g_X5_street (q := 40) C kF_X5_49 dX5_soonest_37 rfl (fun hs7 => ?_)
      refine JC_g_X4_place (q := 43) C hs7 kF_X5_169 dX5_soonest_40 rfl ?_
      obtain ⟨r8, ec8, h⟩ := bnd_of h
      refine J_callIS (q := 46) (As := [.int i1, .int (gS σ (16 * (gR σ 0) + 13))]) C (c_X3_walkOver hap  ec8) ok_X3_walkOver kM_X5_216 rfl rfl rfl ⟨Nat.le_of_ble_eq_true rfl, Nat.le_of_ble_eq_true rfl⟩ (Nat.le_of_ble_eq_true rfl) dX5_soonest_43 rfl ?_
      refine J_iadd (q := 47) C dX5_soonest_46 rfl ?_
      obtain rfl := Option.some.inj h
      exact J_iret C dX5_soonest_47
    · refine J_bipush (v := -4) (q := 26) C dX5_soonest_24 rfl rfl ?_
      obtain rfl := Option.some.inj h
      exact J_iret C dX5_soonest_26
  · refine J_iconst (v := -1 ) (q := 12) C dX5_soonest_11 rfl rfl ?_
    obtain rfl := Option.some.inj h
    exact J_iret C dX5_soonest_12
set_option maxHeartbeats 4000000 in
set_option maxRecDepth 100000 in
theorem c_X5_intime {l : Launch} {D : va_G} {cI cR : ClassId} {ad : Nat → Nat} (hap : apN 77 ad) {i1 : Int32} {i2 : Int32} {σ : Sg} {r : Int32} {σo : Sg}  (h : f_X5_intime i1 i2 σ = some (r, σo)) : MI l D (tysC cI cR) 77 ad (celC cI cR ad) okC yX5_intime cX5_intime 5 .int 21 724 [.ref (ad 0), .int i1, .int i2] σ r σo := by
  unfold f_X5_intime at h
  refine entI "WokenYears" hap (by decide +kernel) rfl (Nat.le_of_ble_eq_true rfl) (fun p e s m args below meth c C => ?_)
  refine J_sub (lv' := [(0, .ref (ad 0)), (1, .int i1), (2, .int i2)]) [0, 1, 2] rfl ?_
  refine J_aload_n (q := 1) C dX5_intime_0 rfl rfl 0 rfl ?_
  refine JC_g_X5_rows (q := 4) C kF_X5_13 dX5_intime_1 rfl ?_
  refine J_iload_n (q := 5) C dX5_intime_4 rfl rfl 2 rfl ?_
  obtain ⟨r1, ec1, h⟩ := bnd_of h
  refine J_callRS (q := 8) (As := [.ref (ad 71), .int i2]) C (c_X5_pick hap isRA_71 ec1) ok_X5_pick kM_X5_99 rfl rfl rfl ⟨Nat.le_of_ble_eq_true rfl, Nat.le_of_ble_eq_true rfl⟩ (Nat.le_of_ble_eq_true rfl) dX5_intime_5 rfl ?_
  cases r1 with
  | none =>
    have h := oc_none h
    refine J_st (st' := [.null]) rfl ?_
    refine J_astore_nN (q := 9) C dX5_intime_8 rfl rfl (by decide) rfl ?_
    refine J_aload_nN (q := 10) C dX5_intime_9 rfl rfl 0 rfl ?_
    refine J_ifnullN (tgt := 24) C dX5_intime_10 (by decide) ?_
    refine J_iconst (v := -1 ) (q := 25) C dX5_intime_24 rfl rfl ?_
    obtain ⟨rfl, rfl⟩ := Prod.mk.inj (Option.some.inj h)
    exact J_iret C dX5_intime_25
  | some g1 =>
    have h := oc_some h
    have ho1 := X5_pick_isI isRA_71 ec1
    refine J_st (st' := [.ref (ad g1)]) rfl ?_
    refine J_astore_n (q := 9) C dX5_intime_8 rfl rfl (by decide) rfl ?_
    refine J_aload_n (q := 10) C dX5_intime_9 rfl rfl 0 rfl ?_
    refine J_ifnull (q := 13) C dX5_intime_10 rfl ?_
    refine J_aload_n (q := 14) C dX5_intime_13 rfl rfl 1 rfl ?_
    refine JC_g_X5_street (q := 17) C kF_X5_49 dX5_intime_14 rfl (fun hs2 => ?_)
    refine J_iload_n (q := 18) C dX5_intime_17 rfl rfl 2 rfl ?_
    obtain ⟨r3, ec3, h⟩ := bnd_of h
    refine J_callIV (q := 21) (As := [.int i1]) C (c_X4_isSet hap hs2 ec3) ok_X4_isSet kM_X5_207 (lt77S hs2) (celC_S hs2) rfl rfl rfl rfl rfl ⟨Nat.le_of_ble_eq_true rfl, Nat.le_of_ble_eq_true rfl⟩ (Nat.le_of_ble_eq_true rfl) dX5_intime_18 rfl ?_
    refine J_ifne_b (tgt := 26) (q := 24) C dX5_intime_21 rfl (by decide) h (fun _ h => ?_) (fun _ h => ?_)
    · refine J_aload_n (q := 27) C dX5_intime_26 rfl rfl 1 rfl ?_
      refine JC_g_X5_street (q := 30) C kF_X5_49 dX5_intime_27 rfl (fun hs4 => ?_)
      refine J_iload_n (q := 31) C dX5_intime_30 rfl rfl 2 rfl ?_
      obtain ⟨r5, ec5, h⟩ := bnd_of h
      refine J_callIV (q := 34) (As := [.int i1]) C (c_X4_canWake hap hs4 ec5) ok_X4_canWake kM_X5_210 (lt77S hs4) (celC_S hs4) rfl rfl rfl rfl rfl ⟨Nat.le_of_ble_eq_true rfl, Nat.le_of_ble_eq_true rfl⟩ (Nat.le_of_ble_eq_true rfl) dX5_intime_31 rfl ?_
      refine J_ifne_b (tgt := 40) (q := 37) C dX5_intime_34 rfl (by decide) h (fun _ h => ?_) (fun _ h => ?_)
      · refine J_aload_n (q := 41) C dX5_intime_40 rfl rfl 1 rfl ?_
        refine JC_g_X5_rounds (q := 44) C kF_X5_33 dX5_intime_41 rfl ?_
        refine J_aload_n (q := 45) C dX5_intime_44 rfl rfl 1 rfl ?_
        refine JC_g_X5_street (q := 48) C kF_X5_49 dX5_intime_45 rfl (fun hs6 => ?_)
        refine J_iload_n (q := 49) C dX5_intime_48 rfl rfl 2 rfl ?_
        obtain ⟨r7, σ7, ec7, h⟩ := bnd2_of h
        refine J_callIV (q := 52) (As := [.ref (ad (gR σ 0)), .int i1]) C (c_X3_fewest hap hs6 ec7) ok_X3_fewest kM_X5_219 (by decide) rfl rfl rfl rfl rfl rfl ⟨Nat.le_of_ble_eq_true rfl, Nat.le_of_ble_eq_true rfl⟩ (Nat.le_of_ble_eq_true rfl) dX5_intime_49 rfl ?_
        refine J_istore (q := 54) C dX5_intime_52 rfl (by decide) rfl ?_
        refine J_iload (q := 56) C dX5_intime_54 rfl 0 rfl ?_
        refine J_bipush (v := -9) (q := 58) C dX5_intime_56 rfl rfl ?_
        refine J_icmp_eq (tgt := 72) (q := 61) C dX5_intime_58 rfl (by decide) h (fun _ h => ?_) (fun _ h => ?_)
        · refine J_iload (q := 74) C dX5_intime_72 rfl 0 rfl ?_
          obtain ⟨rfl, rfl⟩ := Prod.mk.inj (Option.some.inj h)
          exact J_iret C dX5_intime_74
        · refine J_aload_n (q := 62) C dX5_intime_61 rfl rfl 1 rfl ?_
          refine J_aload_n (q := 63) C dX5_intime_62 rfl rfl 2 rfl ?_
          refine JC_g_X5_rounds (q := 66) C kF_X5_33 dX5_intime_63 rfl ?_
          refine JC_g_X3_best (q := 69) C kF_X5_223 dX5_intime_66 rfl ?_
          obtain ⟨σ8, ec8, h⟩ := bnd_of h
          refine J_callXV (q := 72) (As := [.ref (ad 37)]) C (c_X0_takeFrom hap ho1 isI_37 ec8) ok_X0_takeFrom kM_X5_200 (lt77I ho1) (celC_I ho1) rfl rfl rfl rfl rfl ⟨Nat.le_of_ble_eq_true rfl, Nat.le_of_ble_eq_true rfl⟩ (Nat.le_of_ble_eq_true rfl) dX5_intime_69 rfl ?_
          refine J_iload (q := 74) C dX5_intime_72 rfl 0 rfl ?_
          obtain ⟨rfl, rfl⟩ := Prod.mk.inj (Option.some.inj h)
          exact J_iret C dX5_intime_74
      · refine J_bipush (v := -4) (q := 39) C dX5_intime_37 rfl rfl ?_
        obtain ⟨rfl, rfl⟩ := Prod.mk.inj (Option.some.inj h)
        exact J_iret C dX5_intime_39
    · refine J_iconst (v := -1 ) (q := 25) C dX5_intime_24 rfl rfl ?_
      obtain ⟨rfl, rfl⟩ := Prod.mk.inj (Option.some.inj h)
      exact J_iret C dX5_intime_25
set_option maxHeartbeats 4000000 in
set_option maxRecDepth 100000 in
theorem c_X5_many {l : Launch} {D : va_G} {cI cR : ClassId} {ad : Nat → Nat} (hap : apN 77 ad)  {σ : Sg} {r : Int32} {σo : Sg}  (h : f_X5_many σ = some (r, σo)) : MI l D (tysC cI cR) 77 ad (celC cI cR ad) okC yX5_many cX5_many 1 .int 6 146 [.ref (ad 0)] σ r σo := by
  unfold f_X5_many at h
  refine entI "WokenYears" hap (by decide +kernel) rfl (Nat.le_of_ble_eq_true rfl) (fun p e s m args below meth c C => ?_)
  refine J_sub (lv' := [(0, .ref (ad 0))]) [0] rfl ?_
  refine J_aload_n (q := 1) C dX5_many_0 rfl rfl 0 rfl ?_
  refine JC_g_X5_street (q := 4) C kF_X5_49 dX5_many_1 rfl (fun hs1 => ?_)
  refine JC_g_X4_size (q := 7) C hs1 kF_X5_131 dX5_many_4 rfl ?_
  refine J_if_ne (tgt := 13) (q := 10) C dX5_many_7 rfl (by decide) h (fun _ h => ?_) (fun _ h => ?_)
  · refine J_bipush (v := -4) (q := 12) C dX5_many_10 rfl rfl ?_
    obtain ⟨rfl, rfl⟩ := Prod.mk.inj (Option.some.inj h)
    exact J_iret C dX5_many_12
  · refine J_aload_n (q := 14) C dX5_many_13 rfl rfl 0 rfl ?_
    refine J_aload_n (q := 15) C dX5_many_14 rfl rfl 0 rfl ?_
    refine JC_g_X5_rounds (q := 18) C kF_X5_33 dX5_many_15 rfl ?_
    refine J_aload_n (q := 19) C dX5_many_18 rfl rfl 0 rfl ?_
    refine JC_g_X5_street (q := 22) C kF_X5_49 dX5_many_19 rfl (fun hs2 => ?_)
    obtain ⟨r3, σ3, ec3, h⟩ := bnd2_of h
    refine J_callIV (q := 25) (As := [.ref (ad (gR σ 0))]) C (c_X3_greatest hap hs2 ec3) ok_X3_greatest kM_X5_226 (by decide) rfl rfl rfl rfl rfl rfl ⟨Nat.le_of_ble_eq_true rfl, Nat.le_of_ble_eq_true rfl⟩ (Nat.le_of_ble_eq_true rfl) dX5_many_22 rfl ?_
    refine JC_p_X5_asked (q := 28) C kF_X5_107 dX5_many_25 rfl ?_
    refine jn_elim h (fun σ4 eσ4 h => ?_)
    rw [← eσ4]
    refine J_aload_n (q := 29) C dX5_many_28 rfl rfl 0 rfl ?_
    refine JC_g_X5_asked (q := 32) C kF_X5_107 dX5_many_29 rfl ?_
    obtain ⟨r5, ec5, h⟩ := bnd_of h
    refine J_callIS (q := 35) (As := [.int (gS σ4 9)]) C (c_J6_bitCount_0f7a4 hap  ec5) ok_J6_bitCount_0f7a4 kM_X5_192 rfl rfl rfl ⟨Nat.le_of_ble_eq_true rfl, Nat.le_of_ble_eq_true rfl⟩ (Nat.le_of_ble_eq_true rfl) dX5_many_32 rfl ?_
    obtain ⟨rfl, rfl⟩ := Prod.mk.inj (Option.some.inj h)
    exact J_iret C dX5_many_35
set_option maxHeartbeats 4000000 in
set_option maxRecDepth 100000 in
theorem cl_X5_dates_80 {p : Program} {l : Launch} {e : Env} {s : State} {m : MethodId} {args : Array Value} {below : List Frame} {meth : Method} {c : Code} {D : va_G} {cI cR : ClassId} {ad : Nat → Nat} (hap : apN 77 ad) (C : Cx p s m args meth c cX5_dates 9 "WokenYears" D (tysC cI cR) 77 ad (some .int)) {b2 : Nat} {a3 : Int32} {a4 : Int32} {a5 : Int32} (hb2 : isI b2) {k128 : Sg → Option (Int32 × Sg)} (r : Int32) (σo : Sg)  (hk128 : ∀ (σ1 : Sg), k128 σ1 = some (r, σo) → Jd p l e (rmF 3 76) s m args below meth c D 77 ad (celC cI cR ad) okC 9 (MQ below (QI D (tysC cI cR) 77 ad (celC cI cR ad) okC r σo) args s 0 0 (inA 77 ad)) 128 [(0, .ref (ad 0)), (3, .int a3), (4, .int a4)] [] σ1) : ∀ (n : Nat) (x6 : Int32) (x7 : Int32) (σx : Sg), l_X5_dates_80 b2 a3 a4 a5 k128 n x6 x7 σx = some (r, σo) → Jd p l e (rmF 3 76) s m args below meth c D 77 ad (celC cI cR ad) okC 9 (MQ below (QI D (tysC cI cR) 77 ad (celC cI cR ad) okC r σo) args s 0 0 (inA 77 ad)) 80 [(0, .ref (ad 0)), (2, .ref (ad b2)), (3, .int a3), (4, .int a4), (5, .int a5), (6, .int x6), (7, .int x7)] [] σx := by
  intro n
  induction n with
  | zero => intro x6 x7 σx h; cases h
  | succ n ih =>
    intro x6 x7 σx h
    unfold l_X5_dates_80 at h
    refine J_iload (q := 82) C dX5_dates_80 rfl 6 rfl ?_
    refine J_aload_n (q := 83) C dX5_dates_82 rfl rfl 0 rfl ?_
    refine JC_g_X5_street (q := 86) C kF_X5_49 dX5_dates_83 rfl (fun hs9 => ?_)
    refine JC_g_X4_size (q := 89) C hs9 kF_X5_131 dX5_dates_86 rfl ?_
    refine J_icmp_ge (tgt := 128) (q := 92) C dX5_dates_89 rfl (by decide) h (fun _ h => ?_) (fun _ h => ?_)
    · refine J_sub [0, 2, 3] rfl ?_
      exact hk128 _ h
    · refine J_aload_n (q := 93) C dX5_dates_92 rfl rfl 0 rfl ?_
      refine JC_g_X5_street (q := 96) C kF_X5_49 dX5_dates_93 rfl (fun hs10 => ?_)
      refine J_iload (q := 98) C dX5_dates_96 rfl 5 rfl ?_
      refine J_iload (q := 100) C dX5_dates_98 rfl 4 rfl ?_
      obtain ⟨r11, ec11, h⟩ := bnd_of h
      refine J_callIV (q := 103) (As := [.int x6, .int a5]) C (c_X4_nextByDate hap hs10 ec11) ok_X4_nextByDate kM_X5_230 (lt77S hs10) (celC_S hs10) rfl rfl rfl rfl rfl ⟨Nat.le_of_ble_eq_true rfl, Nat.le_of_ble_eq_true rfl⟩ (Nat.le_of_ble_eq_true rfl) dX5_dates_100 rfl ?_
      refine J_istore (q := 105) C dX5_dates_103 rfl (by decide) rfl ?_
      refine J_aload_n (q := 106) C dX5_dates_105 rfl rfl 2 rfl ?_
      refine J_iload (q := 108) C dX5_dates_106 rfl 7 rfl ?_
      refine J_iload (q := 110) C dX5_dates_108 rfl 0 rfl ?_
      obtain ⟨σ12, ec12, h⟩ := bnd_of h
      refine J_callXV (q := 113) (As := [.int x7, .int r11]) C (c_X0_set hap hb2 ec12) ok_X0_set kM_X5_72 (lt77I hb2) (celC_I hb2) rfl rfl rfl rfl rfl ⟨Nat.le_of_ble_eq_true rfl, Nat.le_of_ble_eq_true rfl⟩ (Nat.le_of_ble_eq_true rfl) dX5_dates_110 rfl ?_
      refine J_iload (q := 115) C dX5_dates_113 rfl 6 rfl ?_
      refine J_iconst (v := 1 ) (q := 116) C dX5_dates_115 rfl rfl ?_
      refine J_iload (q := 118) C dX5_dates_116 rfl 0 rfl ?_
      refine J_ishl (q := 119) C dX5_dates_118 rfl ?_
      refine J_ior (q := 120) C dX5_dates_119 rfl ?_
      refine J_nmi h (fun y13 ey13 h => ?_)
      refine J_istore (q := 122) C dX5_dates_120 rfl (by decide) rfl ?_
      refine jn_elim h (fun y14 ey14 h => ?_)
      refine J_iinc (v := y14) (q := 125) C dX5_dates_122 rfl 7 rfl (by rw [ey14]; rfl) (by decide) rfl ?_
      refine J_goto (tgt := 80) C dX5_dates_125 (by decide) ?_
      refine J_sub [3, 4, 5, 6, 7, 1, 0] rfl ?_
      exact ih _ _ _ h
set_option maxHeartbeats 4000000 in
set_option maxRecDepth 100000 in
theorem c_X5_dates {l : Launch} {D : va_G} {cI cR : ClassId} {ad : Nat → Nat} (hap : apN 77 ad) {i1 : Int32} {σ : Sg} {r : Int32} {σo : Sg}  (h : f_X5_dates i1 σ = some (r, σo)) : MI l D (tysC cI cR) 77 ad (celC cI cR ad) okC yX5_dates cX5_dates 9 .int 3 76 [.ref (ad 0), .int i1] σ r σo := by
  unfold f_X5_dates at h
  refine entI "WokenYears" hap (by decide +kernel) rfl (Nat.le_of_ble_eq_true rfl) (fun p e s m args below meth c C => ?_)
  refine J_sub (lv' := [(0, .ref (ad 0)), (1, .int i1)]) [0, 1] rfl ?_
  refine J_aload_n (q := 1) C dX5_dates_0 rfl rfl 0 rfl ?_
  refine JC_g_X5_rows (q := 4) C kF_X5_13 dX5_dates_1 rfl ?_
  refine J_iload_n (q := 5) C dX5_dates_4 rfl rfl 1 rfl ?_
  obtain ⟨r1, ec1, h⟩ := bnd_of h
  refine J_callRS (q := 8) (As := [.ref (ad 71), .int i1]) C (c_X5_pick hap isRA_71 ec1) ok_X5_pick kM_X5_99 rfl rfl rfl ⟨Nat.le_of_ble_eq_true rfl, Nat.le_of_ble_eq_true rfl⟩ (Nat.le_of_ble_eq_true rfl) dX5_dates_5 rfl ?_
  cases r1 with
  | none =>
    have h := oc_none h
    refine J_st (st' := [.null]) rfl ?_
    refine J_astore_nN (q := 9) C dX5_dates_8 rfl rfl (by decide) rfl ?_
    refine J_aload_nN (q := 10) C dX5_dates_9 rfl rfl 0 rfl ?_
    refine J_ifnonnullN (q := 13) C dX5_dates_10 rfl ?_
    refine J_iconst (v := -1 ) (q := 14) C dX5_dates_13 rfl rfl ?_
    obtain ⟨rfl, rfl⟩ := Prod.mk.inj (Option.some.inj h)
    exact J_iret C dX5_dates_14
  | some g1 =>
    have h := oc_some h
    have ho1 := X5_pick_isI isRA_71 ec1
    refine J_st (st' := [.ref (ad g1)]) rfl ?_
    refine J_astore_n (q := 9) C dX5_dates_8 rfl rfl (by decide) rfl ?_
    refine J_aload_n (q := 10) C dX5_dates_9 rfl rfl 0 rfl ?_
    refine J_ifnonnull (tgt := 15) C dX5_dates_10 (by decide) ?_
    refine J_aload_n (q := 16) C dX5_dates_15 rfl rfl 1 rfl ?_
    refine JC_g_X5_street (q := 19) C kF_X5_49 dX5_dates_16 rfl (fun hs2 => ?_)
    refine JC_g_X4_size (q := 22) C hs2 kF_X5_131 dX5_dates_19 rfl ?_
    refine J_if_ne (tgt := 28) (q := 25) C dX5_dates_22 rfl (by decide) h (fun _ h => ?_) (fun _ h => ?_)
    · refine J_bipush (v := -4) (q := 27) C dX5_dates_25 rfl rfl ?_
      obtain ⟨rfl, rfl⟩ := Prod.mk.inj (Option.some.inj h)
      exact J_iret C dX5_dates_27
    · refine J_aload_n (q := 29) C dX5_dates_28 rfl rfl 1 rfl ?_
      refine JC_g_X5_street (q := 32) C kF_X5_49 dX5_dates_29 rfl (fun hs3 => ?_)
      refine J_iconst (v := 0 ) (q := 33) C dX5_dates_32 rfl rfl ?_
      refine J_iconst (v := 1 ) (q := 34) C dX5_dates_33 rfl rfl ?_
      obtain ⟨r4, ec4, h⟩ := bnd_of h
      refine J_callIV (q := 37) (As := [.int (0 : Int32), .int (1 : Int32)]) C (c_X4_nextByDate hap hs3 ec4) ok_X4_nextByDate kM_X5_230 (lt77S hs3) (celC_S hs3) rfl rfl rfl rfl rfl ⟨Nat.le_of_ble_eq_true rfl, Nat.le_of_ble_eq_true rfl⟩ (Nat.le_of_ble_eq_true rfl) dX5_dates_34 rfl ?_
      refine J_istore_n (q := 38) C dX5_dates_37 rfl rfl (by decide) rfl ?_
      refine J_aload_n (q := 39) C dX5_dates_38 rfl rfl 2 rfl ?_
      refine JC_g_X5_street (q := 42) C kF_X5_49 dX5_dates_39 rfl (fun hs5 => ?_)
      refine J_iconst (v := 0 ) (q := 43) C dX5_dates_42 rfl rfl ?_
      refine J_iconst (v := -1 ) (q := 44) C dX5_dates_43 rfl rfl ?_
      obtain ⟨r6, ec6, h⟩ := bnd_of h
      refine J_callIV (q := 47) (As := [.int (0 : Int32), .int (-1 : Int32)]) C (c_X4_nextByDate hap hs5 ec6) ok_X4_nextByDate kM_X5_230 (lt77S hs5) (celC_S hs5) rfl rfl rfl rfl rfl ⟨Nat.le_of_ble_eq_true rfl, Nat.le_of_ble_eq_true rfl⟩ (Nat.le_of_ble_eq_true rfl) dX5_dates_44 rfl ?_
      refine J_istore (q := 49) C dX5_dates_47 rfl (by decide) rfl ?_
      refine J_iload_n (q := 50) C dX5_dates_49 rfl rfl 1 rfl ?_
      refine J_iload (q := 52) C dX5_dates_50 rfl 0 rfl ?_
      refine jn_elim h (fun k60 ek60 h => ?_)
      have hk60 : ∀ (t0_60 : Int32), k60 t0_60 = some (r, σo) → Jd p l e (rmF 3 76) s m args below meth c D 77 ad (celC cI cR ad) okC 9 (MQ below (QI D (tysC cI cR) 77 ad (celC cI cR ad) okC r σo) args s 0 0 (inA 77 ad)) 60 [(0, .ref (ad 0)), (2, .ref (ad g1)), (3, .int r4), (4, .int r6)] [.int t0_60] σ := by
        intro t0_60 h
        rw [ek60] at h
        refine J_istore (q := 62) C dX5_dates_60 rfl (by decide) rfl ?_
        refine J_aload_n (q := 63) C dX5_dates_62 rfl rfl 2 rfl ?_
        refine J_aload_n (q := 64) C dX5_dates_63 rfl rfl 1 rfl ?_
        refine JC_g_X5_street (q := 67) C kF_X5_49 dX5_dates_64 rfl (fun hs7 => ?_)
        refine JC_g_X4_size (q := 70) C hs7 kF_X5_131 dX5_dates_67 rfl ?_
        refine J_iconst (v := 0 ) (q := 71) C dX5_dates_70 rfl rfl ?_
        obtain ⟨σ8, ec8, h⟩ := bnd_of h
        refine J_callXV (q := 74) (As := [.int (gS σ (16 * (gR σ 0) + 7)), .int (0 : Int32)]) C (c_X0_fill hap ho1 ec8) ok_X0_fill kM_X5_60 (lt77I ho1) (celC_I ho1) rfl rfl rfl rfl rfl ⟨Nat.le_of_ble_eq_true rfl, Nat.le_of_ble_eq_true rfl⟩ (Nat.le_of_ble_eq_true rfl) dX5_dates_71 rfl ?_
        refine J_iconst (v := 0 ) (q := 75) C dX5_dates_74 rfl rfl ?_
        refine J_istore (q := 77) C dX5_dates_75 rfl (by decide) rfl ?_
        refine J_iconst (v := 0 ) (q := 78) C dX5_dates_77 rfl rfl ?_
        refine J_istore (q := 80) C dX5_dates_78 rfl (by decide) rfl ?_
        refine J_sub [3, 4, 5, 6, 2, 1, 0] rfl ?_
        refine cl_X5_dates_80 hap C ho1 r σo  (fun σv128 h => ?_) FU _ _ _ h
        · refine J_aload_n (q := 129) C dX5_dates_128 rfl rfl 0 rfl ?_
          refine JC_g_X5_street (q := 132) C kF_X5_49 dX5_dates_129 rfl (fun hs15 => ?_)
          refine JC_g_X4_dates (q := 135) C hs15 kF_X5_146 dX5_dates_132 rfl ?_
          refine J_iload (q := 137) C dX5_dates_135 rfl 2 rfl ?_
          obtain ⟨r16, ec16, h⟩ := bnd_of h
          refine J_callIV (q := 140) (As := [.int r6]) C (c_X0_get hap (isI_st hs15 3 (by decide)) ec16) ok_X0_get kM_X5_68 (lt77I (isI_st hs15 3 (by decide))) (celC_I (isI_st hs15 3 (by decide))) rfl rfl rfl rfl rfl ⟨Nat.le_of_ble_eq_true rfl, Nat.le_of_ble_eq_true rfl⟩ (Nat.le_of_ble_eq_true rfl) dX5_dates_137 rfl ?_
          refine J_aload_n (q := 141) C dX5_dates_140 rfl rfl 0 rfl ?_
          refine JC_g_X5_street (q := 144) C kF_X5_49 dX5_dates_141 rfl (fun hs17 => ?_)
          refine JC_g_X4_dates (q := 147) C hs17 kF_X5_146 dX5_dates_144 rfl ?_
          refine J_iload_n (q := 148) C dX5_dates_147 rfl rfl 1 rfl ?_
          obtain ⟨r18, ec18, h⟩ := bnd_of h
          refine J_callIV (q := 151) (As := [.int r4]) C (c_X0_get hap (isI_st hs17 3 (by decide)) ec18) ok_X0_get kM_X5_68 (lt77I (isI_st hs17 3 (by decide))) (celC_I (isI_st hs17 3 (by decide))) rfl rfl rfl rfl rfl ⟨Nat.le_of_ble_eq_true rfl, Nat.le_of_ble_eq_true rfl⟩ (Nat.le_of_ble_eq_true rfl) dX5_dates_148 rfl ?_
          refine J_isub (q := 152) C dX5_dates_151 rfl ?_
          obtain ⟨rfl, rfl⟩ := Prod.mk.inj (Option.some.inj h)
          exact J_iret C dX5_dates_152
      refine J_icmp_gt (tgt := 59) (q := 55) C dX5_dates_52 rfl (by decide) h (fun _ h => ?_) (fun _ h => ?_)
      · refine J_iconst (v := -1 ) (q := 60) C dX5_dates_59 rfl rfl ?_
        refine J_sub [3, 2, 1, 0] rfl ?_
        exact hk60 _ h
      · refine J_iconst (v := 1 ) (q := 56) C dX5_dates_55 rfl rfl ?_
        refine J_goto (tgt := 60) C dX5_dates_56 (by decide) ?_
        refine J_sub [3, 2, 1, 0] rfl ?_
        exact hk60 _ h
