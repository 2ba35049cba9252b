set_option maxHeartbeats 4000000 in
set_option maxRecDepth 100000 in
theorem c_X5_found {l : Launch} {D : va_G} {cI cR : ClassId} {ad : Nat → Nat} (hap : apN 74 ad) {i1 : Int32} {σ : Sg} {r : Int32} {σo : Sg}  (h : f_X5_found i1 σ = some (r, σo)) : MI l D (tysC cI cR) 74 ad (celC cI cR ad) okC yX5_found cX5_found 2 .int 2 52 [.ref (ad 0), .int i1] σ r σo := by
  unfold f_X5_found at h
  refine entI "WokenYears" hap (by decide +kernel) rfl (Nat.le_of_ble_eq_true rfl) (fun p e s m args below meth c C => ?_)
  refine J_sub (lv' := [(0, .ref (ad 0)), (1, .int i1)]) [0, 1] rfl ?_
  refine J_aload_n (q := 1) C dX5_found_0 rfl rfl 0 rfl ?_
  refine J_iload_n (q := 2) C dX5_found_1 rfl rfl 1 rfl ?_
  refine JC_p_X5_finding (q := 5) C kF_X5_64 dX5_found_2 rfl ?_
  refine jn_elim h (fun σ1 eσ1 h => ?_)
  rw [← eσ1]
  refine J_aload_n (q := 6) C dX5_found_5 rfl rfl 0 rfl ?_
  refine JC_g_X5_findings (q := 9) C kF_X5_42 dX5_found_6 rfl ?_
  refine J_iload_n (q := 10) C dX5_found_9 rfl rfl 1 rfl ?_
  refine J_aload_n (q := 11) C dX5_found_10 rfl rfl 0 rfl ?_
  refine JC_g_X5_findings (q := 14) C kF_X5_42 dX5_found_11 rfl ?_
  refine J_iload_n (q := 15) C dX5_found_14 rfl rfl 1 rfl ?_
  obtain ⟨r2, ec2, h⟩ := bnd_of h
  refine J_callIV (q := 18) (As := [.int i1]) C (c_X0_get hap isI_18 ec2) ok_X0_get kM_X5_68 (lt74I isI_18) (celC_I isI_18) rfl rfl rfl rfl rfl ⟨Nat.le_of_ble_eq_true rfl, Nat.le_of_ble_eq_true rfl⟩ (Nat.le_of_ble_eq_true rfl) dX5_found_15 rfl ?_
  refine J_iconst (v := 1 ) (q := 19) C dX5_found_18 rfl rfl ?_
  refine J_iadd (q := 20) C dX5_found_19 rfl ?_
  obtain ⟨σ3, ec3, h⟩ := bnd_of h
  refine J_callXV (q := 23) (As := [.int i1, .int (r2 + (1 : Int32))]) C (c_X0_set hap isI_18 ec3) ok_X0_set kM_X5_72 (lt74I isI_18) (celC_I isI_18) rfl rfl rfl rfl rfl ⟨Nat.le_of_ble_eq_true rfl, Nat.le_of_ble_eq_true rfl⟩ (Nat.le_of_ble_eq_true rfl) dX5_found_20 rfl ?_
  refine J_bipush (v := -3) (q := 25) C dX5_found_23 rfl rfl ?_
  obtain ⟨rfl, rfl⟩ := Prod.mk.inj (Option.some.inj h)
  exact J_iret C dX5_found_25
set_option maxHeartbeats 4000000 in
set_option maxRecDepth 100000 in
theorem c_X5_within {l : Launch} {D : va_G} {cI cR : ClassId} {ad : Nat → Nat} (hap : apN 74 ad) {i0 : Int32} {i1 : Int32} {i2 : Int32} {σ : Sg} {r : Bool}  (h : f_X5_within i0 i1 i2 = some r) : MI l D (tysC cI cR) 74 ad (celC cI cR ad) okC yX5_within cX5_within 3 .boolean 1 30 [.int i0, .int i1, .int i2] σ (b2i r) σ := by
  unfold f_X5_within at h
  refine entI "WokenYears" hap (by decide +kernel) rfl (Nat.le_of_ble_eq_true rfl) (fun p e s m args below meth c C => ?_)
  refine J_sub (lv' := [(0, .int i0), (1, .int i1), (2, .int i2)]) [0, 1, 2] rfl ?_
  refine J_iload_n (q := 1) C dX5_within_0 rfl rfl 0 rfl ?_
  refine J_iload_n (q := 2) C dX5_within_1 rfl rfl 1 rfl ?_
  refine J_icmp_lt (tgt := 14) (q := 5) C dX5_within_2 rfl (by decide) h (fun _ h => ?_) (fun _ h => ?_)
  · refine J_iconst (v := 0 ) (q := 15) C dX5_within_14 rfl rfl ?_
    obtain rfl := Option.some.inj h
    exact J_zret (b := false) C dX5_within_15
  · refine J_iload_n (q := 6) C dX5_within_5 rfl rfl 0 rfl ?_
    refine J_iload_n (q := 7) C dX5_within_6 rfl rfl 2 rfl ?_
    refine J_icmp_gt (tgt := 14) (q := 10) C dX5_within_7 rfl (by decide) h (fun _ h => ?_) (fun _ h => ?_)
    · refine J_iconst (v := 0 ) (q := 15) C dX5_within_14 rfl rfl ?_
      obtain rfl := Option.some.inj h
      exact J_zret (b := false) C dX5_within_15
    · refine J_iconst (v := 1 ) (q := 11) C dX5_within_10 rfl rfl ?_
      refine J_goto (tgt := 15) C dX5_within_11 (by decide) ?_
      obtain rfl := Option.some.inj h
      exact J_zret (b := true) C dX5_within_15
set_option maxHeartbeats 4000000 in
set_option maxRecDepth 100000 in
theorem c_X5_isDate {l : Launch} {D : va_G} {cI cR : ClassId} {ad : Nat → Nat} (hap : apN 74 ad) {i0 : Int32} {σ : Sg} {r : Bool}  (h : f_X5_isDate i0 = some r) : MI l D (tysC cI cR) 74 ad (celC cI cR ad) okC yX5_isDate cX5_isDate 1 .boolean 2 52 [.int i0] σ (b2i r) σ := by
  unfold f_X5_isDate at h
  refine entI "WokenYears" hap (by decide +kernel) rfl (Nat.le_of_ble_eq_true rfl) (fun p e s m args below meth c C => ?_)
  refine J_sub (lv' := [(0, .int i0)]) [0] rfl ?_
  refine J_iload_n (q := 1) C dX5_isDate_0 rfl rfl 0 rfl ?_
  refine J_iconst (v := 0 ) (q := 2) C dX5_isDate_1 rfl rfl ?_
  refine J_bipush (v := 99) (q := 4) C dX5_isDate_2 rfl rfl ?_
  obtain ⟨r1, ec1, h⟩ := bnd_of h
  refine J_callIS (q := 7) (As := [.int i0, .int (0 : Int32), .int (99 : Int32)]) C (c_X5_within hap  ec1) ok_X5_within kM_X5_75 rfl rfl rfl ⟨Nat.le_of_ble_eq_true rfl, Nat.le_of_ble_eq_true rfl⟩ (Nat.le_of_ble_eq_true rfl) dX5_isDate_4 rfl ?_
  obtain rfl := Option.some.inj h
  exact J_zret (b := _) C dX5_isDate_7
set_option maxHeartbeats 4000000 in
set_option maxRecDepth 100000 in
theorem c_X5_pick {l : Launch} {D : va_G} {cI cR : ClassId} {ad : Nat → Nat} (hap : apN 74 ad) {g0 : Nat} {i1 : Int32} {σ : Sg} {r : (Option Nat)} (ho0 : isRA g0) (h : f_X5_pick g0 i1 = some r) : MR l D (tysC cI cR) 74 ad (celC cI cR ad) okC yX5_pick cX5_pick 2 (.object "WokenYears$Ints") 1 30 [.ref (ad g0), .int i1] σ r σ := by
  unfold f_X5_pick at h
  refine entR "WokenYears" hap (by decide +kernel) rfl (Nat.le_of_ble_eq_true rfl) (fun p e s m args below meth c C => ?_)
  refine J_sub (lv' := [(0, .ref (ad g0)), (1, .int i1)]) [0, 1] rfl ?_
  refine J_iload_n (q := 1) C dX5_pick_0 rfl rfl 1 rfl ?_
  refine J_if_lt (tgt := 16) (q := 4) C dX5_pick_1 rfl (by decide) h (fun _ h => ?_) (fun _ h => ?_)
  · refine J_null (q := 17) C dX5_pick_16 rfl ?_
    obtain rfl := Option.some.inj h
    exact J_aret (r := none) C rfl dX5_pick_17
  · refine J_iload_n (q := 5) C dX5_pick_4 rfl rfl 1 rfl ?_
    refine J_aload_n (q := 6) C dX5_pick_5 rfl rfl 0 rfl ?_
    refine JC_ralen (q := 7) C ho0 dX5_pick_6 rfl ?_
    refine J_icmp_ge (tgt := 16) (q := 10) C dX5_pick_7 rfl (by decide) h (fun _ h => ?_) (fun _ h => ?_)
    · refine J_null (q := 17) C dX5_pick_16 rfl ?_
      obtain rfl := Option.some.inj h
      exact J_aret (r := none) C rfl dX5_pick_17
    · refine J_aload_n (q := 11) C dX5_pick_10 rfl rfl 0 rfl ?_
      refine J_iload_n (q := 12) C dX5_pick_11 rfl rfl 1 rfl ?_
      refine JC_aald (q := 13) C ho0 h dX5_pick_12 rfl (fun hog1 h => ?_)
      refine J_goto (tgt := 17) C dX5_pick_13 (by decide) ?_
      obtain rfl := Option.some.inj h
      exact J_aret (r := (some (rBase g0 + i1.toNatClampNeg))) C rfl dX5_pick_17
theorem X5_pick_isI {g q : Nat} {i1 : Int32} (ho : isRA g) (h : f_X5_pick g i1 = some (some q)) : isI q := by
  unfold f_X5_pick at h
  by_cases h1 : i1 < 0
  · rw [if_pos h1] at h
    cases h
  · rw [if_neg h1] at h
    split at h
    · cases h
    · obtain ⟨hb, h⟩ := ck_of h
      have e := Option.some.inj (Option.some.inj h)
      rw [← e]
      exact isI_of ho hb
set_option maxHeartbeats 4000000 in
set_option maxRecDepth 100000 in
theorem c_X5_refused {l : Launch} {D : va_G} {cI cR : ClassId} {ad : Nat → Nat} (hap : apN 74 ad) {o1 : Option Nat} {σ : Sg} {r : Int32} {σo : Sg} (ho1 : ∀ q, o1 = some q → isI q) (h : f_X5_refused o1 σ = some (r, σo)) : MI l D (tysC cI cR) 74 ad (celC cI cR ad) okC yX5_refused cX5_refused 2 .int 3 73 [.ref (ad 0), va_re ad o1] σ r σo := by
  unfold f_X5_refused at h
  cases o1 with
  | none =>
    have h := oc_none h
    refine entI "WokenYears" hap (by decide +kernel) rfl (Nat.le_of_ble_eq_true rfl) (fun p e s m args below meth c C => ?_)
    refine J_sub (lv' := [(0, .ref (ad 0)), (1, .null)]) [0, 1] rfl ?_
    refine J_aload_nN (q := 1) C dX5_refused_0 rfl rfl 1 rfl ?_
    refine J_ifnonnullN (q := 4) C dX5_refused_1 rfl ?_
    refine J_iconst (v := -1 ) (q := 5) C dX5_refused_4 rfl rfl ?_
    obtain ⟨rfl, rfl⟩ := Prod.mk.inj (Option.some.inj h)
    exact J_iret C dX5_refused_5
  | some q1 =>
    have hq1 := ho1 q1 rfl
    have h := oc_some h
    refine entI "WokenYears" hap (by decide +kernel) rfl (Nat.le_of_ble_eq_true rfl) (fun p e s m args below meth c C => ?_)
    refine J_sub (lv' := [(0, .ref (ad 0)), (1, .ref (ad q1))]) [0, 1] rfl ?_
    refine J_aload_n (q := 1) C dX5_refused_0 rfl rfl 1 rfl ?_
    refine J_ifnonnull (tgt := 6) C dX5_refused_1 (by decide) ?_
    refine J_aload_n (q := 7) C dX5_refused_6 rfl rfl 1 rfl ?_
    refine JC_g_X0_size (q := 10) C hq1 kF_X5_85 dX5_refused_7 rfl ?_
    refine J_if_ge (tgt := 21) (q := 13) C dX5_refused_10 rfl (by decide) h (fun _ h => ?_) (fun _ h => ?_)
    · refine J_iconst (v := 0 ) (q := 22) C dX5_refused_21 rfl rfl ?_
      obtain ⟨rfl, rfl⟩ := Prod.mk.inj (Option.some.inj h)
      exact J_iret C dX5_refused_22
    · refine J_aload_n (q := 14) C dX5_refused_13 rfl rfl 0 rfl ?_
      refine J_iconst (v := 1 ) (q := 15) C dX5_refused_14 rfl rfl ?_
      obtain ⟨r1, σ1, ec1, h⟩ := bnd2_of h
      refine J_callIV (q := 18) (As := [.int (1 : Int32)]) C (c_X5_found hap  ec1) ok_X5_found kM_X5_88 (by decide) rfl rfl rfl rfl rfl rfl ⟨Nat.le_of_ble_eq_true rfl, Nat.le_of_ble_eq_true rfl⟩ (Nat.le_of_ble_eq_true rfl) dX5_refused_15 rfl ?_
      refine J_goto (tgt := 22) C dX5_refused_18 (by decide) ?_
      obtain ⟨rfl, rfl⟩ := Prod.mk.inj (Option.some.inj h)
      exact J_iret C dX5_refused_22
set_option maxHeartbeats 4000000 in
set_option maxRecDepth 100000 in
theorem c_X5_refusedAt {l : Launch} {D : va_G} {cI cR : ClassId} {ad : Nat → Nat} (hap : apN 74 ad) {o1 : Option Nat} {i2 : Int32} {σ : Sg} {r : Int32} {σo : Sg} (ho1 : ∀ q, o1 = some q → isI q) (h : f_X5_refusedAt o1 i2 σ = some (r, σo)) : MI l D (tysC cI cR) 74 ad (celC cI cR ad) okC yX5_refusedAt cX5_refusedAt 4 .int 4 94 [.ref (ad 0), va_re ad o1, .int i2] σ r σo := by
  unfold f_X5_refusedAt at h
  cases o1 with
  | none =>
    have h := oc_none h
    refine entI "WokenYears" hap (by decide +kernel) rfl (Nat.le_of_ble_eq_true rfl) (fun p e s m args below meth c C => ?_)
    refine J_sub (lv' := [(0, .ref (ad 0)), (1, .null), (2, .int i2)]) [0, 1, 2] rfl ?_
    refine J_aload_n (q := 1) C dX5_refusedAt_0 rfl rfl 0 rfl ?_
    refine J_aload_nN (q := 2) C dX5_refusedAt_1 rfl rfl 1 rfl ?_
    obtain ⟨r1, σ1, ec1, h⟩ := bnd2_of h
    refine J_callIV (q := 5) (As := [.null]) C (c_X5_refused hap noneI ec1) ok_X5_refused kM_X5_91 (by decide) rfl rfl rfl rfl rfl rfl ⟨Nat.le_of_ble_eq_true rfl, Nat.le_of_ble_eq_true rfl⟩ (Nat.le_of_ble_eq_true rfl) dX5_refusedAt_2 rfl ?_
    refine J_istore_n (q := 6) C dX5_refusedAt_5 rfl rfl (by decide) rfl ?_
    refine J_aload_nN (q := 7) C dX5_refusedAt_6 rfl rfl 2 rfl ?_
    refine J_ifnullN (tgt := 14) C dX5_refusedAt_7 (by decide) ?_
    refine J_iload_n (q := 15) C dX5_refusedAt_14 rfl rfl 0 rfl ?_
    obtain ⟨rfl, rfl⟩ := Prod.mk.inj (Option.some.inj h)
    exact J_iret C dX5_refusedAt_15
  | some q1 =>
    have hq1 := ho1 q1 rfl
    have h := oc_some h
    refine entI "WokenYears" hap (by decide +kernel) rfl (Nat.le_of_ble_eq_true rfl) (fun p e s m args below meth c C => ?_)
    refine J_sub (lv' := [(0, .ref (ad 0)), (1, .ref (ad q1)), (2, .int i2)]) [0, 1, 2] rfl ?_
    refine J_aload_n (q := 1) C dX5_refusedAt_0 rfl rfl 0 rfl ?_
    refine J_aload_n (q := 2) C dX5_refusedAt_1 rfl rfl 1 rfl ?_
    obtain ⟨r2, σ2, ec2, h⟩ := bnd2_of h
    refine J_callIV (q := 5) (As := [.ref (ad q1)]) C (c_X5_refused hap (someI hq1) ec2) ok_X5_refused kM_X5_91 (by decide) rfl rfl rfl rfl rfl rfl ⟨Nat.le_of_ble_eq_true rfl, Nat.le_of_ble_eq_true rfl⟩ (Nat.le_of_ble_eq_true rfl) dX5_refusedAt_2 rfl ?_
    refine J_istore_n (q := 6) C dX5_refusedAt_5 rfl rfl (by decide) rfl ?_
    refine J_aload_n (q := 7) C dX5_refusedAt_6 rfl rfl 2 rfl ?_
    refine J_ifnull (q := 10) C dX5_refusedAt_7 rfl ?_
    refine J_iload_n (q := 11) C dX5_refusedAt_10 rfl rfl 0 rfl ?_
    refine J_if_eq (tgt := 16) (q := 14) C dX5_refusedAt_11 rfl (by decide) h (fun _ h => ?_) (fun _ h => ?_)
    · refine J_aload_n (q := 17) C dX5_refusedAt_16 rfl rfl 2 rfl ?_
      refine J_iload_n (q := 18) C dX5_refusedAt_17 rfl rfl 3 rfl ?_
      obtain ⟨r3, ec3, h⟩ := bnd_of h
      refine J_callIV (q := 21) (As := [.int i2]) C (c_X0_has hap hq1 ec3) ok_X0_has kM_X5_95 (lt74I hq1) (celC_I hq1) rfl rfl rfl rfl rfl ⟨Nat.le_of_ble_eq_true rfl, Nat.le_of_ble_eq_true rfl⟩ (Nat.le_of_ble_eq_true rfl) dX5_refusedAt_18 rfl ?_
      refine J_ifeq_b (tgt := 28) (q := 24) C dX5_refusedAt_21 rfl (by decide) h (fun _ h => ?_) (fun _ h => ?_)
      · refine J_iconst (v := 0 ) (q := 25) C dX5_refusedAt_24 rfl rfl ?_
        refine J_goto (tgt := 33) C dX5_refusedAt_25 (by decide) ?_
        obtain ⟨rfl, rfl⟩ := Prod.mk.inj (Option.some.inj h)
        exact J_iret C dX5_refusedAt_33
      · refine J_aload_n (q := 29) C dX5_refusedAt_28 rfl rfl 1 rfl ?_
        refine J_iconst (v := 2 ) (q := 30) C dX5_refusedAt_29 rfl rfl ?_
        obtain ⟨r4, σ4, ec4, h⟩ := bnd2_of h
        refine J_callIV (q := 33) (As := [.int (2 : Int32)]) C (c_X5_found hap  ec4) ok_X5_found kM_X5_88 (by decide) rfl rfl rfl rfl rfl rfl ⟨Nat.le_of_ble_eq_true rfl, Nat.le_of_ble_eq_true rfl⟩ (Nat.le_of_ble_eq_true rfl) dX5_refusedAt_30 rfl ?_
        obtain ⟨rfl, rfl⟩ := Prod.mk.inj (Option.some.inj h)
        exact J_iret C dX5_refusedAt_33
    · refine J_iload_n (q := 15) C dX5_refusedAt_14 rfl rfl 0 rfl ?_
      obtain ⟨rfl, rfl⟩ := Prod.mk.inj (Option.some.inj h)
      exact J_iret C dX5_refusedAt_15
set_option maxHeartbeats 4000000 in
set_option maxRecDepth 100000 in
theorem cl_X5_present_4 {p : Program} {l : Launch} {e : Env} {s : State} {m : MethodId} {args : Array Value} {below : List Frame} {meth : Method} {c : Code} {D : va_G} {cI cR : ClassId} {ad : Nat → Nat} (hap : apN 74 ad) (C : Cx p s m args meth c cX5_present 4 "WokenYears" D (tysC cI cR) 74 ad (some .int)) {b0 : Nat} (hb0 : isRA b0) {k34 : Int32 → Option Int32} {σ : Sg} (r : Int32)  (hk34 : ∀ (u1 : Int32), k34 u1 = some r → Jd p l e (rmF 1 30) s m args below meth c D 74 ad (celC cI cR ad) okC 4 (MQ below (QI D (tysC cI cR) 74 ad (celC cI cR ad) okC r σ) args s 0 0 (inA 74 ad)) 34 [(1, .int u1)] [] σ) : ∀ (n : Nat) (x1 : Int32) (x2 : Int32), l_X5_present_4 b0 σ k34 n x1 x2 = some r → Jd p l e (rmF 1 30) s m args below meth c D 74 ad (celC cI cR ad) okC 4 (MQ below (QI D (tysC cI cR) 74 ad (celC cI cR ad) okC r σ) args s 0 0 (inA 74 ad)) 4 [(0, .ref (ad b0)), (1, .int x1), (2, .int x2)] [] σ := by
  intro n
  induction n with
  | zero => intro x1 x2 h; cases h
  | succ n ih =>
    intro x1 x2 h
    unfold l_X5_present_4 at h
    refine J_iload_n (q := 5) C dX5_present_4 rfl rfl 2 rfl ?_
    refine J_aload_n (q := 6) C dX5_present_5 rfl rfl 0 rfl ?_
    refine JC_ralen (q := 7) C hb0 dX5_present_6 rfl ?_
    refine J_icmp_ge (tgt := 34) (q := 10) C dX5_present_7 rfl (by decide) h (fun _ h => ?_) (fun _ h => ?_)
    · refine J_sub [1] rfl ?_
      exact hk34 _ h
    · refine J_aload_n (q := 11) C dX5_present_10 rfl rfl 0 rfl ?_
      refine J_iload_n (q := 12) C dX5_present_11 rfl rfl 2 rfl ?_
      refine JC_aald (q := 13) C hb0 h dX5_present_12 rfl (fun hog1 h => ?_)
      refine J_astore_n (q := 14) C dX5_present_13 rfl rfl (by decide) rfl ?_
      refine J_aload_n (q := 15) C dX5_present_14 rfl rfl 0 rfl ?_
      refine jn_elim h (fun k28 ek28 h => ?_)
      have hk28 : ∀ (u1_28 : Int32), k28 u1_28 = some r → Jd p l e (rmF 1 30) s m args below meth c D 74 ad (celC cI cR ad) okC 4 (MQ below (QI D (tysC cI cR) 74 ad (celC cI cR ad) okC r σ) args s 0 0 (inA 74 ad)) 28 [(0, .ref (ad b0)), (1, .int u1_28), (2, .int x2)] [] σ := by
        intro u1_28 h
        rw [ek28] at h
        refine jn_elim h (fun y2 ey2 h => ?_)
        refine J_iinc (v := y2) (q := 31) C dX5_present_28 rfl 2 rfl (by rw [ey2]; rfl) (by decide) rfl ?_
        refine J_goto (tgt := 4) C dX5_present_31 (by decide) ?_
        refine J_sub [1, 2, 0] rfl ?_
        exact ih _ _ h
      refine J_ifnull (q := 18) C dX5_present_15 rfl ?_
      refine J_aload_n (q := 19) C dX5_present_18 rfl rfl 0 rfl ?_
      refine JC_g_X0_size (q := 22) C hog1 kF_X5_85 dX5_present_19 rfl ?_
      refine J_if_lt (tgt := 28) (q := 25) C dX5_present_22 rfl (by decide) h (fun _ h => ?_) (fun _ h => ?_)
      · refine J_sub [1, 2, 3] rfl ?_
        exact hk28 _ h
      · refine jn_elim h (fun y3 ey3 h => ?_)
        refine J_iinc (v := y3) (q := 28) C dX5_present_25 rfl 2 rfl (by rw [ey3]; rfl) (by decide) rfl ?_
        refine J_sub [2, 0, 3] rfl ?_
        exact hk28 _ h
set_option maxHeartbeats 4000000 in
set_option maxRecDepth 100000 in
theorem c_X5_present {l : Launch} {D : va_G} {cI cR : ClassId} {ad : Nat → Nat} (hap : apN 74 ad) {g0 : Nat} {σ : Sg} {r : Int32} (ho0 : isRA g0) (h : f_X5_present g0 σ = some r) : MI l D (tysC cI cR) 74 ad (celC cI cR ad) okC yX5_present cX5_present 4 .int 1 30 [.ref (ad g0)] σ r σ := by
  unfold f_X5_present at h
  refine entI "WokenYears" hap (by decide +kernel) rfl (Nat.le_of_ble_eq_true rfl) (fun p e s m args below meth c C => ?_)
  refine J_sub (lv' := [(0, .ref (ad g0))]) [0] rfl ?_
  refine J_iconst (v := 0 ) (q := 1) C dX5_present_0 rfl rfl ?_
  refine J_istore_n (q := 2) C dX5_present_1 rfl rfl (by decide) rfl ?_
  refine J_iconst (v := 0 ) (q := 3) C dX5_present_2 rfl rfl ?_
  refine J_istore_n (q := 4) C dX5_present_3 rfl rfl (by decide) rfl ?_
  refine J_sub [2, 1, 0] rfl ?_
  refine cl_X5_present_4 hap C ho0 r  (fun v1_34 h => ?_) FU _ _ h
  · refine J_iload_n (q := 35) C dX5_present_34 rfl rfl 0 rfl ?_
    obtain rfl := Option.some.inj h
    exact J_iret C dX5_present_35
set_option maxHeartbeats 4000000 in
set_option maxRecDepth 100000 in
theorem c_X5_row {l : Launch} {D : va_G} {cI cR : ClassId} {ad : Nat → Nat} (hap : apN 74 ad) {i1 : Int32} {i2 : Int32} {σ : Sg} {r : Int32} {σo : Sg}  (h : f_X5_row i1 i2 σ = some (r, σo)) : MI l D (tysC cI cR) 74 ad (celC cI cR ad) okC yX5_row cX5_row 4 .int 3 73 [.ref (ad 0), .int i1, .int i2] σ r σo := by
  unfold f_X5_row at h
  refine entI "WokenYears" hap (by decide +kernel) rfl (Nat.le_of_ble_eq_true rfl) (fun p e s m args below meth c C => ?_)
  refine J_sub (lv' := [(0, .ref (ad 0)), (1, .int i1), (2, .int i2)]) [0, 1, 2] rfl ?_
  refine J_aload_n (q := 1) C dX5_row_0 rfl rfl 0 rfl ?_
  refine JC_g_X5_rows (q := 4) C kF_X5_13 dX5_row_1 rfl ?_
  refine J_iload_n (q := 5) C dX5_row_4 rfl rfl 1 rfl ?_
  obtain ⟨r1, ec1, h⟩ := bnd_of h
  refine J_callRS (q := 8) (As := [.ref (ad 71), .int i1]) C (c_X5_pick hap isRA_71 ec1) ok_X5_pick kM_X5_99 rfl rfl rfl ⟨Nat.le_of_ble_eq_true rfl, Nat.le_of_ble_eq_true rfl⟩ (Nat.le_of_ble_eq_true rfl) dX5_row_5 rfl ?_
  cases r1 with
  | none =>
    have h := oc_none h
    refine J_st (st' := [.null]) rfl ?_
    refine J_astore_nN (q := 9) C dX5_row_8 rfl rfl (by decide) rfl ?_
    refine J_aload_nN (q := 10) C dX5_row_9 rfl rfl 0 rfl ?_
    refine J_ifnullN (tgt := 19) C dX5_row_10 (by decide) ?_
    refine J_iconst (v := -1 ) (q := 20) C dX5_row_19 rfl rfl ?_
    obtain ⟨rfl, rfl⟩ := Prod.mk.inj (Option.some.inj h)
    exact J_iret C dX5_row_20
  | some g1 =>
    have h := oc_some h
    have ho1 := X5_pick_isI isRA_71 ec1
    refine J_st (st' := [.ref (ad g1)]) rfl ?_
    refine J_astore_n (q := 9) C dX5_row_8 rfl rfl (by decide) rfl ?_
    refine J_aload_n (q := 10) C dX5_row_9 rfl rfl 0 rfl ?_
    refine J_ifnull (q := 13) C dX5_row_10 rfl ?_
    refine J_iload_n (q := 14) C dX5_row_13 rfl rfl 3 rfl ?_
    refine J_bipush (v := 40) (q := 16) C dX5_row_14 rfl rfl ?_
    refine J_icmp_le (tgt := 21) (q := 19) C dX5_row_16 rfl (by decide) h (fun _ h => ?_) (fun _ h => ?_)
    · refine J_iload_n (q := 22) C dX5_row_21 rfl rfl 3 rfl ?_
      refine J_if_ge (tgt := 31) (q := 25) C dX5_row_22 rfl (by decide) h (fun _ h => ?_) (fun _ h => ?_)
      · refine J_aload_n (q := 32) C dX5_row_31 rfl rfl 0 rfl ?_
        refine J_iload_n (q := 33) C dX5_row_32 rfl rfl 3 rfl ?_
        refine J_iconst (v := 0 ) (q := 34) C dX5_row_33 rfl rfl ?_
        obtain ⟨σ2, ec2, h⟩ := bnd_of h
        refine J_callXV (q := 37) (As := [.int i2, .int (0 : Int32)]) C (c_X0_fill hap ho1 ec2) ok_X0_fill kM_X5_60 (lt74I ho1) (celC_I ho1) rfl rfl rfl rfl rfl ⟨Nat.le_of_ble_eq_true rfl, Nat.le_of_ble_eq_true rfl⟩ (Nat.le_of_ble_eq_true rfl) dX5_row_34 rfl ?_
        refine J_iload_n (q := 38) C dX5_row_37 rfl rfl 3 rfl ?_
        obtain ⟨rfl, rfl⟩ := Prod.mk.inj (Option.some.inj h)
        exact J_iret C dX5_row_38
      · refine J_aload_n (q := 26) C dX5_row_25 rfl rfl 1 rfl ?_
        refine J_iconst (v := 5 ) (q := 27) C dX5_row_26 rfl rfl ?_
        obtain ⟨r3, σ3, ec3, h⟩ := bnd2_of h
        refine J_callIV (q := 30) (As := [.int (5 : Int32)]) C (c_X5_found hap  ec3) ok_X5_found kM_X5_88 (by decide) rfl rfl rfl rfl rfl rfl ⟨Nat.le_of_ble_eq_true rfl, Nat.le_of_ble_eq_true rfl⟩ (Nat.le_of_ble_eq_true rfl) dX5_row_27 rfl ?_
        obtain ⟨rfl, rfl⟩ := Prod.mk.inj (Option.some.inj h)
        exact J_iret C dX5_row_30
    · refine J_iconst (v := -1 ) (q := 20) C dX5_row_19 rfl rfl ?_
      obtain ⟨rfl, rfl⟩ := Prod.mk.inj (Option.some.inj h)
      exact J_iret C dX5_row_20
set_option maxHeartbeats 4000000 in
set_option maxRecDepth 100000 in
theorem c_X5_lay {l : Launch} {D : va_G} {cI cR : ClassId} {ad : Nat → Nat} (hap : apN 74 ad) {i1 : Int32} {i2 : Int32} {i3 : Int32} {σ : Sg} {r : Int32} {σo : Sg}  (h : f_X5_lay i1 i2 i3 σ = some (r, σo)) : MI l D (tysC cI cR) 74 ad (celC cI cR ad) okC yX5_lay cX5_lay 6 .int 5 117 [.ref (ad 0), .int i1, .int i2, .int i3] σ r σo := by
  unfold f_X5_lay at h
  refine entI "WokenYears" hap (by decide +kernel) rfl (Nat.le_of_ble_eq_true rfl) (fun p e s m args below meth c C => ?_)
  refine J_sub (lv' := [(0, .ref (ad 0)), (1, .int i1), (2, .int i2), (3, .int i3)]) [0, 1, 2, 3] rfl ?_
  refine J_aload_n (q := 1) C dX5_lay_0 rfl rfl 0 rfl ?_
  refine JC_g_X5_rows (q := 4) C kF_X5_13 dX5_lay_1 rfl ?_
  refine J_iload_n (q := 5) C dX5_lay_4 rfl rfl 1 rfl ?_
  obtain ⟨r1, ec1, h⟩ := bnd_of h
  refine J_callRS (q := 8) (As := [.ref (ad 71), .int i1]) C (c_X5_pick hap isRA_71 ec1) ok_X5_pick kM_X5_99 rfl rfl rfl ⟨Nat.le_of_ble_eq_true rfl, Nat.le_of_ble_eq_true rfl⟩ (Nat.le_of_ble_eq_true rfl) dX5_lay_5 rfl ?_
  cases r1 with
  | none =>
    have h := oc_none h
    refine J_st (st' := [.null]) rfl ?_
    refine J_astoreN (q := 10) C dX5_lay_8 rfl (by decide) rfl ?_
    refine J_aload_n (q := 11) C dX5_lay_10 rfl rfl 1 rfl ?_
    refine J_aloadN (q := 13) C dX5_lay_11 rfl 0 rfl ?_
    refine J_iload_n (q := 14) C dX5_lay_13 rfl rfl 3 rfl ?_
    obtain ⟨r2, σ2, ec2, h⟩ := bnd2_of h
    refine J_callIV (q := 17) (As := [.null, .int i2]) C (c_X5_refusedAt hap noneI ec2) ok_X5_refusedAt kM_X5_103 (by decide) rfl rfl rfl rfl rfl rfl ⟨Nat.le_of_ble_eq_true rfl, Nat.le_of_ble_eq_true rfl⟩ (Nat.le_of_ble_eq_true rfl) dX5_lay_14 rfl ?_
    refine J_istore (q := 19) C dX5_lay_17 rfl (by decide) rfl ?_
    refine J_aloadN (q := 21) C dX5_lay_19 rfl 1 rfl ?_
    refine J_ifnullN (tgt := 29) C dX5_lay_21 (by decide) ?_
    refine J_iload (q := 31) C dX5_lay_29 rfl 0 rfl ?_
    obtain ⟨rfl, rfl⟩ := Prod.mk.inj (Option.some.inj h)
    exact J_iret C dX5_lay_31
  | some g1 =>
    have h := oc_some h
    have ho1 := X5_pick_isI isRA_71 ec1
    refine J_st (st' := [.ref (ad g1)]) rfl ?_
    refine J_astore (q := 10) C dX5_lay_8 rfl (by decide) rfl ?_
    refine J_aload_n (q := 11) C dX5_lay_10 rfl rfl 1 rfl ?_
    refine J_aload (q := 13) C dX5_lay_11 rfl 0 rfl ?_
    refine J_iload_n (q := 14) C dX5_lay_13 rfl rfl 3 rfl ?_
    obtain ⟨r3, σ3, ec3, h⟩ := bnd2_of h
    refine J_callIV (q := 17) (As := [.ref (ad g1), .int i2]) C (c_X5_refusedAt hap (someI ho1) ec3) ok_X5_refusedAt kM_X5_103 (by decide) rfl rfl rfl rfl rfl rfl ⟨Nat.le_of_ble_eq_true rfl, Nat.le_of_ble_eq_true rfl⟩ (Nat.le_of_ble_eq_true rfl) dX5_lay_14 rfl ?_
    refine J_istore (q := 19) C dX5_lay_17 rfl (by decide) rfl ?_
    refine J_aload (q := 21) C dX5_lay_19 rfl 1 rfl ?_
    refine J_ifnull (q := 24) C dX5_lay_21 rfl ?_
    refine J_iload (q := 26) C dX5_lay_24 rfl 0 rfl ?_
    refine J_if_eq (tgt := 32) (q := 29) C dX5_lay_26 rfl (by decide) h (fun _ h => ?_) (fun _ h => ?_)
    · refine J_aload_n (q := 33) C dX5_lay_32 rfl rfl 2 rfl ?_
      refine J_aload (q := 35) C dX5_lay_33 rfl 1 rfl ?_
      refine J_iload_n (q := 36) C dX5_lay_35 rfl rfl 4 rfl ?_
      obtain ⟨r4, ec4, h⟩ := bnd_of h
      refine J_callIV (q := 39) (As := [.int i2]) C (c_X0_get hap ho1 ec4) ok_X0_get kM_X5_68 (lt74I ho1) (celC_I ho1) rfl rfl rfl rfl rfl ⟨Nat.le_of_ble_eq_true rfl, Nat.le_of_ble_eq_true rfl⟩ (Nat.le_of_ble_eq_true rfl) dX5_lay_36 rfl ?_
      refine JC_p_X5_asked (q := 42) C kF_X5_107 dX5_lay_39 rfl ?_
      refine jn_elim h (fun σ5 eσ5 h => ?_)
      rw [← eσ5]
      refine J_aload (q := 44) C dX5_lay_42 rfl 1 rfl ?_
      refine J_iload_n (q := 45) C dX5_lay_44 rfl rfl 4 rfl ?_
      refine J_iload_n (q := 46) C dX5_lay_45 rfl rfl 5 rfl ?_
      obtain ⟨σ6, ec6, h⟩ := bnd_of h
      refine J_callXV (q := 49) (As := [.int i2, .int i3]) C (c_X0_set hap ho1 ec6) ok_X0_set kM_X5_72 (lt74I ho1) (celC_I ho1) rfl rfl rfl rfl rfl ⟨Nat.le_of_ble_eq_true rfl, Nat.le_of_ble_eq_true rfl⟩ (Nat.le_of_ble_eq_true rfl) dX5_lay_46 rfl ?_
      refine J_iconst (v := 1 ) (q := 50) C dX5_lay_49 rfl rfl ?_
      obtain ⟨rfl, rfl⟩ := Prod.mk.inj (Option.some.inj h)
      exact J_iret C dX5_lay_50
    · refine J_iload (q := 31) C dX5_lay_29 rfl 0 rfl ?_
      obtain ⟨rfl, rfl⟩ := Prod.mk.inj (Option.some.inj h)
      exact J_iret C dX5_lay_31
set_option maxHeartbeats 4000000 in
set_option maxRecDepth 100000 in
theorem c_X5_at {l : Launch} {D : va_G} {cI cR : ClassId} {ad : Nat → Nat} (hap : apN 74 ad) {i1 : Int32} {i2 : Int32} {σ : Sg} {r : Int32} {σo : Sg}  (h : f_X5_at i1 i2 σ = some (r, σo)) : MI l D (tysC cI cR) 74 ad (celC cI cR ad) okC yX5_at cX5_at 5 .int 5 117 [.ref (ad 0), .int i1, .int i2] σ r σo := by
  unfold f_X5_at at h
  refine entI "WokenYears" hap (by decide +kernel) rfl (Nat.le_of_ble_eq_true rfl) (fun p e s m args below meth c C => ?_)
  refine J_sub (lv' := [(0, .ref (ad 0)), (1, .int i1), (2, .int i2)]) [0, 1, 2] rfl ?_
  refine J_aload_n (q := 1) C dX5_at_0 rfl rfl 0 rfl ?_
  refine JC_g_X5_rows (q := 4) C kF_X5_13 dX5_at_1 rfl ?_
  refine J_iload_n (q := 5) C dX5_at_4 rfl rfl 1 rfl ?_
  obtain ⟨r1, ec1, h⟩ := bnd_of h
  refine J_callRS (q := 8) (As := [.ref (ad 71), .int i1]) C (c_X5_pick hap isRA_71 ec1) ok_X5_pick kM_X5_99 rfl rfl rfl ⟨Nat.le_of_ble_eq_true rfl, Nat.le_of_ble_eq_true rfl⟩ (Nat.le_of_ble_eq_true rfl) dX5_at_5 rfl ?_
  cases r1 with
  | none =>
    have h := oc_none h
    refine J_st (st' := [.null]) rfl ?_
    refine J_astore_nN (q := 9) C dX5_at_8 rfl rfl (by decide) rfl ?_
    refine J_aload_n (q := 10) C dX5_at_9 rfl rfl 1 rfl ?_
    refine J_aload_nN (q := 11) C dX5_at_10 rfl rfl 0 rfl ?_
    refine J_iload_n (q := 12) C dX5_at_11 rfl rfl 3 rfl ?_
    obtain ⟨r2, σ2, ec2, h⟩ := bnd2_of h
    refine J_callIV (q := 15) (As := [.null, .int i2]) C (c_X5_refusedAt hap noneI ec2) ok_X5_refusedAt kM_X5_103 (by decide) rfl rfl rfl rfl rfl rfl ⟨Nat.le_of_ble_eq_true rfl, Nat.le_of_ble_eq_true rfl⟩ (Nat.le_of_ble_eq_true rfl) dX5_at_12 rfl ?_
    refine J_istore (q := 17) C dX5_at_15 rfl (by decide) rfl ?_
    refine J_aload_nN (q := 18) C dX5_at_17 rfl rfl 1 rfl ?_
    refine J_ifnullN (tgt := 26) C dX5_at_18 (by decide) ?_
    refine J_iload (q := 28) C dX5_at_26 rfl 0 rfl ?_
    obtain ⟨rfl, rfl⟩ := Prod.mk.inj (Option.some.inj h)
    exact J_iret C dX5_at_28
  | some g1 =>
    have h := oc_some h
    have ho1 := X5_pick_isI isRA_71 ec1
    refine J_st (st' := [.ref (ad g1)]) rfl ?_
    refine J_astore_n (q := 9) C dX5_at_8 rfl rfl (by decide) rfl ?_
    refine J_aload_n (q := 10) C dX5_at_9 rfl rfl 1 rfl ?_
    refine J_aload_n (q := 11) C dX5_at_10 rfl rfl 0 rfl ?_
    refine J_iload_n (q := 12) C dX5_at_11 rfl rfl 3 rfl ?_
    obtain ⟨r3, σ3, ec3, h⟩ := bnd2_of h
    refine J_callIV (q := 15) (As := [.ref (ad g1), .int i2]) C (c_X5_refusedAt hap (someI ho1) ec3) ok_X5_refusedAt kM_X5_103 (by decide) rfl rfl rfl rfl rfl rfl ⟨Nat.le_of_ble_eq_true rfl, Nat.le_of_ble_eq_true rfl⟩ (Nat.le_of_ble_eq_true rfl) dX5_at_12 rfl ?_
    refine J_istore (q := 17) C dX5_at_15 rfl (by decide) rfl ?_
    refine J_aload_n (q := 18) C dX5_at_17 rfl rfl 1 rfl ?_
    refine J_ifnull (q := 21) C dX5_at_18 rfl ?_
    refine J_iload (q := 23) C dX5_at_21 rfl 0 rfl ?_
    refine J_if_eq (tgt := 29) (q := 26) C dX5_at_23 rfl (by decide) h (fun _ h => ?_) (fun _ h => ?_)
    · refine J_aload_n (q := 30) C dX5_at_29 rfl rfl 2 rfl ?_
      refine J_aload_n (q := 31) C dX5_at_30 rfl rfl 1 rfl ?_
      refine J_iload_n (q := 32) C dX5_at_31 rfl rfl 4 rfl ?_
      obtain ⟨r4, ec4, h⟩ := bnd_of h
      refine J_callIV (q := 35) (As := [.int i2]) C (c_X0_get hap ho1 ec4) ok_X0_get kM_X5_68 (lt74I ho1) (celC_I ho1) rfl rfl rfl rfl rfl ⟨Nat.le_of_ble_eq_true rfl, Nat.le_of_ble_eq_true rfl⟩ (Nat.le_of_ble_eq_true rfl) dX5_at_32 rfl ?_
      refine JC_p_X5_asked (q := 38) C kF_X5_107 dX5_at_35 rfl ?_
      refine jn_elim h (fun σ5 eσ5 h => ?_)
      rw [← eσ5]
      refine J_iconst (v := 1 ) (q := 39) C dX5_at_38 rfl rfl ?_
      obtain ⟨rfl, rfl⟩ := Prod.mk.inj (Option.some.inj h)
      exact J_iret C dX5_at_39
    · refine J_iload (q := 28) C dX5_at_26 rfl 0 rfl ?_
      obtain ⟨rfl, rfl⟩ := Prod.mk.inj (Option.some.inj h)
      exact J_iret C dX5_at_28
set_option maxHeartbeats 4000000 in
set_option maxRecDepth 100000 in
theorem c_X5_tear {l : Launch} {D : va_G} {cI cR : ClassId} {ad : Nat → Nat} (hap : apN 74 ad) {i1 : Int32} {σ : Sg} {r : Int32} {σo : Sg}  (h : f_X5_tear i1 σ = some (r, σo)) : MI l D (tysC cI cR) 74 ad (celC cI cR ad) okC yX5_tear cX5_tear 4 .int 4 94 [.ref (ad 0), .int i1] σ r σo := by
  unfold f_X5_tear at h
  refine entI "WokenYears" hap (by decide +kernel) rfl (Nat.le_of_ble_eq_true rfl) (fun p e s m args below meth c C => ?_)
  refine J_sub (lv' := [(0, .ref (ad 0)), (1, .int i1)]) [0, 1] rfl ?_
  refine J_aload_n (q := 1) C dX5_tear_0 rfl rfl 0 rfl ?_
  refine JC_g_X5_rows (q := 4) C kF_X5_13 dX5_tear_1 rfl ?_
  refine J_iload_n (q := 5) C dX5_tear_4 rfl rfl 1 rfl ?_
  obtain ⟨r1, ec1, h⟩ := bnd_of h
  refine J_callRS (q := 8) (As := [.ref (ad 71), .int i1]) C (c_X5_pick hap isRA_71 ec1) ok_X5_pick kM_X5_99 rfl rfl rfl ⟨Nat.le_of_ble_eq_true rfl, Nat.le_of_ble_eq_true rfl⟩ (Nat.le_of_ble_eq_true rfl) dX5_tear_5 rfl ?_
  cases r1 with
  | none =>
    have h := oc_none h
    refine J_st (st' := [.null]) rfl ?_
    refine J_astore_nN (q := 9) C dX5_tear_8 rfl rfl (by decide) rfl ?_
    refine J_aload_n (q := 10) C dX5_tear_9 rfl rfl 1 rfl ?_
    refine J_aload_nN (q := 11) C dX5_tear_10 rfl rfl 0 rfl ?_
    obtain ⟨r2, σ2, ec2, h⟩ := bnd2_of h
    refine J_callIV (q := 14) (As := [.null]) C (c_X5_refused hap noneI ec2) ok_X5_refused kM_X5_91 (by decide) rfl rfl rfl rfl rfl rfl ⟨Nat.le_of_ble_eq_true rfl, Nat.le_of_ble_eq_true rfl⟩ (Nat.le_of_ble_eq_true rfl) dX5_tear_11 rfl ?_
    refine J_istore_n (q := 15) C dX5_tear_14 rfl rfl (by decide) rfl ?_
    refine J_aload_nN (q := 16) C dX5_tear_15 rfl rfl 1 rfl ?_
    refine J_ifnullN (tgt := 23) C dX5_tear_16 (by decide) ?_
    refine J_iload_n (q := 24) C dX5_tear_23 rfl rfl 0 rfl ?_
    obtain ⟨rfl, rfl⟩ := Prod.mk.inj (Option.some.inj h)
    exact J_iret C dX5_tear_24
  | some g1 =>
    have h := oc_some h
    have ho1 := X5_pick_isI isRA_71 ec1
    refine J_st (st' := [.ref (ad g1)]) rfl ?_
    refine J_astore_n (q := 9) C dX5_tear_8 rfl rfl (by decide) rfl ?_
    refine J_aload_n (q := 10) C dX5_tear_9 rfl rfl 1 rfl ?_
    refine J_aload_n (q := 11) C dX5_tear_10 rfl rfl 0 rfl ?_
    obtain ⟨r3, σ3, ec3, h⟩ := bnd2_of h
    refine J_callIV (q := 14) (As := [.ref (ad g1)]) C (c_X5_refused hap (someI ho1) ec3) ok_X5_refused kM_X5_91 (by decide) rfl rfl rfl rfl rfl rfl ⟨Nat.le_of_ble_eq_true rfl, Nat.le_of_ble_eq_true rfl⟩ (Nat.le_of_ble_eq_true rfl) dX5_tear_11 rfl ?_
    refine J_istore_n (q := 15) C dX5_tear_14 rfl rfl (by decide) rfl ?_
    refine J_aload_n (q := 16) C dX5_tear_15 rfl rfl 1 rfl ?_
    refine J_ifnull (q := 19) C dX5_tear_16 rfl ?_
    refine J_iload_n (q := 20) C dX5_tear_19 rfl rfl 0 rfl ?_
    refine J_if_eq (tgt := 25) (q := 23) C dX5_tear_20 rfl (by decide) h (fun _ h => ?_) (fun _ h => ?_)
    · refine J_aload_n (q := 26) C dX5_tear_25 rfl rfl 1 rfl ?_
      obtain ⟨σ4, ec4, h⟩ := bnd_of h
      refine J_callXV (q := 29) (As := []) C (c_X0_drop hap ho1 ec4) ok_X0_drop kM_X5_110 (lt74I ho1) (celC_I ho1) rfl rfl rfl rfl rfl ⟨Nat.le_of_ble_eq_true rfl, Nat.le_of_ble_eq_true rfl⟩ (Nat.le_of_ble_eq_true rfl) dX5_tear_26 rfl ?_
      refine J_iconst (v := 1 ) (q := 30) C dX5_tear_29 rfl rfl ?_
      obtain ⟨rfl, rfl⟩ := Prod.mk.inj (Option.some.inj h)
      exact J_iret C dX5_tear_30
    · refine J_iload_n (q := 24) C dX5_tear_23 rfl rfl 0 rfl ?_
      obtain ⟨rfl, rfl⟩ := Prod.mk.inj (Option.some.inj h)
      exact J_iret C dX5_tear_24
set_option maxHeartbeats 4000000 in
set_option maxRecDepth 100000 in
theorem c_X5_copy {l : Launch} {D : va_G} {cI cR : ClassId} {ad : Nat → Nat} (hap : apN 74 ad) {i1 : Int32} {i2 : Int32} {i3 : Int32} {i4 : Int32} {i5 : Int32} {σ : Sg} {r : Int32} {σo : Sg}  (h : f_X5_copy i1 i2 i3 i4 i5 σ = some (r, σo)) : MI l D (tysC cI cR) 74 ad (celC cI cR ad) okC yX5_copy cX5_copy 8 .int 3 84 [.ref (ad 0), .int i1, .int i2, .int i3, .int i4, .int i5] σ r σo := by
  unfold f_X5_copy at h
  refine entI "WokenYears" hap (by decide +kernel) rfl (Nat.le_of_ble_eq_true rfl) (fun p e s m args below meth c C => ?_)
  refine J_sub (lv' := [(0, .ref (ad 0)), (1, .int i1), (2, .int i2), (3, .int i3), (4, .int i4), (5, .int i5)]) [0, 1, 2, 3, 4, 5] rfl ?_
  refine J_aload_n (q := 1) C dX5_copy_0 rfl rfl 0 rfl ?_
  refine JC_g_X5_rows (q := 4) C kF_X5_13 dX5_copy_1 rfl ?_
  refine J_iload_n (q := 5) C dX5_copy_4 rfl rfl 1 rfl ?_
  obtain ⟨r1, ec1, h⟩ := bnd_of h
  refine J_callRS (q := 8) (As := [.ref (ad 71), .int i1]) C (c_X5_pick hap isRA_71 ec1) ok_X5_pick kM_X5_99 rfl rfl rfl ⟨Nat.le_of_ble_eq_true rfl, Nat.le_of_ble_eq_true rfl⟩ (Nat.le_of_ble_eq_true rfl) dX5_copy_5 rfl ?_
  cases r1 with
  | none =>
    have h := oc_none h
    refine J_st (st' := [.null]) rfl ?_
    refine J_astoreN (q := 10) C dX5_copy_8 rfl (by decide) rfl ?_
    refine J_aload_n (q := 11) C dX5_copy_10 rfl rfl 1 rfl ?_
    refine JC_g_X5_rows (q := 14) C kF_X5_13 dX5_copy_11 rfl ?_
    refine J_iload_n (q := 15) C dX5_copy_14 rfl rfl 4 rfl ?_
    obtain ⟨r2, ec2, h⟩ := bnd_of h
    refine J_callRS (q := 18) (As := [.ref (ad 71), .int i3]) C (c_X5_pick hap isRA_71 ec2) ok_X5_pick kM_X5_99 rfl rfl rfl ⟨Nat.le_of_ble_eq_true rfl, Nat.le_of_ble_eq_true rfl⟩ (Nat.le_of_ble_eq_true rfl) dX5_copy_15 rfl ?_
    cases r2 with
    | none =>
      have h := oc_none h
      refine J_st (st' := [.null]) rfl ?_
      refine J_astoreN (q := 20) C dX5_copy_18 rfl (by decide) rfl ?_
      refine J_aloadN (q := 22) C dX5_copy_20 rfl 1 rfl ?_
      refine J_ifnullN (tgt := 30) C dX5_copy_22 (by decide) ?_
      refine J_iconst (v := -1 ) (q := 31) C dX5_copy_30 rfl rfl ?_
      obtain ⟨rfl, rfl⟩ := Prod.mk.inj (Option.some.inj h)
      exact J_iret C dX5_copy_31
    | some g2 =>
      have h := oc_some h
      have ho2 := X5_pick_isI isRA_71 ec2
      refine J_st (st' := [.ref (ad g2)]) rfl ?_
      refine J_astore (q := 20) C dX5_copy_18 rfl (by decide) rfl ?_
      refine J_aloadN (q := 22) C dX5_copy_20 rfl 1 rfl ?_
      refine J_ifnullN (tgt := 30) C dX5_copy_22 (by decide) ?_
      refine J_iconst (v := -1 ) (q := 31) C dX5_copy_30 rfl rfl ?_
      obtain ⟨rfl, rfl⟩ := Prod.mk.inj (Option.some.inj h)
      exact J_iret C dX5_copy_31
  | some g1 =>
    have h := oc_some h
    have ho1 := X5_pick_isI isRA_71 ec1
    refine J_st (st' := [.ref (ad g1)]) rfl ?_
    refine J_astore (q := 10) C dX5_copy_8 rfl (by decide) rfl ?_
    refine J_aload_n (q := 11) C dX5_copy_10 rfl rfl 1 rfl ?_
    refine JC_g_X5_rows (q := 14) C kF_X5_13 dX5_copy_11 rfl ?_
    refine J_iload_n (q := 15) C dX5_copy_14 rfl rfl 4 rfl ?_
    obtain ⟨r3, ec3, h⟩ := bnd_of h
    refine J_callRS (q := 18) (As := [.ref (ad 71), .int i3]) C (c_X5_pick hap isRA_71 ec3) ok_X5_pick kM_X5_99 rfl rfl rfl ⟨Nat.le_of_ble_eq_true rfl, Nat.le_of_ble_eq_true rfl⟩ (Nat.le_of_ble_eq_true rfl) dX5_copy_15 rfl ?_
    cases r3 with
    | none =>
      have h := oc_none h
      refine J_st (st' := [.null]) rfl ?_
      refine J_astoreN (q := 20) C dX5_copy_18 rfl (by decide) rfl ?_
      refine J_aload (q := 22) C dX5_copy_20 rfl 1 rfl ?_
      refine J_ifnull (q := 25) C dX5_copy_22 rfl ?_
      refine J_aloadN (q := 27) C dX5_copy_25 rfl 0 rfl ?_
      refine J_ifnonnullN (q := 30) C dX5_copy_27 rfl ?_
      refine J_iconst (v := -1 ) (q := 31) C dX5_copy_30 rfl rfl ?_
      obtain ⟨rfl, rfl⟩ := Prod.mk.inj (Option.some.inj h)
      exact J_iret C dX5_copy_31
    | some g3 =>
      have h := oc_some h
      have ho3 := X5_pick_isI isRA_71 ec3
      refine J_st (st' := [.ref (ad g3)]) rfl ?_
      refine J_astore (q := 20) C dX5_copy_18 rfl (by decide) rfl ?_
      refine J_aload (q := 22) C dX5_copy_20 rfl 1 rfl ?_
      refine J_ifnull (q := 25) C dX5_copy_22 rfl ?_
      refine J_aload (q := 27) C dX5_copy_25 rfl 0 rfl ?_
      refine J_ifnonnull (tgt := 32) C dX5_copy_27 (by decide) ?_
      refine J_iload (q := 34) C dX5_copy_32 rfl 7 rfl ?_
      refine J_if_ge (tgt := 43) (q := 37) C dX5_copy_34 rfl (by decide) h (fun _ h => ?_) (fun _ h => ?_)
      · refine J_aload (q := 45) C dX5_copy_43 rfl 1 rfl ?_
        refine JC_g_X0_size (q := 48) C ho1 kF_X5_85 dX5_copy_45 rfl ?_
        refine jn_elim h (fun k59 ek59 h => ?_)
        have hk59 : k59 = some (r, σo) → Jd p l e (rmF 3 84) s m args below meth c D 74 ad (celC cI cR ad) okC 8 (MQ below (QI D (tysC cI cR) 74 ad (celC cI cR ad) okC r σo) args s 0 0 (inA 74 ad)) 59 [(0, .ref (ad 0))] [] σ := by
          intro  h
          rw [ek59] at h
          refine J_aload_n (q := 60) C dX5_copy_59 rfl rfl 0 rfl ?_
          refine J_iconst (v := 1 ) (q := 61) C dX5_copy_60 rfl rfl ?_
          obtain ⟨r4, σ4, ec4, h⟩ := bnd2_of h
          refine J_callIV (q := 64) (As := [.int (1 : Int32)]) C (c_X5_found hap  ec4) ok_X5_found kM_X5_88 (by decide) rfl rfl rfl rfl rfl rfl ⟨Nat.le_of_ble_eq_true rfl, Nat.le_of_ble_eq_true rfl⟩ (Nat.le_of_ble_eq_true rfl) dX5_copy_61 rfl ?_
          obtain ⟨rfl, rfl⟩ := Prod.mk.inj (Option.some.inj h)
          exact J_iret C dX5_copy_64
        refine J_if_lt (tgt := 59) (q := 51) C dX5_copy_48 rfl (by decide) h (fun _ h => ?_) (fun _ h => ?_)
        · refine J_sub [2] rfl ?_
          exact hk59 h
        · refine J_aload (q := 53) C dX5_copy_51 rfl 0 rfl ?_
          refine JC_g_X0_size (q := 56) C ho3 kF_X5_85 dX5_copy_53 rfl ?_
          refine J_if_ge (tgt := 65) (q := 59) C dX5_copy_56 rfl (by decide) h (fun _ h => ?_) (fun _ h => ?_)
          · refine J_aload (q := 67) C dX5_copy_65 rfl 1 rfl ?_
            refine J_iload_n (q := 68) C dX5_copy_67 rfl rfl 4 rfl ?_
            refine J_iload (q := 70) C dX5_copy_68 rfl 7 rfl ?_
            obtain ⟨r5, ec5, h⟩ := bnd_of h
            refine J_callIV (q := 73) (As := [.int i2, .int i5]) C (c_X0_spans hap ho1 ec5) ok_X0_spans kM_X5_113 (lt74I ho1) (celC_I ho1) rfl rfl rfl rfl rfl ⟨Nat.le_of_ble_eq_true rfl, Nat.le_of_ble_eq_true rfl⟩ (Nat.le_of_ble_eq_true rfl) dX5_copy_70 rfl ?_
            refine jn_elim h (fun k88 ek88 h => ?_)
            have hk88 : k88 = some (r, σo) → Jd p l e (rmF 3 84) s m args below meth c D 74 ad (celC cI cR ad) okC 8 (MQ below (QI D (tysC cI cR) 74 ad (celC cI cR ad) okC r σo) args s 0 0 (inA 74 ad)) 88 [(0, .ref (ad 0))] [] σ := by
              intro  h
              rw [ek88] at h
              refine J_aload_n (q := 89) C dX5_copy_88 rfl rfl 0 rfl ?_
              refine J_iconst (v := 2 ) (q := 90) C dX5_copy_89 rfl rfl ?_
              obtain ⟨r6, σ6, ec6, h⟩ := bnd2_of h
              refine J_callIV (q := 93) (As := [.int (2 : Int32)]) C (c_X5_found hap  ec6) ok_X5_found kM_X5_88 (by decide) rfl rfl rfl rfl rfl rfl ⟨Nat.le_of_ble_eq_true rfl, Nat.le_of_ble_eq_true rfl⟩ (Nat.le_of_ble_eq_true rfl) dX5_copy_90 rfl ?_
              obtain ⟨rfl, rfl⟩ := Prod.mk.inj (Option.some.inj h)
              exact J_iret C dX5_copy_93
            refine J_ifeq_b (tgt := 88) (q := 76) C dX5_copy_73 rfl (by decide) h (fun _ h => ?_) (fun _ h => ?_)
            · refine J_aload (q := 78) C dX5_copy_76 rfl 0 rfl ?_
              refine J_iload (q := 80) C dX5_copy_78 rfl 6 rfl ?_
              refine J_iload (q := 82) C dX5_copy_80 rfl 7 rfl ?_
              obtain ⟨r7, ec7, h⟩ := bnd_of h
              refine J_callIV (q := 85) (As := [.int i4, .int i5]) C (c_X0_spans hap ho3 ec7) ok_X0_spans kM_X5_113 (lt74I ho3) (celC_I ho3) rfl rfl rfl rfl rfl ⟨Nat.le_of_ble_eq_true rfl, Nat.le_of_ble_eq_true rfl⟩ (Nat.le_of_ble_eq_true rfl) dX5_copy_82 rfl ?_
              refine J_ifne_b (tgt := 94) (q := 88) C dX5_copy_85 rfl (by decide) h (fun _ h => ?_) (fun _ h => ?_)
              · refine J_aload (q := 96) C dX5_copy_94 rfl 1 rfl ?_
                refine J_iload_n (q := 97) C dX5_copy_96 rfl rfl 4 rfl ?_
                refine J_aload (q := 99) C dX5_copy_97 rfl 0 rfl ?_
                refine J_iload (q := 101) C dX5_copy_99 rfl 6 rfl ?_
                refine J_iload (q := 103) C dX5_copy_101 rfl 7 rfl ?_
                obtain ⟨σ8, ec8, h⟩ := bnd_of h
                refine J_callXV (q := 106) (As := [.int i2, .ref (ad g3), .int i4, .int i5]) C (c_X0_copyOut hap ho1 ho3 ec8) ok_X0_copyOut kM_X5_117 (lt74I ho1) (celC_I ho1) rfl rfl rfl rfl rfl ⟨Nat.le_of_ble_eq_true rfl, Nat.le_of_ble_eq_true rfl⟩ (Nat.le_of_ble_eq_true rfl) dX5_copy_103 rfl ?_
                refine J_iconst (v := 1 ) (q := 107) C dX5_copy_106 rfl rfl ?_
                obtain ⟨rfl, rfl⟩ := Prod.mk.inj (Option.some.inj h)
                exact J_iret C dX5_copy_107
              · refine J_sub [2] rfl ?_
                exact hk88 h
            · refine J_sub [2] rfl ?_
              exact hk88 h
          · refine J_sub [2] rfl ?_
            exact hk59 h
      · refine J_aload_n (q := 38) C dX5_copy_37 rfl rfl 2 rfl ?_
        refine J_iconst (v := 5 ) (q := 39) C dX5_copy_38 rfl rfl ?_
        obtain ⟨r9, σ9, ec9, h⟩ := bnd2_of h
        refine J_callIV (q := 42) (As := [.int (5 : Int32)]) C (c_X5_found hap  ec9) ok_X5_found kM_X5_88 (by decide) rfl rfl rfl rfl rfl rfl ⟨Nat.le_of_ble_eq_true rfl, Nat.le_of_ble_eq_true rfl⟩ (Nat.le_of_ble_eq_true rfl) dX5_copy_39 rfl ?_
        obtain ⟨rfl, rfl⟩ := Prod.mk.inj (Option.some.inj h)
        exact J_iret C dX5_copy_42
set_option maxHeartbeats 4000000 in
set_option maxRecDepth 100000 in
theorem cl_X5_mean_44 {p : Program} {l : Launch} {e : Env} {s : State} {m : MethodId} {args : Array Value} {below : List Frame} {meth : Method} {c : Code} {D : va_G} {cI cR : ClassId} {ad : Nat → Nat} (hap : apN 74 ad) (C : Cx p s m args meth c cX5_mean 7 "WokenYears" D (tysC cI cR) 74 ad (some .int)) {b2 : Nat} (hb2 : isI b2) {k71 : Int64 → Option (Int32 × Sg)} {σ : Sg} (r : Int32) (σo : Sg)  (hk71 : ∀ (u4 : Int64), k71 u4 = some (r, σo) → Jd p l e (rmF 4 94) s m args below meth c D 74 ad (celC cI cR ad) okC 7 (MQ below (QI D (tysC cI cR) 74 ad (celC cI cR ad) okC r σo) args s 0 0 (inA 74 ad)) 71 [(0, .ref (ad 0)), (2, .ref (ad b2)), (4, .long u4)] [] σ) : ∀ (n : Nat) (x4 : Int64) (x6 : Int32), l_X5_mean_44 b2 σ k71 n x4 x6 = some (r, σo) → Jd p l e (rmF 4 94) s m args below meth c D 74 ad (celC cI cR ad) okC 7 (MQ below (QI D (tysC cI cR) 74 ad (celC cI cR ad) okC r σo) args s 0 0 (inA 74 ad)) 44 [(0, .ref (ad 0)), (2, .ref (ad b2)), (4, .long x4), (6, .int x6)] [] σ := by
  intro n
  induction n with
  | zero => intro x4 x6 h; cases h
  | succ n ih =>
    intro x4 x6 h
    unfold l_X5_mean_44 at h
    refine J_iload (q := 46) C dX5_mean_44 rfl 3 rfl ?_
    refine J_aload_n (q := 47) C dX5_mean_46 rfl rfl 1 rfl ?_
    refine JC_g_X0_size (q := 50) C hb2 kF_X5_85 dX5_mean_47 rfl ?_
    refine J_icmp_ge (tgt := 71) (q := 53) C dX5_mean_50 rfl (by decide) h (fun _ h => ?_) (fun _ h => ?_)
    · refine J_sub [0, 1, 2] rfl ?_
      exact hk71 _ h
    · refine J_lload (q := 55) C dX5_mean_53 rfl 2 rfl ?_
      refine J_aload_n (q := 56) C dX5_mean_55 rfl rfl 1 rfl ?_
      refine J_iload (q := 58) C dX5_mean_56 rfl 3 rfl ?_
      obtain ⟨r5, ec5, h⟩ := bnd_of h
      refine J_callIV (q := 61) (As := [.int x6]) C (c_X0_get hap hb2 ec5) ok_X0_get kM_X5_68 (lt74I hb2) (celC_I hb2) rfl rfl rfl rfl rfl ⟨Nat.le_of_ble_eq_true rfl, Nat.le_of_ble_eq_true rfl⟩ (Nat.le_of_ble_eq_true rfl) dX5_mean_58 rfl ?_
      refine J_i2l (q := 62) C dX5_mean_61 rfl ?_
      refine J_ladd (q := 63) C dX5_mean_62 rfl ?_
      refine J_nml h (fun y6 ey6 h => ?_)
      refine J_lstore (q := 65) C dX5_mean_63 rfl (by decide) rfl ?_
      refine jn_elim h (fun y7 ey7 h => ?_)
      refine J_iinc (v := y7) (q := 68) C dX5_mean_65 rfl 3 rfl (by rw [ey7]; rfl) (by decide) rfl ?_
      refine J_goto (tgt := 44) C dX5_mean_68 (by decide) ?_
      refine J_sub [2, 3, 1, 0] rfl ?_
      exact ih _ _ h
set_option maxHeartbeats 4000000 in
set_option maxRecDepth 100000 in
theorem c_X5_mean {l : Launch} {D : va_G} {cI cR : ClassId} {ad : Nat → Nat} (hap : apN 74 ad) {i1 : Int32} {σ : Sg} {r : Int32} {σo : Sg}  (h : f_X5_mean i1 σ = some (r, σo)) : MI l D (tysC cI cR) 74 ad (celC cI cR ad) okC yX5_mean cX5_mean 7 .int 4 94 [.ref (ad 0), .int i1] σ r σo := by
  unfold f_X5_mean at h
  refine entI "WokenYears" hap (by decide +kernel) rfl (Nat.le_of_ble_eq_true rfl) (fun p e s m args below meth c C => ?_)
  refine J_sub (lv' := [(0, .ref (ad 0)), (1, .int i1)]) [0, 1] rfl ?_
  refine J_aload_n (q := 1) C dX5_mean_0 rfl rfl 0 rfl ?_
  refine JC_g_X5_rows (q := 4) C kF_X5_13 dX5_mean_1 rfl ?_
  refine J_iload_n (q := 5) C dX5_mean_4 rfl rfl 1 rfl ?_
  obtain ⟨r1, ec1, h⟩ := bnd_of h
  refine J_callRS (q := 8) (As := [.ref (ad 71), .int i1]) C (c_X5_pick hap isRA_71 ec1) ok_X5_pick kM_X5_99 rfl rfl rfl ⟨Nat.le_of_ble_eq_true rfl, Nat.le_of_ble_eq_true rfl⟩ (Nat.le_of_ble_eq_true rfl) dX5_mean_5 rfl ?_
  cases r1 with
  | none =>
    have h := oc_none h
    refine J_st (st' := [.null]) rfl ?_
    refine J_astore_nN (q := 9) C dX5_mean_8 rfl rfl (by decide) rfl ?_
    refine J_aload_n (q := 10) C dX5_mean_9 rfl rfl 1 rfl ?_
    refine J_aload_nN (q := 11) C dX5_mean_10 rfl rfl 0 rfl ?_
    obtain ⟨r2, σ2, ec2, h⟩ := bnd2_of h
    refine J_callIV (q := 14) (As := [.null]) C (c_X5_refused hap noneI ec2) ok_X5_refused kM_X5_91 (by decide) rfl rfl rfl rfl rfl rfl ⟨Nat.le_of_ble_eq_true rfl, Nat.le_of_ble_eq_true rfl⟩ (Nat.le_of_ble_eq_true rfl) dX5_mean_11 rfl ?_
    refine J_istore_n (q := 15) C dX5_mean_14 rfl rfl (by decide) rfl ?_
    refine J_aload_nN (q := 16) C dX5_mean_15 rfl rfl 1 rfl ?_
    refine J_ifnullN (tgt := 23) C dX5_mean_16 (by decide) ?_
    refine J_iload_n (q := 24) C dX5_mean_23 rfl rfl 0 rfl ?_
    obtain ⟨rfl, rfl⟩ := Prod.mk.inj (Option.some.inj h)
    exact J_iret C dX5_mean_24
  | some g1 =>
    have h := oc_some h
    have ho1 := X5_pick_isI isRA_71 ec1
    refine J_st (st' := [.ref (ad g1)]) rfl ?_
    refine J_astore_n (q := 9) C dX5_mean_8 rfl rfl (by decide) rfl ?_
    refine J_aload_n (q := 10) C dX5_mean_9 rfl rfl 1 rfl ?_
    refine J_aload_n (q := 11) C dX5_mean_10 rfl rfl 0 rfl ?_
    obtain ⟨r3, σ3, ec3, h⟩ := bnd2_of h
    refine J_callIV (q := 14) (As := [.ref (ad g1)]) C (c_X5_refused hap (someI ho1) ec3) ok_X5_refused kM_X5_91 (by decide) rfl rfl rfl rfl rfl rfl ⟨Nat.le_of_ble_eq_true rfl, Nat.le_of_ble_eq_true rfl⟩ (Nat.le_of_ble_eq_true rfl) dX5_mean_11 rfl ?_
    refine J_istore_n (q := 15) C dX5_mean_14 rfl rfl (by decide) rfl ?_
    refine J_aload_n (q := 16) C dX5_mean_15 rfl rfl 1 rfl ?_
    refine J_ifnull (q := 19) C dX5_mean_16 rfl ?_
    refine J_iload_n (q := 20) C dX5_mean_19 rfl rfl 0 rfl ?_
    refine J_if_eq (tgt := 25) (q := 23) C dX5_mean_20 rfl (by decide) h (fun _ h => ?_) (fun _ h => ?_)
    · refine J_aload_n (q := 26) C dX5_mean_25 rfl rfl 1 rfl ?_
      refine JC_g_X0_size (q := 29) C ho1 kF_X5_85 dX5_mean_26 rfl ?_
      refine J_if_ne (tgt := 38) (q := 32) C dX5_mean_29 rfl (by decide) h (fun _ h => ?_) (fun _ h => ?_)
      · refine J_aload_n (q := 33) C dX5_mean_32 rfl rfl 2 rfl ?_
        refine J_iconst (v := 4 ) (q := 34) C dX5_mean_33 rfl rfl ?_
        obtain ⟨r4, σ4, ec4, h⟩ := bnd2_of h
        refine J_callIV (q := 37) (As := [.int (4 : Int32)]) C (c_X5_found hap  ec4) ok_X5_found kM_X5_88 (by decide) rfl rfl rfl rfl rfl rfl ⟨Nat.le_of_ble_eq_true rfl, Nat.le_of_ble_eq_true rfl⟩ (Nat.le_of_ble_eq_true rfl) dX5_mean_34 rfl ?_
        obtain ⟨rfl, rfl⟩ := Prod.mk.inj (Option.some.inj h)
        exact J_iret C dX5_mean_37
      · refine J_lconst (v := 0) (q := 39) C dX5_mean_38 rfl rfl ?_
        refine J_lstore (q := 41) C dX5_mean_39 rfl (by decide) rfl ?_
        refine J_iconst (v := 0 ) (q := 42) C dX5_mean_41 rfl rfl ?_
        refine J_istore (q := 44) C dX5_mean_42 rfl (by decide) rfl ?_
        refine J_sub [4, 3, 1, 0] rfl ?_
        refine cl_X5_mean_44 hap C ho1 r σo  (fun v4_71 h => ?_) FU _ _ h
        · refine J_aload_n (q := 72) C dX5_mean_71 rfl rfl 0 rfl ?_
          refine J_lload (q := 74) C dX5_mean_72 rfl 2 rfl ?_
          refine J_aload_n (q := 75) C dX5_mean_74 rfl rfl 1 rfl ?_
          refine JC_g_X0_size (q := 78) C ho1 kF_X5_85 dX5_mean_75 rfl ?_
          refine J_i2l (q := 79) C dX5_mean_78 rfl ?_
          obtain ⟨nz, h⟩ := ckn_of h
          refine J_ldiv (q := 80) C dX5_mean_79 rfl nz ?_
          refine J_l2i (q := 81) C dX5_mean_80 rfl ?_
          refine JC_p_X5_asked (q := 84) C kF_X5_107 dX5_mean_81 rfl ?_
          refine jn_elim h (fun σ8 eσ8 h => ?_)
          rw [← eσ8]
          refine J_iconst (v := 1 ) (q := 85) C dX5_mean_84 rfl rfl ?_
          obtain ⟨rfl, rfl⟩ := Prod.mk.inj (Option.some.inj h)
          exact J_iret C dX5_mean_85
    · refine J_iload_n (q := 24) C dX5_mean_23 rfl rfl 0 rfl ?_
      obtain ⟨rfl, rfl⟩ := Prod.mk.inj (Option.some.inj h)
      exact J_iret C dX5_mean_24
set_option maxHeartbeats 4000000 in
set_option maxRecDepth 100000 in
theorem c_X5_text {l : Launch} {D : va_G} {cI cR : ClassId} {ad : Nat → Nat} (hap : apN 74 ad) {i1 : Int32} {i2 : Int32} {σ : Sg} {r : Int32} {σo : Sg}  (h : f_X5_text i1 i2 σ = some (r, σo)) : MI l D (tysC cI cR) 74 ad (celC cI cR ad) okC yX5_text cX5_text 4 .int 3 73 [.ref (ad 0), .int i1, .int i2] σ r σo := by
  unfold f_X5_text at h
  refine entI "WokenYears" hap (by decide +kernel) rfl (Nat.le_of_ble_eq_true rfl) (fun p e s m args below meth c C => ?_)
  refine J_sub (lv' := [(0, .ref (ad 0)), (1, .int i1), (2, .int i2)]) [0, 1, 2] rfl ?_
  refine J_aload_n (q := 1) C dX5_text_0 rfl rfl 0 rfl ?_
  refine JC_g_X5_texts (q := 4) C kF_X5_17 dX5_text_1 rfl ?_
  refine J_iload_n (q := 5) C dX5_text_4 rfl rfl 1 rfl ?_
  obtain ⟨r1, ec1, h⟩ := bnd_of h
  refine J_callRS (q := 8) (As := [.ref (ad 72), .int i1]) C (c_X5_pick hap isRA_72 ec1) ok_X5_pick kM_X5_99 rfl rfl rfl ⟨Nat.le_of_ble_eq_true rfl, Nat.le_of_ble_eq_true rfl⟩ (Nat.le_of_ble_eq_true rfl) dX5_text_5 rfl ?_
  cases r1 with
  | none =>
    have h := oc_none h
    refine J_st (st' := [.null]) rfl ?_
    refine J_astore_nN (q := 9) C dX5_text_8 rfl rfl (by decide) rfl ?_
    refine J_aload_nN (q := 10) C dX5_text_9 rfl rfl 0 rfl ?_
    refine J_ifnullN (tgt := 19) C dX5_text_10 (by decide) ?_
    refine J_iconst (v := -1 ) (q := 20) C dX5_text_19 rfl rfl ?_
    obtain ⟨rfl, rfl⟩ := Prod.mk.inj (Option.some.inj h)
    exact J_iret C dX5_text_20
  | some g1 =>
    have h := oc_some h
    have ho1 := X5_pick_isI isRA_72 ec1
    refine J_st (st' := [.ref (ad g1)]) rfl ?_
    refine J_astore_n (q := 9) C dX5_text_8 rfl rfl (by decide) rfl ?_
    refine J_aload_n (q := 10) C dX5_text_9 rfl rfl 0 rfl ?_
    refine J_ifnull (q := 13) C dX5_text_10 rfl ?_
    refine J_iload_n (q := 14) C dX5_text_13 rfl rfl 3 rfl ?_
    refine J_bipush (v := 60) (q := 16) C dX5_text_14 rfl rfl ?_
    refine J_icmp_le (tgt := 21) (q := 19) C dX5_text_16 rfl (by decide) h (fun _ h => ?_) (fun _ h => ?_)
    · refine J_iload_n (q := 22) C dX5_text_21 rfl rfl 3 rfl ?_
      refine J_if_ge (tgt := 31) (q := 25) C dX5_text_22 rfl (by decide) h (fun _ h => ?_) (fun _ h => ?_)
      · refine J_aload_n (q := 32) C dX5_text_31 rfl rfl 0 rfl ?_
        refine J_iload_n (q := 33) C dX5_text_32 rfl rfl 3 rfl ?_
        refine J_bipush (v := 32) (q := 35) C dX5_text_33 rfl rfl ?_
        obtain ⟨σ2, ec2, h⟩ := bnd_of h
        refine J_callXV (q := 38) (As := [.int i2, .int (32 : Int32)]) C (c_X0_fill hap ho1 ec2) ok_X0_fill kM_X5_60 (lt74I ho1) (celC_I ho1) rfl rfl rfl rfl rfl ⟨Nat.le_of_ble_eq_true rfl, Nat.le_of_ble_eq_true rfl⟩ (Nat.le_of_ble_eq_true rfl) dX5_text_35 rfl ?_
        refine J_iload_n (q := 39) C dX5_text_38 rfl rfl 3 rfl ?_
        obtain ⟨rfl, rfl⟩ := Prod.mk.inj (Option.some.inj h)
        exact J_iret C dX5_text_39
      · refine J_aload_n (q := 26) C dX5_text_25 rfl rfl 1 rfl ?_
        refine J_iconst (v := 5 ) (q := 27) C dX5_text_26 rfl rfl ?_
        obtain ⟨r3, σ3, ec3, h⟩ := bnd2_of h
        refine J_callIV (q := 30) (As := [.int (5 : Int32)]) C (c_X5_found hap  ec3) ok_X5_found kM_X5_88 (by decide) rfl rfl rfl rfl rfl rfl ⟨Nat.le_of_ble_eq_true rfl, Nat.le_of_ble_eq_true rfl⟩ (Nat.le_of_ble_eq_true rfl) dX5_text_27 rfl ?_
        obtain ⟨rfl, rfl⟩ := Prod.mk.inj (Option.some.inj h)
        exact J_iret C dX5_text_30
    · refine J_iconst (v := -1 ) (q := 20) C dX5_text_19 rfl rfl ?_
      obtain ⟨rfl, rfl⟩ := Prod.mk.inj (Option.some.inj h)
      exact J_iret C dX5_text_20
set_option maxHeartbeats 4000000 in
set_option maxRecDepth 100000 in
theorem c_X5_put {l : Launch} {D : va_G} {cI cR : ClassId} {ad : Nat → Nat} (hap : apN 74 ad) {i1 : Int32} {i2 : Int32} {i3 : Int32} {σ : Sg} {r : Int32} {σo : Sg}  (h : f_X5_put i1 i2 i3 σ = some (r, σo)) : MI l D (tysC cI cR) 74 ad (celC cI cR ad) okC yX5_put cX5_put 7 .int 5 117 [.ref (ad 0), .int i1, .int i2, .int i3] σ r σo := by
  unfold f_X5_put at h
  refine entI "WokenYears" hap (by decide +kernel) rfl (Nat.le_of_ble_eq_true rfl) (fun p e s m args below meth c C => ?_)
  refine J_sub (lv' := [(0, .ref (ad 0)), (1, .int i1), (2, .int i2), (3, .int i3)]) [0, 1, 2, 3] rfl ?_
  refine J_aload_n (q := 1) C dX5_put_0 rfl rfl 0 rfl ?_
  refine JC_g_X5_texts (q := 4) C kF_X5_17 dX5_put_1 rfl ?_
  refine J_iload_n (q := 5) C dX5_put_4 rfl rfl 1 rfl ?_
  obtain ⟨r1, ec1, h⟩ := bnd_of h
  refine J_callRS (q := 8) (As := [.ref (ad 72), .int i1]) C (c_X5_pick hap isRA_72 ec1) ok_X5_pick kM_X5_99 rfl rfl rfl ⟨Nat.le_of_ble_eq_true rfl, Nat.le_of_ble_eq_true rfl⟩ (Nat.le_of_ble_eq_true rfl) dX5_put_5 rfl ?_
  cases r1 with
  | none =>
    have h := oc_none h
    refine J_st (st' := [.null]) rfl ?_
    refine J_astoreN (q := 10) C dX5_put_8 rfl (by decide) rfl ?_
    refine J_aload_n (q := 11) C dX5_put_10 rfl rfl 1 rfl ?_
    refine J_aloadN (q := 13) C dX5_put_11 rfl 0 rfl ?_
    refine J_iload_n (q := 14) C dX5_put_13 rfl rfl 3 rfl ?_
    obtain ⟨r2, σ2, ec2, h⟩ := bnd2_of h
    refine J_callIV (q := 17) (As := [.null, .int i2]) C (c_X5_refusedAt hap noneI ec2) ok_X5_refusedAt kM_X5_103 (by decide) rfl rfl rfl rfl rfl rfl ⟨Nat.le_of_ble_eq_true rfl, Nat.le_of_ble_eq_true rfl⟩ (Nat.le_of_ble_eq_true rfl) dX5_put_14 rfl ?_
    refine J_istore (q := 19) C dX5_put_17 rfl (by decide) rfl ?_
    refine J_aloadN (q := 21) C dX5_put_19 rfl 1 rfl ?_
    refine J_ifnullN (tgt := 29) C dX5_put_21 (by decide) ?_
    refine J_iload (q := 31) C dX5_put_29 rfl 0 rfl ?_
    obtain ⟨rfl, rfl⟩ := Prod.mk.inj (Option.some.inj h)
    exact J_iret C dX5_put_31
  | some g1 =>
    have h := oc_some h
    have ho1 := X5_pick_isI isRA_72 ec1
    refine J_st (st' := [.ref (ad g1)]) rfl ?_
    refine J_astore (q := 10) C dX5_put_8 rfl (by decide) rfl ?_
    refine J_aload_n (q := 11) C dX5_put_10 rfl rfl 1 rfl ?_
    refine J_aload (q := 13) C dX5_put_11 rfl 0 rfl ?_
    refine J_iload_n (q := 14) C dX5_put_13 rfl rfl 3 rfl ?_
    obtain ⟨r3, σ3, ec3, h⟩ := bnd2_of h
    refine J_callIV (q := 17) (As := [.ref (ad g1), .int i2]) C (c_X5_refusedAt hap (someI ho1) ec3) ok_X5_refusedAt kM_X5_103 (by decide) rfl rfl rfl rfl rfl rfl ⟨Nat.le_of_ble_eq_true rfl, Nat.le_of_ble_eq_true rfl⟩ (Nat.le_of_ble_eq_true rfl) dX5_put_14 rfl ?_
    refine J_istore (q := 19) C dX5_put_17 rfl (by decide) rfl ?_
    refine J_aload (q := 21) C dX5_put_19 rfl 1 rfl ?_
    refine J_ifnull (q := 24) C dX5_put_21 rfl ?_
    refine J_iload (q := 26) C dX5_put_24 rfl 0 rfl ?_
    refine J_if_eq (tgt := 32) (q := 29) C dX5_put_26 rfl (by decide) h (fun _ h => ?_) (fun _ h => ?_)
    · refine J_aload (q := 34) C dX5_put_32 rfl 1 rfl ?_
      refine J_iload_n (q := 35) C dX5_put_34 rfl rfl 4 rfl ?_
      obtain ⟨r4, ec4, h⟩ := bnd_of h
      refine J_callIV (q := 38) (As := [.int i2]) C (c_X0_get hap ho1 ec4) ok_X0_get kM_X5_68 (lt74I ho1) (celC_I ho1) rfl rfl rfl rfl rfl ⟨Nat.le_of_ble_eq_true rfl, Nat.le_of_ble_eq_true rfl⟩ (Nat.le_of_ble_eq_true rfl) dX5_put_35 rfl ?_
      refine J_istore (q := 40) C dX5_put_38 rfl (by decide) rfl ?_
      refine J_aload (q := 42) C dX5_put_40 rfl 2 rfl ?_
      refine J_iload_n (q := 43) C dX5_put_42 rfl rfl 5 rfl ?_
      refine J_iload_n (q := 44) C dX5_put_43 rfl rfl 6 rfl ?_
      refine J_i2b (q := 45) C dX5_put_44 rfl ?_
      obtain ⟨σ5, ec5, h⟩ := bnd_of h
      refine J_callXV (q := 48) (As := [.int i2, .int (i3.toInt8.toInt32)]) C (c_X0_set hap ho1 ec5) ok_X0_set kM_X5_72 (lt74I ho1) (celC_I ho1) rfl rfl rfl rfl rfl ⟨Nat.le_of_ble_eq_true rfl, Nat.le_of_ble_eq_true rfl⟩ (Nat.le_of_ble_eq_true rfl) dX5_put_45 rfl ?_
      refine J_sipush (v := 1000) (q := 51) C dX5_put_48 rfl rfl ?_
      refine J_iload (q := 53) C dX5_put_51 rfl 0 rfl ?_
      refine J_iadd (q := 54) C dX5_put_53 rfl ?_
      obtain ⟨rfl, rfl⟩ := Prod.mk.inj (Option.some.inj h)
      exact J_iret C dX5_put_54
    · refine J_iload (q := 31) C dX5_put_29 rfl 0 rfl ?_
      obtain ⟨rfl, rfl⟩ := Prod.mk.inj (Option.some.inj h)
      exact J_iret C dX5_put_31
set_option maxHeartbeats 4000000 in
set_option maxRecDepth 100000 in
theorem c_X5_fault {l : Launch} {D : va_G} {cI cR : ClassId} {ad : Nat → Nat} (hap : apN 74 ad) {i1 : Int32} {σ : Sg} {r : Int32} {σo : Sg}  (h : f_X5_fault i1 σ = some (r, σo)) : MI l D (tysC cI cR) 74 ad (celC cI cR ad) okC yX5_fault cX5_fault 4 .int 7 163 [.ref (ad 0), .int i1] σ r σo := by
  unfold f_X5_fault at h
  refine entI "WokenYears" hap (by decide +kernel) rfl (Nat.le_of_ble_eq_true rfl) (fun p e s m args below meth c C => ?_)
  refine J_sub (lv' := [(0, .ref (ad 0)), (1, .int i1)]) [0, 1] rfl ?_
  refine J_aload_n (q := 1) C dX5_fault_0 rfl rfl 0 rfl ?_
  refine JC_g_X5_texts (q := 4) C kF_X5_17 dX5_fault_1 rfl ?_
  refine J_iload_n (q := 5) C dX5_fault_4 rfl rfl 1 rfl ?_
  obtain ⟨r1, ec1, h⟩ := bnd_of h
  refine J_callRS (q := 8) (As := [.ref (ad 72), .int i1]) C (c_X5_pick hap isRA_72 ec1) ok_X5_pick kM_X5_99 rfl rfl rfl ⟨Nat.le_of_ble_eq_true rfl, Nat.le_of_ble_eq_true rfl⟩ (Nat.le_of_ble_eq_true rfl) dX5_fault_5 rfl ?_
  cases r1 with
  | none =>
    have h := oc_none h
    refine J_st (st' := [.null]) rfl ?_
    refine J_astore_nN (q := 9) C dX5_fault_8 rfl rfl (by decide) rfl ?_
    refine J_aload_n (q := 10) C dX5_fault_9 rfl rfl 1 rfl ?_
    refine J_aload_nN (q := 11) C dX5_fault_10 rfl rfl 0 rfl ?_
    obtain ⟨r2, σ2, ec2, h⟩ := bnd2_of h
    refine J_callIV (q := 14) (As := [.null]) C (c_X5_refused hap noneI ec2) ok_X5_refused kM_X5_91 (by decide) rfl rfl rfl rfl rfl rfl ⟨Nat.le_of_ble_eq_true rfl, Nat.le_of_ble_eq_true rfl⟩ (Nat.le_of_ble_eq_true rfl) dX5_fault_11 rfl ?_
    refine J_istore_n (q := 15) C dX5_fault_14 rfl rfl (by decide) rfl ?_
    refine J_aload_nN (q := 16) C dX5_fault_15 rfl rfl 1 rfl ?_
    refine J_ifnullN (tgt := 23) C dX5_fault_16 (by decide) ?_
    refine J_iload_n (q := 24) C dX5_fault_23 rfl rfl 0 rfl ?_
    obtain ⟨rfl, rfl⟩ := Prod.mk.inj (Option.some.inj h)
    exact J_iret C dX5_fault_24
  | some g1 =>
    have h := oc_some h
    have ho1 := X5_pick_isI isRA_72 ec1
    refine J_st (st' := [.ref (ad g1)]) rfl ?_
    refine J_astore_n (q := 9) C dX5_fault_8 rfl rfl (by decide) rfl ?_
    refine J_aload_n (q := 10) C dX5_fault_9 rfl rfl 1 rfl ?_
    refine J_aload_n (q := 11) C dX5_fault_10 rfl rfl 0 rfl ?_
    obtain ⟨r3, σ3, ec3, h⟩ := bnd2_of h
    refine J_callIV (q := 14) (As := [.ref (ad g1)]) C (c_X5_refused hap (someI ho1) ec3) ok_X5_refused kM_X5_91 (by decide) rfl rfl rfl rfl rfl rfl ⟨Nat.le_of_ble_eq_true rfl, Nat.le_of_ble_eq_true rfl⟩ (Nat.le_of_ble_eq_true rfl) dX5_fault_11 rfl ?_
    refine J_istore_n (q := 15) C dX5_fault_14 rfl rfl (by decide) rfl ?_
    refine J_aload_n (q := 16) C dX5_fault_15 rfl rfl 1 rfl ?_
    refine J_ifnull (q := 19) C dX5_fault_16 rfl ?_
    refine J_iload_n (q := 20) C dX5_fault_19 rfl rfl 0 rfl ?_
    refine J_if_eq (tgt := 25) (q := 23) C dX5_fault_20 rfl (by decide) h (fun _ h => ?_) (fun _ h => ?_)
    · refine J_aload_n (q := 26) C dX5_fault_25 rfl rfl 2 rfl ?_
      refine JC_g_X5_reader (q := 29) C kF_X5_26 dX5_fault_26 rfl ?_
      refine J_aload_n (q := 30) C dX5_fault_29 rfl rfl 1 rfl ?_
      refine J_aload_n (q := 31) C dX5_fault_30 rfl rfl 2 rfl ?_
      refine JC_g_X5_draft (q := 34) C kF_X5_53 dX5_fault_31 rfl (fun hs4 => ?_)
      obtain ⟨r5, σ5, ec5, h⟩ := bnd2_of h
      refine J_callIV (q := 37) (As := [.ref (ad g1), .ref (ad (gR σ3 1))]) C (c_X2_read hap ho1 hs4 ec5) ok_X2_read kM_X5_121 (by decide) rfl rfl rfl rfl rfl rfl ⟨Nat.le_of_ble_eq_true rfl, Nat.le_of_ble_eq_true rfl⟩ (Nat.le_of_ble_eq_true rfl) dX5_fault_34 rfl ?_
      obtain ⟨rfl, rfl⟩ := Prod.mk.inj (Option.some.inj h)
      exact J_iret C dX5_fault_37
    · refine J_iload_n (q := 24) C dX5_fault_23 rfl rfl 0 rfl ?_
      obtain ⟨rfl, rfl⟩ := Prod.mk.inj (Option.some.inj h)
      exact J_iret C dX5_fault_24
set_option maxHeartbeats 4000000 in
set_option maxRecDepth 100000 in
theorem cl_X5_town_87 {p : Program} {l : Launch} {e : Env} {s : State} {m : MethodId} {args : Array Value} {below : List Frame} {meth : Method} {c : Code} {D : va_G} {cI cR : ClassId} {ad : Nat → Nat} (hap : apN 74 ad) (C : Cx p s m args meth c cX5_town 7 "WokenYears" D (tysC cI cR) 74 ad (some .int)) {k122 : Sg → Option (Int32 × Sg)} (r : Int32) (σo : Sg)  (hk122 : ∀ (σ1 : Sg), k122 σ1 = some (r, σo) → Jd p l e (rmF 7 163) s m args below meth c D 74 ad (celC cI cR ad) okC 7 (MQ below (QI D (tysC cI cR) 74 ad (celC cI cR ad) okC r σo) args s 0 0 (inA 74 ad)) 122 [(0, .ref (ad 0))] [] σ1) : ∀ (n : Nat) (x5 : Int32) (σx : Sg), l_X5_town_87 k122 n x5 σx = some (r, σo) → Jd p l e (rmF 7 163) s m args below meth c D 74 ad (celC cI cR ad) okC 7 (MQ below (QI D (tysC cI cR) 74 ad (celC cI cR ad) okC r σo) args s 0 0 (inA 74 ad)) 87 [(0, .ref (ad 0)), (5, .int x5)] [] σx := by
  intro n
  induction n with
  | zero => intro x5 σx h; cases h
  | succ n ih =>
    intro x5 σx h
    unfold l_X5_town_87 at h
    refine J_iload (q := 89) C dX5_town_87 rfl 1 rfl ?_
    refine J_aload_n (q := 90) C dX5_town_89 rfl rfl 0 rfl ?_
    refine JC_g_X5_kept (q := 93) C kF_X5_20 dX5_town_90 rfl ?_
    refine JC_ralen (q := 94) C isRA_73 dX5_town_93 rfl ?_
    refine J_icmp_ge (tgt := 122) (q := 97) C dX5_town_94 rfl (by decide) h (fun _ h => ?_) (fun _ h => ?_)
    · refine J_sub [0] rfl ?_
      exact hk122 _ h
    · refine J_aload_n (q := 98) C dX5_town_97 rfl rfl 0 rfl ?_
      refine JC_g_X5_kept (q := 101) C kF_X5_20 dX5_town_98 rfl ?_
      refine J_iload (q := 103) C dX5_town_101 rfl 1 rfl ?_
      refine JC_aald (q := 104) C isRA_73 h dX5_town_103 rfl (fun hog14 h => ?_)
      refine J_astore (q := 106) C dX5_town_104 rfl (by decide) rfl ?_
      refine J_aload (q := 108) C dX5_town_106 rfl 0 rfl ?_
      refine jn_elim h (fun k116 ek116 h => ?_)
      have hk116 : ∀ (σj116 : Sg), k116 σj116 = some (r, σo) → Jd p l e (rmF 7 163) s m args below meth c D 74 ad (celC cI cR ad) okC 7 (MQ below (QI D (tysC cI cR) 74 ad (celC cI cR ad) okC r σo) args s 0 0 (inA 74 ad)) 116 [(0, .ref (ad 0)), (5, .int x5)] [] σj116 := by
        intro σj116 h
        rw [ek116] at h
        refine jn_elim h (fun y15 ey15 h => ?_)
        refine J_iinc (v := y15) (q := 119) C dX5_town_116 rfl 1 rfl (by rw [ey15]; rfl) (by decide) rfl ?_
        refine J_goto (tgt := 87) C dX5_town_119 (by decide) ?_
        refine J_sub [1, 0] rfl ?_
        exact ih _ _ h
      refine J_ifnull (q := 111) C dX5_town_108 rfl ?_
      refine J_aload (q := 113) C dX5_town_111 rfl 0 rfl ?_
      obtain ⟨σ16, ec16, h⟩ := bnd_of h
      refine J_callXV (q := 116) (As := []) C (c_X0_drop hap hog14 ec16) ok_X0_drop kM_X5_110 (lt74I hog14) (celC_I hog14) rfl rfl rfl rfl rfl ⟨Nat.le_of_ble_eq_true rfl, Nat.le_of_ble_eq_true rfl⟩ (Nat.le_of_ble_eq_true rfl) dX5_town_113 rfl ?_
      refine J_sub [1, 2] rfl ?_
      exact hk116 _ h
set_option maxHeartbeats 4000000 in
set_option maxRecDepth 100000 in
theorem c_X5_town {l : Launch} {D : va_G} {cI cR : ClassId} {ad : Nat → Nat} (hap : apN 74 ad) {i1 : Int32} {σ : Sg} {r : Int32} {σo : Sg}  (h : f_X5_town i1 σ = some (r, σo)) : MI l D (tysC cI cR) 74 ad (celC cI cR ad) okC yX5_town cX5_town 7 .int 7 163 [.ref (ad 0), .int i1] σ r σo := by
  unfold f_X5_town at h
  refine entI "WokenYears" hap (by decide +kernel) rfl (Nat.le_of_ble_eq_true rfl) (fun p e s m args below meth c C => ?_)
  refine J_sub (lv' := [(0, .ref (ad 0)), (1, .int i1)]) [0, 1] rfl ?_
  refine J_aload_n (q := 1) C dX5_town_0 rfl rfl 0 rfl ?_
  refine JC_g_X5_texts (q := 4) C kF_X5_17 dX5_town_1 rfl ?_
  refine J_iload_n (q := 5) C dX5_town_4 rfl rfl 1 rfl ?_
  obtain ⟨r1, ec1, h⟩ := bnd_of h
  refine J_callRS (q := 8) (As := [.ref (ad 72), .int i1]) C (c_X5_pick hap isRA_72 ec1) ok_X5_pick kM_X5_99 rfl rfl rfl ⟨Nat.le_of_ble_eq_true rfl, Nat.le_of_ble_eq_true rfl⟩ (Nat.le_of_ble_eq_true rfl) dX5_town_5 rfl ?_
  cases r1 with
  | none =>
    have h := oc_none h
    refine J_st (st' := [.null]) rfl ?_
    refine J_astore_nN (q := 9) C dX5_town_8 rfl rfl (by decide) rfl ?_
    refine J_aload_n (q := 10) C dX5_town_9 rfl rfl 1 rfl ?_
    refine J_aload_nN (q := 11) C dX5_town_10 rfl rfl 0 rfl ?_
    obtain ⟨r2, σ2, ec2, h⟩ := bnd2_of h
    refine J_callIV (q := 14) (As := [.null]) C (c_X5_refused hap noneI ec2) ok_X5_refused kM_X5_91 (by decide) rfl rfl rfl rfl rfl rfl ⟨Nat.le_of_ble_eq_true rfl, Nat.le_of_ble_eq_true rfl⟩ (Nat.le_of_ble_eq_true rfl) dX5_town_11 rfl ?_
    refine J_istore_n (q := 15) C dX5_town_14 rfl rfl (by decide) rfl ?_
    refine J_aload_nN (q := 16) C dX5_town_15 rfl rfl 1 rfl ?_
    refine J_ifnullN (tgt := 23) C dX5_town_16 (by decide) ?_
    refine J_iload_n (q := 24) C dX5_town_23 rfl rfl 0 rfl ?_
    obtain ⟨rfl, rfl⟩ := Prod.mk.inj (Option.some.inj h)
    exact J_iret C dX5_town_24
  | some g1 =>
    have h := oc_some h
    have ho1 := X5_pick_isI isRA_72 ec1
    refine J_st (st' := [.ref (ad g1)]) rfl ?_
    refine J_astore_n (q := 9) C dX5_town_8 rfl rfl (by decide) rfl ?_
    refine J_aload_n (q := 10) C dX5_town_9 rfl rfl 1 rfl ?_
    refine J_aload_n (q := 11) C dX5_town_10 rfl rfl 0 rfl ?_
    obtain ⟨r3, σ3, ec3, h⟩ := bnd2_of h
    refine J_callIV (q := 14) (As := [.ref (ad g1)]) C (c_X5_refused hap (someI ho1) ec3) ok_X5_refused kM_X5_91 (by decide) rfl rfl rfl rfl rfl rfl ⟨Nat.le_of_ble_eq_true rfl, Nat.le_of_ble_eq_true rfl⟩ (Nat.le_of_ble_eq_true rfl) dX5_town_11 rfl ?_
    refine J_istore_n (q := 15) C dX5_town_14 rfl rfl (by decide) rfl ?_
    refine J_aload_n (q := 16) C dX5_town_15 rfl rfl 1 rfl ?_
    refine J_ifnull (q := 19) C dX5_town_16 rfl ?_
    refine J_iload_n (q := 20) C dX5_town_19 rfl rfl 0 rfl ?_
    refine J_if_eq (tgt := 25) (q := 23) C dX5_town_20 rfl (by decide) h (fun _ h => ?_) (fun _ h => ?_)
    · refine J_aload_n (q := 26) C dX5_town_25 rfl rfl 2 rfl ?_
      refine JC_g_X5_reader (q := 29) C kF_X5_26 dX5_town_26 rfl ?_
      refine J_aload_n (q := 30) C dX5_town_29 rfl rfl 1 rfl ?_
      refine J_aload_n (q := 31) C dX5_town_30 rfl rfl 2 rfl ?_
      refine JC_g_X5_draft (q := 34) C kF_X5_53 dX5_town_31 rfl (fun hs4 => ?_)
      obtain ⟨r5, σ5, ec5, h⟩ := bnd2_of h
      refine J_callIV (q := 37) (As := [.ref (ad g1), .ref (ad (gR σ3 1))]) C (c_X2_read hap ho1 hs4 ec5) ok_X2_read kM_X5_121 (by decide) rfl rfl rfl rfl rfl rfl ⟨Nat.le_of_ble_eq_true rfl, Nat.le_of_ble_eq_true rfl⟩ (Nat.le_of_ble_eq_true rfl) dX5_town_34 rfl ?_
      refine J_bipush (v := -9) (q := 39) C dX5_town_37 rfl rfl ?_
      refine J_icmp_eq (tgt := 45) (q := 42) C dX5_town_39 rfl (by decide) h (fun _ h => ?_) (fun _ h => ?_)
      · refine J_aload_n (q := 46) C dX5_town_45 rfl rfl 2 rfl ?_
        refine JC_g_X5_street (q := 49) C kF_X5_49 dX5_town_46 rfl (fun hs6 => ?_)
        refine J_astore (q := 51) C dX5_town_49 rfl (by decide) rfl ?_
        refine J_aload_n (q := 52) C dX5_town_51 rfl rfl 3 rfl ?_
        refine J_aload_n (q := 53) C dX5_town_52 rfl rfl 3 rfl ?_
        refine JC_g_X5_draft (q := 56) C kF_X5_53 dX5_town_53 rfl (fun hs7 => ?_)
        refine JC_p_X5_street (q := 59) C hs7 kF_X5_49 dX5_town_56 rfl ?_
        refine jn_elim h (fun σ8 eσ8 h => ?_)
        rw [← eσ8]
        refine J_aload_n (q := 60) C dX5_town_59 rfl rfl 3 rfl ?_
        refine J_aload (q := 62) C dX5_town_60 rfl 0 rfl ?_
        refine JC_p_X5_draft (q := 65) C hs6 kF_X5_53 dX5_town_62 rfl ?_
        refine jn_elim h (fun σ9 eσ9 h => ?_)
        rw [← eσ9]
        refine J_aload_n (q := 66) C dX5_town_65 rfl rfl 3 rfl ?_
        refine JC_g_X5_street (q := 69) C kF_X5_49 dX5_town_66 rfl (fun hs10 => ?_)
        refine JC_g_X4_deeds (q := 72) C hs10 kF_X5_125 dX5_town_69 rfl ?_
        refine J_iconst (v := 0 ) (q := 73) C dX5_town_72 rfl rfl ?_
        refine J_iconst (v := 0 ) (q := 74) C dX5_town_73 rfl rfl ?_
        obtain ⟨σ11, ec11, h⟩ := bnd_of h
        refine J_callXV (q := 77) (As := [.int (0 : Int32), .int (0 : Int32)]) C (c_X0_fill hap (isI_st hs10 6 (by decide)) ec11) ok_X0_fill kM_X5_60 (lt74I (isI_st hs10 6 (by decide))) (celC_I (isI_st hs10 6 (by decide))) rfl rfl rfl rfl rfl ⟨Nat.le_of_ble_eq_true rfl, Nat.le_of_ble_eq_true rfl⟩ (Nat.le_of_ble_eq_true rfl) dX5_town_74 rfl ?_
        refine J_aload_n (q := 78) C dX5_town_77 rfl rfl 3 rfl ?_
        refine JC_g_X5_street (q := 81) C kF_X5_49 dX5_town_78 rfl (fun hs12 => ?_)
        obtain ⟨σ13, ec13, h⟩ := bnd_of h
        refine J_callXV (q := 84) (As := []) C (c_X4_replay hap hs12 ec13) ok_X4_replay kM_X5_128 (lt74S hs12) (celC_S hs12) rfl rfl rfl rfl rfl ⟨Nat.le_of_ble_eq_true rfl, Nat.le_of_ble_eq_true rfl⟩ (Nat.le_of_ble_eq_true rfl) dX5_town_81 rfl ?_
        refine J_iconst (v := 0 ) (q := 85) C dX5_town_84 rfl rfl ?_
        refine J_istore (q := 87) C dX5_town_85 rfl (by decide) rfl ?_
        refine J_sub [4, 0] rfl ?_
        refine cl_X5_town_87 hap C r σo  (fun σv122 h => ?_) FU _ _ h
        · refine J_aload_n (q := 123) C dX5_town_122 rfl rfl 0 rfl ?_
          refine JC_g_X5_street (q := 126) C kF_X5_49 dX5_town_123 rfl (fun hs17 => ?_)
          refine JC_g_X4_size (q := 129) C hs17 kF_X5_131 dX5_town_126 rfl ?_
          obtain ⟨rfl, rfl⟩ := Prod.mk.inj (Option.some.inj h)
          exact J_iret C dX5_town_129
      · refine J_bipush (v := -4) (q := 44) C dX5_town_42 rfl rfl ?_
        obtain ⟨rfl, rfl⟩ := Prod.mk.inj (Option.some.inj h)
        exact J_iret C dX5_town_44
    · refine J_iload_n (q := 24) C dX5_town_23 rfl rfl 0 rfl ?_
      obtain ⟨rfl, rfl⟩ := Prod.mk.inj (Option.some.inj h)
      exact J_iret C dX5_town_24
set_option maxHeartbeats 4000000 in
set_option maxRecDepth 100000 in
theorem c_X5_house {l : Launch} {D : va_G} {cI cR : ClassId} {ad : Nat → Nat} (hap : apN 74 ad) {i1 : Int32} {i2 : Int32} {σ : Sg} {r : Int32} {σo : Sg}  (h : f_X5_house i1 i2 σ = some (r, σo)) : MI l D (tysC cI cR) 74 ad (celC cI cR ad) okC yX5_house cX5_house 3 .int 5 120 [.ref (ad 0), .int i1, .int i2] σ r σo := by
  unfold f_X5_house at h
  refine entI "WokenYears" hap (by decide +kernel) rfl (Nat.le_of_ble_eq_true rfl) (fun p e s m args below meth c C => ?_)
  refine J_sub (lv' := [(0, .ref (ad 0)), (1, .int i1), (2, .int i2)]) [0, 1, 2] rfl ?_
  refine J_aload_n (q := 1) C dX5_house_0 rfl rfl 0 rfl ?_
  refine JC_g_X5_street (q := 4) C kF_X5_49 dX5_house_1 rfl (fun hs1 => ?_)
  refine J_iload_n (q := 5) C dX5_house_4 rfl rfl 1 rfl ?_
  obtain ⟨r2, ec2, h⟩ := bnd_of h
  refine J_callIV (q := 8) (As := [.int i1]) C (c_X4_isHouse hap hs1 ec2) ok_X4_isHouse kM_X5_132 (lt74S hs1) (celC_S hs1) rfl rfl rfl rfl rfl ⟨Nat.le_of_ble_eq_true rfl, Nat.le_of_ble_eq_true rfl⟩ (Nat.le_of_ble_eq_true rfl) dX5_house_5 rfl ?_
  refine J_ifeq_b (tgt := 20) (q := 11) C dX5_house_8 rfl (by decide) h (fun _ h => ?_) (fun _ h => ?_)
  · refine J_iload_n (q := 12) C dX5_house_11 rfl rfl 2 rfl ?_
    refine J_iconst (v := 0 ) (q := 13) C dX5_house_12 rfl rfl ?_
    refine J_iconst (v := 5 ) (q := 14) C dX5_house_13 rfl rfl ?_
    obtain ⟨r3, ec3, h⟩ := bnd_of h
    refine J_callIS (q := 17) (As := [.int i2, .int (0 : Int32), .int (5 : Int32)]) C (c_X5_within hap  ec3) ok_X5_within kM_X5_75 rfl rfl rfl ⟨Nat.le_of_ble_eq_true rfl, Nat.le_of_ble_eq_true rfl⟩ (Nat.le_of_ble_eq_true rfl) dX5_house_14 rfl ?_
    refine J_ifne_b (tgt := 22) (q := 20) C dX5_house_17 rfl (by decide) h (fun _ h => ?_) (fun _ h => ?_)
    · refine J_aload_n (q := 23) C dX5_house_22 rfl rfl 0 rfl ?_
      refine J_aload_n (q := 24) C dX5_house_23 rfl rfl 0 rfl ?_
      refine JC_g_X5_street (q := 27) C kF_X5_49 dX5_house_24 rfl (fun hs4 => ?_)
      refine J_iload_n (q := 28) C dX5_house_27 rfl rfl 1 rfl ?_
      refine J_iload_n (q := 29) C dX5_house_28 rfl rfl 2 rfl ?_
      obtain ⟨r5, ec5, h⟩ := bnd_of h
      refine J_callIV (q := 32) (As := [.int i1, .int i2]) C (c_X4_tell hap hs4 ec5) ok_X4_tell kM_X5_135 (lt74S hs4) (celC_S hs4) rfl rfl rfl rfl rfl ⟨Nat.le_of_ble_eq_true rfl, Nat.le_of_ble_eq_true rfl⟩ (Nat.le_of_ble_eq_true rfl) dX5_house_29 rfl ?_
      refine JC_p_X5_asked (q := 35) C kF_X5_107 dX5_house_32 rfl ?_
      refine jn_elim h (fun σ6 eσ6 h => ?_)
      rw [← eσ6]
      refine J_iconst (v := 1 ) (q := 36) C dX5_house_35 rfl rfl ?_
      obtain ⟨rfl, rfl⟩ := Prod.mk.inj (Option.some.inj h)
      exact J_iret C dX5_house_36
    · refine J_iconst (v := -1 ) (q := 21) C dX5_house_20 rfl rfl ?_
      obtain ⟨rfl, rfl⟩ := Prod.mk.inj (Option.some.inj h)
      exact J_iret C dX5_house_21
  · refine J_iconst (v := -1 ) (q := 21) C dX5_house_20 rfl rfl ?_
    obtain ⟨rfl, rfl⟩ := Prod.mk.inj (Option.some.inj h)
    exact J_iret C dX5_house_21
set_option maxHeartbeats 4000000 in
set_option maxRecDepth 100000 in
theorem c_X5_mark {l : Launch} {D : va_G} {cI cR : ClassId} {ad : Nat → Nat} (hap : apN 74 ad) {i1 : Int32} {i2 : Int32} {σ : Sg} {r : Int32} {σo : Sg}  (h : f_X5_mark i1 i2 σ = some (r, σo)) : MI l D (tysC cI cR) 74 ad (celC cI cR ad) okC yX5_mark cX5_mark 5 .int 5 115 [.ref (ad 0), .int i1, .int i2] σ r σo := by
  unfold f_X5_mark at h
  refine entI "WokenYears" hap (by decide +kernel) rfl (Nat.le_of_ble_eq_true rfl) (fun p e s m args below meth c C => ?_)
  refine J_sub (lv' := [(0, .ref (ad 0)), (1, .int i1), (2, .int i2)]) [0, 1, 2] rfl ?_
  refine J_aload_n (q := 1) C dX5_mark_0 rfl rfl 0 rfl ?_
  refine JC_g_X5_street (q := 4) C kF_X5_49 dX5_mark_1 rfl (fun hs1 => ?_)
  refine J_iload_n (q := 5) C dX5_mark_4 rfl rfl 1 rfl ?_
  obtain ⟨r2, ec2, h⟩ := bnd_of h
  refine J_callIV (q := 8) (As := [.int i1]) C (c_X4_isHouse hap hs1 ec2) ok_X4_isHouse kM_X5_132 (lt74S hs1) (celC_S hs1) rfl rfl rfl rfl rfl ⟨Nat.le_of_ble_eq_true rfl, Nat.le_of_ble_eq_true rfl⟩ (Nat.le_of_ble_eq_true rfl) dX5_mark_5 rfl ?_
  refine J_ifeq_b (tgt := 20) (q := 11) C dX5_mark_8 rfl (by decide) h (fun _ h => ?_) (fun _ h => ?_)
  · refine J_iload_n (q := 12) C dX5_mark_11 rfl rfl 2 rfl ?_
    refine J_iconst (v := 1 ) (q := 13) C dX5_mark_12 rfl rfl ?_
    refine J_iconst (v := 5 ) (q := 14) C dX5_mark_13 rfl rfl ?_
    obtain ⟨r3, ec3, h⟩ := bnd_of h
    refine J_callIS (q := 17) (As := [.int i2, .int (1 : Int32), .int (5 : Int32)]) C (c_X5_within hap  ec3) ok_X5_within kM_X5_75 rfl rfl rfl ⟨Nat.le_of_ble_eq_true rfl, Nat.le_of_ble_eq_true rfl⟩ (Nat.le_of_ble_eq_true rfl) dX5_mark_14 rfl ?_
    refine J_ifne_b (tgt := 22) (q := 20) C dX5_mark_17 rfl (by decide) h (fun _ h => ?_) (fun _ h => ?_)
    · refine J_aload_n (q := 23) C dX5_mark_22 rfl rfl 0 rfl ?_
      refine JC_g_X5_street (q := 26) C kF_X5_49 dX5_mark_23 rfl (fun hs4 => ?_)
      refine JC_g_X4_kinds (q := 29) C hs4 kF_X5_138 dX5_mark_26 rfl ?_
      refine J_iload_n (q := 30) C dX5_mark_29 rfl rfl 1 rfl ?_
      obtain ⟨r5, ec5, h⟩ := bnd_of h
      refine J_callIV (q := 33) (As := [.int i1]) C (c_X0_get hap (isI_st hs4 0 (by decide)) ec5) ok_X0_get kM_X5_68 (lt74I (isI_st hs4 0 (by decide))) (celC_I (isI_st hs4 0 (by decide))) rfl rfl rfl rfl rfl ⟨Nat.le_of_ble_eq_true rfl, Nat.le_of_ble_eq_true rfl⟩ (Nat.le_of_ble_eq_true rfl) dX5_mark_30 rfl ?_
      refine J_iload_n (q := 34) C dX5_mark_33 rfl rfl 2 rfl ?_
      obtain ⟨r6, ec6, h⟩ := bnd_of h
      refine J_callIS (q := 37) (As := [.int r5, .int i2]) C (c_X1_isOf hap  ec6) ok_X1_isOf kM_X5_141 rfl rfl rfl ⟨Nat.le_of_ble_eq_true rfl, Nat.le_of_ble_eq_true rfl⟩ (Nat.le_of_ble_eq_true rfl) dX5_mark_34 rfl ?_
      refine J_ifne_b (tgt := 46) (q := 40) C dX5_mark_37 rfl (by decide) h (fun _ h => ?_) (fun _ h => ?_)
      · refine J_aload_n (q := 47) C dX5_mark_46 rfl rfl 0 rfl ?_
        refine JC_g_X5_street (q := 50) C kF_X5_49 dX5_mark_47 rfl (fun hs7 => ?_)
        refine JC_g_X4_dates (q := 53) C hs7 kF_X5_146 dX5_mark_50 rfl ?_
        refine J_iload_n (q := 54) C dX5_mark_53 rfl rfl 1 rfl ?_
        obtain ⟨r8, ec8, h⟩ := bnd_of h
        refine J_callIV (q := 57) (As := [.int i1]) C (c_X0_get hap (isI_st hs7 3 (by decide)) ec8) ok_X0_get kM_X5_68 (lt74I (isI_st hs7 3 (by decide))) (celC_I (isI_st hs7 3 (by decide))) rfl rfl rfl rfl rfl ⟨Nat.le_of_ble_eq_true rfl, Nat.le_of_ble_eq_true rfl⟩ (Nat.le_of_ble_eq_true rfl) dX5_mark_54 rfl ?_
        refine J_istore_n (q := 58) C dX5_mark_57 rfl rfl (by decide) rfl ?_
        refine J_aload_n (q := 59) C dX5_mark_58 rfl rfl 1 rfl ?_
        refine JC_g_X5_street (q := 62) C kF_X5_49 dX5_mark_59 rfl (fun hs9 => ?_)
        refine J_iload_n (q := 63) C dX5_mark_62 rfl rfl 2 rfl ?_
        refine J_iload_n (q := 64) C dX5_mark_63 rfl rfl 0 rfl ?_
        obtain ⟨r10, ec10, h⟩ := bnd_of h
        refine J_callIV (q := 67) (As := [.int i1, .int r8]) C (c_X4_tapsFor hap hs9 ec10) ok_X4_tapsFor kM_X5_149 (lt74S hs9) (celC_S hs9) rfl rfl rfl rfl rfl ⟨Nat.le_of_ble_eq_true rfl, Nat.le_of_ble_eq_true rfl⟩ (Nat.le_of_ble_eq_true rfl) dX5_mark_64 rfl ?_
        refine J_istore (q := 69) C dX5_mark_67 rfl (by decide) rfl ?_
        refine J_iload_n (q := 70) C dX5_mark_69 rfl rfl 4 rfl ?_
        by_cases z1 : i2 = (1 : Int32)
        · have h := itp h z1
          refine J_tsIn (off := 30) (tgt := 100) C (1 : Int32) z1 dX5_mark_70 (by decide) (by decide) (by decide) (by decide) ?_
          refine J_iload (q := 102) C dX5_mark_100 rfl 0 rfl ?_
          refine J_bipush (v := -9) (q := 104) C dX5_mark_102 rfl rfl ?_
          refine J_icmp_ne (tgt := 112) (q := 107) C dX5_mark_104 rfl (by decide) h (fun _ h => ?_) (fun _ h => ?_)
          · refine J_bipush (v := -9) (q := 109) C dX5_mark_107 rfl rfl ?_
            refine J_goto (tgt := 127) C dX5_mark_109 (by decide) ?_
            obtain ⟨rfl, rfl⟩ := Prod.mk.inj (Option.some.inj h)
            exact J_iret C dX5_mark_127
          · refine J_iload (q := 114) C dX5_mark_112 rfl 0 rfl ?_
            refine J_iconst (v := 0 ) (q := 115) C dX5_mark_114 rfl rfl ?_
            refine J_iload_n (q := 116) C dX5_mark_115 rfl rfl 1 rfl ?_
            refine J_aload_n (q := 117) C dX5_mark_116 rfl rfl 2 rfl ?_
            refine JC_g_X5_street (q := 120) C kF_X5_49 dX5_mark_117 rfl (fun hs11 => ?_)
            refine JC_g_X4_frost (q := 123) C hs11 kF_X5_152 dX5_mark_120 rfl ?_
            obtain ⟨r12, ec12, h⟩ := bnd_of h
            refine J_callIS (q := 126) (As := [.int (0 : Int32), .int r8, .int (gS σ (16 * (gR σ 0) + 10))]) C (c_X1_taps hap  ec12) ok_X1_taps kM_X5_155 rfl rfl rfl ⟨Nat.le_of_ble_eq_true rfl, Nat.le_of_ble_eq_true rfl⟩ (Nat.le_of_ble_eq_true rfl) dX5_mark_123 rfl ?_
            refine J_isub (q := 127) C dX5_mark_126 rfl ?_
            obtain ⟨rfl, rfl⟩ := Prod.mk.inj (Option.some.inj h)
            exact J_iret C dX5_mark_127
        have h := itn h z1
        by_cases z2 : i2 = (2 : Int32)
        · have h := itp h z2
          refine J_tsIn (off := 58) (tgt := 128) C (2 : Int32) z2 dX5_mark_70 (by decide) (by decide) (by decide) (by decide) ?_
          refine J_aload_n (q := 129) C dX5_mark_128 rfl rfl 2 rfl ?_
          refine JC_g_X5_street (q := 132) C kF_X5_49 dX5_mark_129 rfl (fun hs13 => ?_)
          refine J_iload_n (q := 133) C dX5_mark_132 rfl rfl 3 rfl ?_
          obtain ⟨r14, ec14, h⟩ := bnd_of h
          refine J_callIV (q := 136) (As := [.int i1]) C (c_X4_fee hap hs13 ec14) ok_X4_fee kM_X5_159 (lt74S hs13) (celC_S hs13) rfl rfl rfl rfl rfl ⟨Nat.le_of_ble_eq_true rfl, Nat.le_of_ble_eq_true rfl⟩ (Nat.le_of_ble_eq_true rfl) dX5_mark_133 rfl ?_
          refine J_iconst (v := 0 ) (q := 137) C dX5_mark_136 rfl rfl ?_
          obtain ⟨r15, ec15, h⟩ := bnd_of h
          refine J_callIS (q := 140) (As := [.int (0 : Int32)]) C (c_X1_fee hap  ec15) ok_X1_fee kM_X5_162 rfl rfl rfl ⟨Nat.le_of_ble_eq_true rfl, Nat.le_of_ble_eq_true rfl⟩ (Nat.le_of_ble_eq_true rfl) dX5_mark_137 rfl ?_
          refine J_isub (q := 141) C dX5_mark_140 rfl ?_
          obtain ⟨rfl, rfl⟩ := Prod.mk.inj (Option.some.inj h)
          exact J_iret C dX5_mark_141
        have h := itn h z2
        by_cases z3 : i2 = (3 : Int32)
        · have h := itp h z3
          refine J_tsIn (off := 72) (tgt := 142) C (3 : Int32) z3 dX5_mark_70 (by decide) (by decide) (by decide) (by decide) ?_
          refine J_aload_n (q := 143) C dX5_mark_142 rfl rfl 2 rfl ?_
          refine JC_g_X5_street (q := 146) C kF_X5_49 dX5_mark_143 rfl (fun hs16 => ?_)
          refine J_iload_n (q := 147) C dX5_mark_146 rfl rfl 3 rfl ?_
          obtain ⟨r17, ec17, h⟩ := bnd_of h
          refine J_callIV (q := 150) (As := [.int i1]) C (c_X4_othersAwake hap hs16 ec17) ok_X4_othersAwake kM_X5_163 (lt74S hs16) (celC_S hs16) rfl rfl rfl rfl rfl ⟨Nat.le_of_ble_eq_true rfl, Nat.le_of_ble_eq_true rfl⟩ (Nat.le_of_ble_eq_true rfl) dX5_mark_147 rfl ?_
          obtain ⟨rfl, rfl⟩ := Prod.mk.inj (Option.some.inj h)
          exact J_iret C dX5_mark_150
        have h := itn h z3
        by_cases z4 : i2 = (4 : Int32)
        · have h := itp h z4
          refine J_tsIn (off := 81) (tgt := 151) C (4 : Int32) z4 dX5_mark_70 (by decide) (by decide) (by decide) (by decide) ?_
          refine J_iload (q := 153) C dX5_mark_151 rfl 0 rfl ?_
          obtain ⟨rfl, rfl⟩ := Prod.mk.inj (Option.some.inj h)
          exact J_iret C dX5_mark_153
        have h := itn h z4
        have w1 : i2.toInt ≠ 1 := fun e => z1 (Int32.toInt_inj.mp (e.trans (by decide)))
        have w2 : i2.toInt ≠ 2 := fun e => z2 (Int32.toInt_inj.mp (e.trans (by decide)))
        have w3 : i2.toInt ≠ 3 := fun e => z3 (Int32.toInt_inj.mp (e.trans (by decide)))
        have w4 : i2.toInt ≠ 4 := fun e => z4 (Int32.toInt_inj.mp (e.trans (by decide)))
        refine J_tsOut (tgt := 154) C dX5_mark_70 (by omega) (by decide) ?_
        refine J_aload_n (q := 155) C dX5_mark_154 rfl rfl 2 rfl ?_
        refine JC_g_X5_street (q := 158) C kF_X5_49 dX5_mark_155 rfl (fun hs18 => ?_)
        refine J_iload_n (q := 159) C dX5_mark_158 rfl rfl 3 rfl ?_
        obtain ⟨r19, ec19, h⟩ := bnd_of h
        refine J_callIV (q := 162) (As := [.int i1]) C (c_X4_othersEarlier hap hs18 ec19) ok_X4_othersEarlier kM_X5_166 (lt74S hs18) (celC_S hs18) rfl rfl rfl rfl rfl ⟨Nat.le_of_ble_eq_true rfl, Nat.le_of_ble_eq_true rfl⟩ (Nat.le_of_ble_eq_true rfl) dX5_mark_159 rfl ?_
        obtain ⟨rfl, rfl⟩ := Prod.mk.inj (Option.some.inj h)
        exact J_iret C dX5_mark_162
      · refine J_aload_n (q := 41) C dX5_mark_40 rfl rfl 0 rfl ?_
        refine J_iconst (v := 3 ) (q := 42) C dX5_mark_41 rfl rfl ?_
        obtain ⟨r20, σ20, ec20, h⟩ := bnd2_of h
        refine J_callIV (q := 45) (As := [.int (3 : Int32)]) C (c_X5_found hap  ec20) ok_X5_found kM_X5_88 (by decide) rfl rfl rfl rfl rfl rfl ⟨Nat.le_of_ble_eq_true rfl, Nat.le_of_ble_eq_true rfl⟩ (Nat.le_of_ble_eq_true rfl) dX5_mark_42 rfl ?_
        obtain ⟨rfl, rfl⟩ := Prod.mk.inj (Option.some.inj h)
        exact J_iret C dX5_mark_45
    · refine J_iconst (v := -1 ) (q := 21) C dX5_mark_20 rfl rfl ?_
      obtain ⟨rfl, rfl⟩ := Prod.mk.inj (Option.some.inj h)
      exact J_iret C dX5_mark_21
  · refine J_iconst (v := -1 ) (q := 21) C dX5_mark_20 rfl rfl ?_
    obtain ⟨rfl, rfl⟩ := Prod.mk.inj (Option.some.inj h)
    exact J_iret C dX5_mark_21
set_option maxHeartbeats 4000000 in
set_option maxRecDepth 100000 in
theorem c_X5_isFull {l : Launch} {D : va_G} {cI cR : ClassId} {ad : Nat → Nat} (hap : apN 74 ad) {i1 : Int32} {σ : Sg} {r : Bool}  (h : f_X5_isFull i1 σ = some r) : MI l D (tysC cI cR) 74 ad (celC cI cR ad) okC yX5_isFull cX5_isFull 2 .boolean 1 30 [.ref (ad 0), .int i1] σ (b2i r) σ := by
  unfold f_X5_isFull at h
  refine entI "WokenYears" hap (by decide +kernel) rfl (Nat.le_of_ble_eq_true rfl) (fun p e s m args below meth c C => ?_)
  refine J_sub (lv' := [(0, .ref (ad 0)), (1, .int i1)]) [0, 1] rfl ?_
  refine J_aload_n (q := 1) C dX5_isFull_0 rfl rfl 0 rfl ?_
  refine JC_g_X5_street (q := 4) C kF_X5_49 dX5_isFull_1 rfl (fun hs1 => ?_)
  refine JC_g_X4_deeds (q := 7) C hs1 kF_X5_125 dX5_isFull_4 rfl ?_
  refine JC_g_X0_size (q := 10) C (isI_st hs1 6 (by decide)) kF_X5_85 dX5_isFull_7 rfl ?_
  refine J_iload_n (q := 11) C dX5_isFull_10 rfl rfl 1 rfl ?_
  refine J_iadd (q := 12) C dX5_isFull_11 rfl ?_
  refine J_bipush (v := 40) (q := 14) C dX5_isFull_12 rfl rfl ?_
  refine J_icmp_le (tgt := 21) (q := 17) C dX5_isFull_14 rfl (by decide) h (fun _ h => ?_) (fun _ h => ?_)
  · refine J_iconst (v := 0 ) (q := 22) C dX5_isFull_21 rfl rfl ?_
    obtain rfl := Option.some.inj h
    exact J_zret (b := false) C dX5_isFull_22
  · refine J_iconst (v := 1 ) (q := 18) C dX5_isFull_17 rfl rfl ?_
    refine J_goto (tgt := 22) C dX5_isFull_18 (by decide) ?_
    obtain rfl := Option.some.inj h
    exact J_zret (b := true) C dX5_isFull_22
set_option maxHeartbeats 4000000 in
set_option maxRecDepth 100000 in
theorem c_X5_walk {l : Launch} {D : va_G} {cI cR : ClassId} {ad : Nat → Nat} (hap : apN 74 ad) {i1 : Int32} {σ : Sg} {r : Int32} {σo : Sg}  (h : f_X5_walk i1 σ = some (r, σo)) : MI l D (tysC cI cR) 74 ad (celC cI cR ad) okC yX5_walk cX5_walk 2 .int 6 145 [.ref (ad 0), .int i1] σ r σo := by
  unfold f_X5_walk at h
  refine entI "WokenYears" hap (by decide +kernel) rfl (Nat.le_of_ble_eq_true rfl) (fun p e s m args below meth c C => ?_)
  refine J_sub (lv' := [(0, .ref (ad 0)), (1, .int i1)]) [0, 1] rfl ?_
  refine J_aload_n (q := 1) C dX5_walk_0 rfl rfl 0 rfl ?_
  refine JC_g_X5_street (q := 4) C kF_X5_49 dX5_walk_1 rfl (fun hs1 => ?_)
  refine J_iload_n (q := 5) C dX5_walk_4 rfl rfl 1 rfl ?_
  obtain ⟨r2, ec2, h⟩ := bnd_of h
  refine J_callIV (q := 8) (As := [.int i1]) C (c_X4_isHouse hap hs1 ec2) ok_X4_isHouse kM_X5_132 (lt74S hs1) (celC_S hs1) rfl rfl rfl rfl rfl ⟨Nat.le_of_ble_eq_true rfl, Nat.le_of_ble_eq_true rfl⟩ (Nat.le_of_ble_eq_true rfl) dX5_walk_5 rfl ?_
  refine J_ifne_b (tgt := 13) (q := 11) C dX5_walk_8 rfl (by decide) h (fun _ h => ?_) (fun _ h => ?_)
  · refine J_aload_n (q := 14) C dX5_walk_13 rfl rfl 0 rfl ?_
    refine JC_g_X5_street (q := 17) C kF_X5_49 dX5_walk_14 rfl (fun hs3 => ?_)
    refine JC_g_X4_place (q := 20) C hs3 kF_X5_169 dX5_walk_17 rfl ?_
    refine J_iload_n (q := 21) C dX5_walk_20 rfl rfl 1 rfl ?_
    refine J_icmp_ne (tgt := 27) (q := 24) C dX5_walk_21 rfl (by decide) h (fun _ h => ?_) (fun _ h => ?_)
    · refine J_bipush (v := -4) (q := 26) C dX5_walk_24 rfl rfl ?_
      obtain ⟨rfl, rfl⟩ := Prod.mk.inj (Option.some.inj h)
      exact J_iret C dX5_walk_26
    · refine J_aload_n (q := 28) C dX5_walk_27 rfl rfl 0 rfl ?_
      refine J_iconst (v := 1 ) (q := 29) C dX5_walk_28 rfl rfl ?_
      obtain ⟨r4, ec4, h⟩ := bnd_of h
      refine J_callIV (q := 32) (As := [.int (1 : Int32)]) C (c_X5_isFull hap  ec4) ok_X5_isFull kM_X5_172 (by decide) rfl rfl rfl rfl rfl rfl ⟨Nat.le_of_ble_eq_true rfl, Nat.le_of_ble_eq_true rfl⟩ (Nat.le_of_ble_eq_true rfl) dX5_walk_29 rfl ?_
      refine J_ifeq_b (tgt := 38) (q := 35) C dX5_walk_32 rfl (by decide) h (fun _ h => ?_) (fun _ h => ?_)
      · refine J_bipush (v := -2) (q := 37) C dX5_walk_35 rfl rfl ?_
        obtain ⟨rfl, rfl⟩ := Prod.mk.inj (Option.some.inj h)
        exact J_iret C dX5_walk_37
      · refine J_aload_n (q := 39) C dX5_walk_38 rfl rfl 0 rfl ?_
        refine JC_g_X5_street (q := 42) C kF_X5_49 dX5_walk_39 rfl (fun hs5 => ?_)
        refine J_iconst (v := 0 ) (q := 43) C dX5_walk_42 rfl rfl ?_
        refine J_iload_n (q := 44) C dX5_walk_43 rfl rfl 1 rfl ?_
        refine J_iconst (v := 0 ) (q := 45) C dX5_walk_44 rfl rfl ?_
        obtain ⟨σ6, ec6, h⟩ := bnd_of h
        refine J_callXV (q := 48) (As := [.int (0 : Int32), .int i1, .int (0 : Int32)]) C (c_X4_does hap hs5 ec6) ok_X4_does kM_X5_175 (lt74S hs5) (celC_S hs5) rfl rfl rfl rfl rfl ⟨Nat.le_of_ble_eq_true rfl, Nat.le_of_ble_eq_true rfl⟩ (Nat.le_of_ble_eq_true rfl) dX5_walk_45 rfl ?_
        refine J_aload_n (q := 49) C dX5_walk_48 rfl rfl 0 rfl ?_
        refine JC_g_X5_street (q := 52) C kF_X5_49 dX5_walk_49 rfl (fun hs7 => ?_)
        refine JC_g_X4_minute (q := 55) C hs7 kF_X5_179 dX5_walk_52 rfl ?_
        obtain ⟨rfl, rfl⟩ := Prod.mk.inj (Option.some.inj h)
        exact J_iret C dX5_walk_55
  · refine J_iconst (v := -1 ) (q := 12) C dX5_walk_11 rfl rfl ?_
    obtain ⟨rfl, rfl⟩ := Prod.mk.inj (Option.some.inj h)
    exact J_iret C dX5_walk_12
set_option maxHeartbeats 4000000 in
set_option maxRecDepth 100000 in
theorem c_X5_tap {l : Launch} {D : va_G} {cI cR : ClassId} {ad : Nat → Nat} (hap : apN 74 ad)  {σ : Sg} {r : Int32} {σo : Sg}  (h : f_X5_tap σ = some (r, σo)) : MI l D (tysC cI cR) 74 ad (celC cI cR ad) okC yX5_tap cX5_tap 1 .int 6 145 [.ref (ad 0)] σ r σo := by
  unfold f_X5_tap at h
  refine entI "WokenYears" hap (by decide +kernel) rfl (Nat.le_of_ble_eq_true rfl) (fun p e s m args below meth c C => ?_)
  refine J_sub (lv' := [(0, .ref (ad 0))]) [0] rfl ?_
  refine J_aload_n (q := 1) C dX5_tap_0 rfl rfl 0 rfl ?_
  refine JC_g_X5_street (q := 4) C kF_X5_49 dX5_tap_1 rfl (fun hs1 => ?_)
  refine JC_g_X4_size (q := 7) C hs1 kF_X5_131 dX5_tap_4 rfl ?_
  refine J_if_ne (tgt := 13) (q := 10) C dX5_tap_7 rfl (by decide) h (fun _ h => ?_) (fun _ h => ?_)
  · refine J_bipush (v := -4) (q := 12) C dX5_tap_10 rfl rfl ?_
    obtain ⟨rfl, rfl⟩ := Prod.mk.inj (Option.some.inj h)
    exact J_iret C dX5_tap_12
  · refine J_aload_n (q := 14) C dX5_tap_13 rfl rfl 0 rfl ?_
    refine J_iconst (v := 1 ) (q := 15) C dX5_tap_14 rfl rfl ?_
    obtain ⟨r2, ec2, h⟩ := bnd_of h
    refine J_callIV (q := 18) (As := [.int (1 : Int32)]) C (c_X5_isFull hap  ec2) ok_X5_isFull kM_X5_172 (by decide) rfl rfl rfl rfl rfl rfl ⟨Nat.le_of_ble_eq_true rfl, Nat.le_of_ble_eq_true rfl⟩ (Nat.le_of_ble_eq_true rfl) dX5_tap_15 rfl ?_
    refine J_ifeq_b (tgt := 24) (q := 21) C dX5_tap_18 rfl (by decide) h (fun _ h => ?_) (fun _ h => ?_)
    · refine J_bipush (v := -2) (q := 23) C dX5_tap_21 rfl rfl ?_
      obtain ⟨rfl, rfl⟩ := Prod.mk.inj (Option.some.inj h)
      exact J_iret C dX5_tap_23
    · refine J_aload_n (q := 25) C dX5_tap_24 rfl rfl 0 rfl ?_
      refine JC_g_X5_street (q := 28) C kF_X5_49 dX5_tap_25 rfl (fun hs3 => ?_)
      refine J_iconst (v := 1 ) (q := 29) C dX5_tap_28 rfl rfl ?_
      refine J_iconst (v := 0 ) (q := 30) C dX5_tap_29 rfl rfl ?_
      refine J_iconst (v := 0 ) (q := 31) C dX5_tap_30 rfl rfl ?_
      obtain ⟨σ4, ec4, h⟩ := bnd_of h
      refine J_callXV (q := 34) (As := [.int (1 : Int32), .int (0 : Int32), .int (0 : Int32)]) C (c_X4_does hap hs3 ec4) ok_X4_does kM_X5_175 (lt74S hs3) (celC_S hs3) rfl rfl rfl rfl rfl ⟨Nat.le_of_ble_eq_true rfl, Nat.le_of_ble_eq_true rfl⟩ (Nat.le_of_ble_eq_true rfl) dX5_tap_31 rfl ?_
      refine J_aload_n (q := 35) C dX5_tap_34 rfl rfl 0 rfl ?_
      refine JC_g_X5_street (q := 38) C kF_X5_49 dX5_tap_35 rfl (fun hs5 => ?_)
      refine J_aload_n (q := 39) C dX5_tap_38 rfl rfl 0 rfl ?_
      refine JC_g_X5_street (q := 42) C kF_X5_49 dX5_tap_39 rfl (fun hs6 => ?_)
      refine JC_g_X4_place (q := 45) C hs6 kF_X5_169 dX5_tap_42 rfl ?_
      obtain ⟨r7, ec7, h⟩ := bnd_of h
      refine J_callIV (q := 48) (As := [.int (gS σ4 (16 * (gR σ4 0) + 13))]) C (c_X4_isAwake hap hs5 ec7) ok_X4_isAwake kM_X5_182 (lt74S hs5) (celC_S hs5) rfl rfl rfl rfl rfl ⟨Nat.le_of_ble_eq_true rfl, Nat.le_of_ble_eq_true rfl⟩ (Nat.le_of_ble_eq_true rfl) dX5_tap_45 rfl ?_
      refine J_ifeq_b (tgt := 55) (q := 51) C dX5_tap_48 rfl (by decide) h (fun _ h => ?_) (fun _ h => ?_)
      · refine J_iconst (v := 1 ) (q := 52) C dX5_tap_51 rfl rfl ?_
        refine J_goto (tgt := 56) C dX5_tap_52 (by decide) ?_
        obtain ⟨rfl, rfl⟩ := Prod.mk.inj (Option.some.inj h)
        exact J_iret C dX5_tap_56
      · refine J_iconst (v := 0 ) (q := 56) C dX5_tap_55 rfl rfl ?_
        obtain ⟨rfl, rfl⟩ := Prod.mk.inj (Option.some.inj h)
        exact J_iret C dX5_tap_56
set_option maxHeartbeats 4000000 in
set_option maxRecDepth 100000 in
theorem c_X5_slate {l : Launch} {D : va_G} {cI cR : ClassId} {ad : Nat → Nat} (hap : apN 74 ad) {i1 : Int32} {i2 : Int32} {σ : Sg} {r : Int32} {σo : Sg}  (h : f_X5_slate i1 i2 σ = some (r, σo)) : MI l D (tysC cI cR) 74 ad (celC cI cR ad) okC yX5_slate cX5_slate 4 .int 6 145 [.ref (ad 0), .int i1, .int i2] σ r σo := by
  unfold f_X5_slate at h
  refine entI "WokenYears" hap (by decide +kernel) rfl (Nat.le_of_ble_eq_true rfl) (fun p e s m args below meth c C => ?_)
  refine J_sub (lv' := [(0, .ref (ad 0)), (1, .int i1), (2, .int i2)]) [0, 1, 2] rfl ?_
  refine J_aload_n (q := 1) C dX5_slate_0 rfl rfl 0 rfl ?_
  refine JC_g_X5_street (q := 4) C kF_X5_49 dX5_slate_1 rfl (fun hs1 => ?_)
  refine J_iload_n (q := 5) C dX5_slate_4 rfl rfl 1 rfl ?_
  obtain ⟨r2, ec2, h⟩ := bnd_of h
  refine J_callIV (q := 8) (As := [.int i1]) C (c_X4_isHouse hap hs1 ec2) ok_X4_isHouse kM_X5_132 (lt74S hs1) (celC_S hs1) rfl rfl rfl rfl rfl ⟨Nat.le_of_ble_eq_true rfl, Nat.le_of_ble_eq_true rfl⟩ (Nat.le_of_ble_eq_true rfl) dX5_slate_5 rfl ?_
  refine J_ifeq_b (tgt := 18) (q := 11) C dX5_slate_8 rfl (by decide) h (fun _ h => ?_) (fun _ h => ?_)
  · refine J_iload_n (q := 12) C dX5_slate_11 rfl rfl 2 rfl ?_
    obtain ⟨r3, ec3, h⟩ := bnd_of h
    refine J_callIS (q := 15) (As := [.int i2]) C (c_X5_isDate hap  ec3) ok_X5_isDate kM_X5_185 rfl rfl rfl ⟨Nat.le_of_ble_eq_true rfl, Nat.le_of_ble_eq_true rfl⟩ (Nat.le_of_ble_eq_true rfl) dX5_slate_12 rfl ?_
    refine J_ifne_b (tgt := 20) (q := 18) C dX5_slate_15 rfl (by decide) h (fun _ h => ?_) (fun _ h => ?_)
    · refine J_aload_n (q := 21) C dX5_slate_20 rfl rfl 0 rfl ?_
      refine JC_g_X5_street (q := 24) C kF_X5_49 dX5_slate_21 rfl (fun hs4 => ?_)
      refine JC_g_X4_dates (q := 27) C hs4 kF_X5_146 dX5_slate_24 rfl ?_
      refine J_iload_n (q := 28) C dX5_slate_27 rfl rfl 1 rfl ?_
      obtain ⟨r5, ec5, h⟩ := bnd_of h
      refine J_callIV (q := 31) (As := [.int i1]) C (c_X0_get hap (isI_st hs4 3 (by decide)) ec5) ok_X0_get kM_X5_68 (lt74I (isI_st hs4 3 (by decide))) (celC_I (isI_st hs4 3 (by decide))) rfl rfl rfl rfl rfl ⟨Nat.le_of_ble_eq_true rfl, Nat.le_of_ble_eq_true rfl⟩ (Nat.le_of_ble_eq_true rfl) dX5_slate_28 rfl ?_
      refine J_istore_n (q := 32) C dX5_slate_31 rfl rfl (by decide) rfl ?_
      refine J_iload_n (q := 33) C dX5_slate_32 rfl rfl 0 rfl ?_
      refine J_iload_n (q := 34) C dX5_slate_33 rfl rfl 3 rfl ?_
      refine J_icmp_ne (tgt := 40) (q := 37) C dX5_slate_34 rfl (by decide) h (fun _ h => ?_) (fun _ h => ?_)
      · refine J_bipush (v := -4) (q := 39) C dX5_slate_37 rfl rfl ?_
        obtain ⟨rfl, rfl⟩ := Prod.mk.inj (Option.some.inj h)
        exact J_iret C dX5_slate_39
      · refine J_aload_n (q := 41) C dX5_slate_40 rfl rfl 1 rfl ?_
        refine J_iconst (v := 1 ) (q := 42) C dX5_slate_41 rfl rfl ?_
        obtain ⟨r6, ec6, h⟩ := bnd_of h
        refine J_callIV (q := 45) (As := [.int (1 : Int32)]) C (c_X5_isFull hap  ec6) ok_X5_isFull kM_X5_172 (by decide) rfl rfl rfl rfl rfl rfl ⟨Nat.le_of_ble_eq_true rfl, Nat.le_of_ble_eq_true rfl⟩ (Nat.le_of_ble_eq_true rfl) dX5_slate_42 rfl ?_
        refine J_ifeq_b (tgt := 51) (q := 48) C dX5_slate_45 rfl (by decide) h (fun _ h => ?_) (fun _ h => ?_)
        · refine J_bipush (v := -2) (q := 50) C dX5_slate_48 rfl rfl ?_
          obtain ⟨rfl, rfl⟩ := Prod.mk.inj (Option.some.inj h)
          exact J_iret C dX5_slate_50
        · refine J_aload_n (q := 52) C dX5_slate_51 rfl rfl 1 rfl ?_
          refine JC_g_X5_street (q := 55) C kF_X5_49 dX5_slate_52 rfl (fun hs7 => ?_)
          refine J_iconst (v := 2 ) (q := 56) C dX5_slate_55 rfl rfl ?_
          refine J_iload_n (q := 57) C dX5_slate_56 rfl rfl 2 rfl ?_
          refine J_iload_n (q := 58) C dX5_slate_57 rfl rfl 3 rfl ?_
          obtain ⟨σ8, ec8, h⟩ := bnd_of h
          refine J_callXV (q := 61) (As := [.int (2 : Int32), .int i1, .int i2]) C (c_X4_does hap hs7 ec8) ok_X4_does kM_X5_175 (lt74S hs7) (celC_S hs7) rfl rfl rfl rfl rfl ⟨Nat.le_of_ble_eq_true rfl, Nat.le_of_ble_eq_true rfl⟩ (Nat.le_of_ble_eq_true rfl) dX5_slate_58 rfl ?_
          refine J_iload_n (q := 62) C dX5_slate_61 rfl rfl 0 rfl ?_
          obtain ⟨rfl, rfl⟩ := Prod.mk.inj (Option.some.inj h)
          exact J_iret C dX5_slate_62
    · refine J_iconst (v := -1 ) (q := 19) C dX5_slate_18 rfl rfl ?_
      obtain ⟨rfl, rfl⟩ := Prod.mk.inj (Option.some.inj h)
      exact J_iret C dX5_slate_19
  · refine J_iconst (v := -1 ) (q := 19) C dX5_slate_18 rfl rfl ?_
    obtain ⟨rfl, rfl⟩ := Prod.mk.inj (Option.some.inj h)
    exact J_iret C dX5_slate_19
set_option maxHeartbeats 4000000 in
set_option maxRecDepth 100000 in
theorem c_X5_frost {l : Launch} {D : va_G} {cI cR : ClassId} {ad : Nat → Nat} (hap : apN 74 ad) {i1 : Int32} {σ : Sg} {r : Int32} {σo : Sg}  (h : f_X5_frost i1 σ = some (r, σo)) : MI l D (tysC cI cR) 74 ad (celC cI cR ad) okC yX5_frost cX5_frost 2 .int 6 145 [.ref (ad 0), .int i1] σ r σo := by
  unfold f_X5_frost at h
  refine entI "WokenYears" hap (by decide +kernel) rfl (Nat.le_of_ble_eq_true rfl) (fun p e s m args below meth c C => ?_)
  refine J_sub (lv' := [(0, .ref (ad 0)), (1, .int i1)]) [0, 1] rfl ?_
  refine J_iload_n (q := 1) C dX5_frost_0 rfl rfl 1 rfl ?_
  refine J_iconst (v := 0 ) (q := 2) C dX5_frost_1 rfl rfl ?_
  refine J_iconst (v := 1 ) (q := 3) C dX5_frost_2 rfl rfl ?_
  obtain ⟨r1, ec1, h⟩ := bnd_of h
  refine J_callIS (q := 6) (As := [.int i1, .int (0 : Int32), .int (1 : Int32)]) C (c_X5_within hap  ec1) ok_X5_within kM_X5_75 rfl rfl rfl ⟨Nat.le_of_ble_eq_true rfl, Nat.le_of_ble_eq_true rfl⟩ (Nat.le_of_ble_eq_true rfl) dX5_frost_3 rfl ?_
  refine J_ifne_b (tgt := 11) (q := 9) C dX5_frost_6 rfl (by decide) h (fun _ h => ?_) (fun _ h => ?_)
  · refine J_aload_n (q := 12) C dX5_frost_11 rfl rfl 0 rfl ?_
    refine JC_g_X5_street (q := 15) C kF_X5_49 dX5_frost_12 rfl (fun hs2 => ?_)
    refine JC_g_X4_size (q := 18) C hs2 kF_X5_131 dX5_frost_15 rfl ?_
    refine J_if_eq (tgt := 32) (q := 21) C dX5_frost_18 rfl (by decide) h (fun _ h => ?_) (fun _ h => ?_)
    · refine J_bipush (v := -4) (q := 34) C dX5_frost_32 rfl rfl ?_
      obtain ⟨rfl, rfl⟩ := Prod.mk.inj (Option.some.inj h)
      exact J_iret C dX5_frost_34
    · refine J_aload_n (q := 22) C dX5_frost_21 rfl rfl 0 rfl ?_
      refine JC_g_X5_street (q := 25) C kF_X5_49 dX5_frost_22 rfl (fun hs3 => ?_)
      refine JC_g_X4_frost (q := 28) C hs3 kF_X5_152 dX5_frost_25 rfl ?_
      refine J_iload_n (q := 29) C dX5_frost_28 rfl rfl 1 rfl ?_
      refine J_icmp_ne (tgt := 35) (q := 32) C dX5_frost_29 rfl (by decide) h (fun _ h => ?_) (fun _ h => ?_)
      · refine J_bipush (v := -4) (q := 34) C dX5_frost_32 rfl rfl ?_
        obtain ⟨rfl, rfl⟩ := Prod.mk.inj (Option.some.inj h)
        exact J_iret C dX5_frost_34
      · refine J_aload_n (q := 36) C dX5_frost_35 rfl rfl 0 rfl ?_
        refine J_iconst (v := 1 ) (q := 37) C dX5_frost_36 rfl rfl ?_
        obtain ⟨r4, ec4, h⟩ := bnd_of h
        refine J_callIV (q := 40) (As := [.int (1 : Int32)]) C (c_X5_isFull hap  ec4) ok_X5_isFull kM_X5_172 (by decide) rfl rfl rfl rfl rfl rfl ⟨Nat.le_of_ble_eq_true rfl, Nat.le_of_ble_eq_true rfl⟩ (Nat.le_of_ble_eq_true rfl) dX5_frost_37 rfl ?_
        refine J_ifeq_b (tgt := 46) (q := 43) C dX5_frost_40 rfl (by decide) h (fun _ h => ?_) (fun _ h => ?_)
        · refine J_bipush (v := -2) (q := 45) C dX5_frost_43 rfl rfl ?_
          obtain ⟨rfl, rfl⟩ := Prod.mk.inj (Option.some.inj h)
          exact J_iret C dX5_frost_45
        · refine J_aload_n (q := 47) C dX5_frost_46 rfl rfl 0 rfl ?_
          refine JC_g_X5_street (q := 50) C kF_X5_49 dX5_frost_47 rfl (fun hs5 => ?_)
          refine J_iconst (v := 3 ) (q := 51) C dX5_frost_50 rfl rfl ?_
          refine J_iconst (v := 0 ) (q := 52) C dX5_frost_51 rfl rfl ?_
          refine J_iload_n (q := 53) C dX5_frost_52 rfl rfl 1 rfl ?_
          obtain ⟨σ6, ec6, h⟩ := bnd_of h
          refine J_callXV (q := 56) (As := [.int (3 : Int32), .int (0 : Int32), .int i1]) C (c_X4_does hap hs5 ec6) ok_X4_does kM_X5_175 (lt74S hs5) (celC_S hs5) rfl rfl rfl rfl rfl ⟨Nat.le_of_ble_eq_true rfl, Nat.le_of_ble_eq_true rfl⟩ (Nat.le_of_ble_eq_true rfl) dX5_frost_53 rfl ?_
          refine J_iload_n (q := 57) C dX5_frost_56 rfl rfl 1 rfl ?_
          obtain ⟨rfl, rfl⟩ := Prod.mk.inj (Option.some.inj h)
          exact J_iret C dX5_frost_57
  · refine J_iconst (v := -1 ) (q := 10) C dX5_frost_9 rfl rfl ?_
    obtain ⟨rfl, rfl⟩ := Prod.mk.inj (Option.some.inj h)
    exact J_iret C dX5_frost_10
