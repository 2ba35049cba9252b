set_option maxHeartbeats 4000000 in
set_option maxRecDepth 100000 in
theorem c_X0_has {l : Launch} {D : va_G} {cI cR : ClassId} {ad : Nat → Nat} (hap : apN 77 ad) {g0 : Nat} {i1 : Int32} {σ : Sg} {r : Bool} (ho0 : isI g0) (h : f_X0_has g0 i1 σ = some r) : MI l D (tysC cI cR) 77 ad (celC cI cR ad) okC yX0_has cX0_has 2 .boolean 1 30 [.ref (ad g0), .int i1] σ (b2i r) σ := by
  unfold f_X0_has at h
  refine entI "WokenYears$Ints" hap (by decide +kernel) rfl (Nat.le_of_ble_eq_true rfl) (fun p e s m args below meth c C => ?_)
  refine J_sub (lv' := [(0, .ref (ad g0)), (1, .int i1)]) [0, 1] rfl ?_
  refine J_iload_n (q := 1) C dX0_has_0 rfl rfl 1 rfl ?_
  refine J_if_lt (tgt := 25) (q := 4) C dX0_has_1 rfl (by decide) h (fun _ h => ?_) (fun _ h => ?_)
  · refine J_iconst (v := 0 ) (q := 26) C dX0_has_25 rfl rfl ?_
    obtain rfl := Option.some.inj h
    exact J_zret (b := false) C dX0_has_26
  · refine J_iload_n (q := 5) C dX0_has_4 rfl rfl 1 rfl ?_
    refine J_aload_n (q := 6) C dX0_has_5 rfl rfl 0 rfl ?_
    refine JC_g_X0_size (q := 9) C ho0 kF_X0_7 dX0_has_6 rfl ?_
    refine J_icmp_ge (tgt := 25) (q := 12) C dX0_has_9 rfl (by decide) h (fun _ h => ?_) (fun _ h => ?_)
    · refine J_iconst (v := 0 ) (q := 26) C dX0_has_25 rfl rfl ?_
      obtain rfl := Option.some.inj h
      exact J_zret (b := false) C dX0_has_26
    · refine J_iload_n (q := 13) C dX0_has_12 rfl rfl 1 rfl ?_
      refine J_aload_n (q := 14) C dX0_has_13 rfl rfl 0 rfl ?_
      refine JC_g_X0_cells (q := 17) C ho0 kF_X0_19 dX0_has_14 rfl ?_
      refine JC_alen (q := 18) C ho0 dX0_has_17 rfl ?_
      refine J_icmp_ge (tgt := 25) (q := 21) C dX0_has_18 rfl (by decide) h (fun _ h => ?_) (fun _ h => ?_)
      · refine J_iconst (v := 0 ) (q := 26) C dX0_has_25 rfl rfl ?_
        obtain rfl := Option.some.inj h
        exact J_zret (b := false) C dX0_has_26
      · refine J_iconst (v := 1 ) (q := 22) C dX0_has_21 rfl rfl ?_
        refine J_goto (tgt := 26) C dX0_has_22 (by decide) ?_
        obtain rfl := Option.some.inj h
        exact J_zret (b := true) C dX0_has_26
set_option maxHeartbeats 4000000 in
set_option maxRecDepth 100000 in
theorem c_X0_get {l : Launch} {D : va_G} {cI cR : ClassId} {ad : Nat → Nat} (hap : apN 77 ad) {g0 : Nat} {i1 : Int32} {σ : Sg} {r : Int32} (ho0 : isI g0) (h : f_X0_get g0 i1 σ = some r) : MI l D (tysC cI cR) 77 ad (celC cI cR ad) okC yX0_get cX0_get 2 .int 1 30 [.ref (ad g0), .int i1] σ r σ := by
  unfold f_X0_get at h
  refine entI "WokenYears$Ints" hap (by decide +kernel) rfl (Nat.le_of_ble_eq_true rfl) (fun p e s m args below meth c C => ?_)
  refine J_sub (lv' := [(0, .ref (ad g0)), (1, .int i1)]) [0, 1] rfl ?_
  refine J_iload_n (q := 1) C dX0_get_0 rfl rfl 1 rfl ?_
  refine J_if_lt (tgt := 30) (q := 4) C dX0_get_1 rfl (by decide) h (fun _ h => ?_) (fun _ h => ?_)
  · refine J_iconst (v := 0 ) (q := 31) C dX0_get_30 rfl rfl ?_
    obtain rfl := Option.some.inj h
    exact J_iret C dX0_get_31
  · refine J_iload_n (q := 5) C dX0_get_4 rfl rfl 1 rfl ?_
    refine J_aload_n (q := 6) C dX0_get_5 rfl rfl 0 rfl ?_
    refine JC_g_X0_size (q := 9) C ho0 kF_X0_7 dX0_get_6 rfl ?_
    refine J_icmp_ge (tgt := 30) (q := 12) C dX0_get_9 rfl (by decide) h (fun _ h => ?_) (fun _ h => ?_)
    · refine J_iconst (v := 0 ) (q := 31) C dX0_get_30 rfl rfl ?_
      obtain rfl := Option.some.inj h
      exact J_iret C dX0_get_31
    · refine J_iload_n (q := 13) C dX0_get_12 rfl rfl 1 rfl ?_
      refine J_aload_n (q := 14) C dX0_get_13 rfl rfl 0 rfl ?_
      refine JC_g_X0_cells (q := 17) C ho0 kF_X0_19 dX0_get_14 rfl ?_
      refine JC_alen (q := 18) C ho0 dX0_get_17 rfl ?_
      refine J_icmp_ge (tgt := 30) (q := 21) C dX0_get_18 rfl (by decide) h (fun _ h => ?_) (fun _ h => ?_)
      · refine J_iconst (v := 0 ) (q := 31) C dX0_get_30 rfl rfl ?_
        obtain rfl := Option.some.inj h
        exact J_iret C dX0_get_31
      · refine J_aload_n (q := 22) C dX0_get_21 rfl rfl 0 rfl ?_
        refine JC_g_X0_cells (q := 25) C ho0 kF_X0_19 dX0_get_22 rfl ?_
        refine J_iload_n (q := 26) C dX0_get_25 rfl rfl 1 rfl ?_
        refine JC_iald (q := 27) C ho0 h dX0_get_26 rfl (fun h => ?_)
        refine J_goto (tgt := 31) C dX0_get_27 (by decide) ?_
        obtain rfl := Option.some.inj h
        exact J_iret C dX0_get_31
set_option maxHeartbeats 4000000 in
set_option maxRecDepth 100000 in
theorem c_X0_set {l : Launch} {D : va_G} {cI cR : ClassId} {ad : Nat → Nat} (hap : apN 77 ad) {g0 : Nat} {i1 : Int32} {i2 : Int32} {σ : Sg} {σo : Sg} (ho0 : isI g0) (h : f_X0_set g0 i1 i2 σ = some σo) : MV l D (tysC cI cR) 77 ad (celC cI cR ad) okC yX0_set cX0_set 3 1 30 [.ref (ad g0), .int i1, .int i2] σ σo := by
  unfold f_X0_set at h
  refine entV "WokenYears$Ints" hap (by decide +kernel) rfl (Nat.le_of_ble_eq_true rfl) (fun p e s m args below meth c C => ?_)
  refine J_sub (lv' := [(0, .ref (ad g0)), (1, .int i1), (2, .int i2)]) [0, 1, 2] rfl ?_
  refine J_iload_n (q := 1) C dX0_set_0 rfl rfl 1 rfl ?_
  refine J_if_lt (tgt := 28) (q := 4) C dX0_set_1 rfl (by decide) h (fun _ h => ?_) (fun _ h => ?_)
  · obtain rfl := Option.some.inj h
    exact J_vret C dX0_set_28
  · refine J_iload_n (q := 5) C dX0_set_4 rfl rfl 1 rfl ?_
    refine J_aload_n (q := 6) C dX0_set_5 rfl rfl 0 rfl ?_
    refine JC_g_X0_size (q := 9) C ho0 kF_X0_7 dX0_set_6 rfl ?_
    refine J_icmp_ge (tgt := 28) (q := 12) C dX0_set_9 rfl (by decide) h (fun _ h => ?_) (fun _ h => ?_)
    · obtain rfl := Option.some.inj h
      exact J_vret C dX0_set_28
    · refine J_iload_n (q := 13) C dX0_set_12 rfl rfl 1 rfl ?_
      refine J_aload_n (q := 14) C dX0_set_13 rfl rfl 0 rfl ?_
      refine JC_g_X0_cells (q := 17) C ho0 kF_X0_19 dX0_set_14 rfl ?_
      refine JC_alen (q := 18) C ho0 dX0_set_17 rfl ?_
      refine J_icmp_ge (tgt := 28) (q := 21) C dX0_set_18 rfl (by decide) h (fun _ h => ?_) (fun _ h => ?_)
      · obtain rfl := Option.some.inj h
        exact J_vret C dX0_set_28
      · refine J_aload_n (q := 22) C dX0_set_21 rfl rfl 0 rfl ?_
        refine JC_g_X0_cells (q := 25) C ho0 kF_X0_19 dX0_set_22 rfl ?_
        refine J_iload_n (q := 26) C dX0_set_25 rfl rfl 1 rfl ?_
        refine J_iload_n (q := 27) C dX0_set_26 rfl rfl 2 rfl ?_
        refine JC_iast (q := 28) C ho0 h dX0_set_27 rfl (fun h => ?_)
        refine jn_elim h (fun σ1 eσ1 h => ?_)
        rw [← eσ1]
        obtain rfl := Option.some.inj h
        exact J_vret C dX0_set_28
set_option maxHeartbeats 4000000 in
set_option maxRecDepth 100000 in
theorem cl_X0_fill_19 {p : Program} {l : Launch} {e : Env} {s : State} {m : MethodId} {args : Array Value} {below : List Frame} {meth : Method} {c : Code} {D : va_G} {cI cR : ClassId} {ad : Nat → Nat} (hap : apN 77 ad) (C : Cx p s m args meth c cX0_fill 4 "WokenYears$Ints" D (tysC cI cR) 77 ad (none)) {b0 : Nat} {a2 : Int32} (hb0 : isI b0) {k49 : Sg → Option Sg} (σo : Sg)  (hk49 : ∀ (σ1 : Sg), k49 σ1 = some σo → Jd p l e (rmF 1 40) s m args below meth c D 77 ad (celC cI cR ad) okC 4 (MQ below (QV D (tysC cI cR) 77 ad (celC cI cR ad) okC σo) args s 0 0 (inA 77 ad)) 49 [] [] σ1) : ∀ (n : Nat) (x3 : Int32) (σx : Sg), l_X0_fill_19 b0 a2 k49 n x3 σx = some σo → Jd p l e (rmF 1 40) s m args below meth c D 77 ad (celC cI cR ad) okC 4 (MQ below (QV D (tysC cI cR) 77 ad (celC cI cR ad) okC σo) args s 0 0 (inA 77 ad)) 19 [(0, .ref (ad b0)), (2, .int a2), (3, .int x3)] [] σx := by
  intro n
  induction n with
  | zero => intro x3 σx h; cases h
  | succ n ih =>
    intro x3 σx h
    unfold l_X0_fill_19 at h
    refine J_iload_n (q := 20) C dX0_fill_19 rfl rfl 2 rfl ?_
    refine J_aload_n (q := 21) C dX0_fill_20 rfl rfl 0 rfl ?_
    refine JC_g_X0_size (q := 24) C hb0 kF_X0_7 dX0_fill_21 rfl ?_
    refine J_icmp_ge (tgt := 49) (q := 27) C dX0_fill_24 rfl (by decide) h (fun _ h => ?_) (fun _ h => ?_)
    · refine J_sub [] rfl ?_
      exact hk49 _ h
    · refine J_iload_n (q := 28) C dX0_fill_27 rfl rfl 2 rfl ?_
      refine J_aload_n (q := 29) C dX0_fill_28 rfl rfl 0 rfl ?_
      refine JC_g_X0_cells (q := 32) C hb0 kF_X0_19 dX0_fill_29 rfl ?_
      refine JC_alen (q := 33) C hb0 dX0_fill_32 rfl ?_
      refine J_icmp_ge (tgt := 49) (q := 36) C dX0_fill_33 rfl (by decide) h (fun _ h => ?_) (fun _ h => ?_)
      · refine J_sub [] rfl ?_
        exact hk49 _ h
      · refine J_aload_n (q := 37) C dX0_fill_36 rfl rfl 0 rfl ?_
        refine JC_g_X0_cells (q := 40) C hb0 kF_X0_19 dX0_fill_37 rfl ?_
        refine J_iload_n (q := 41) C dX0_fill_40 rfl rfl 2 rfl ?_
        refine J_iload_n (q := 42) C dX0_fill_41 rfl rfl 1 rfl ?_
        refine JC_iast (q := 43) C hb0 h dX0_fill_42 rfl (fun h => ?_)
        refine jn_elim h (fun σ2 eσ2 h => ?_)
        rw [← eσ2]
        refine jn_elim h (fun y3 ey3 h => ?_)
        refine J_iinc (v := y3) (q := 46) C dX0_fill_43 rfl 2 rfl (by rw [ey3]; rfl) (by decide) rfl ?_
        refine J_goto (tgt := 19) C dX0_fill_46 (by decide) ?_
        refine J_sub [1, 2, 0] rfl ?_
        exact ih _ _ h
set_option maxHeartbeats 4000000 in
set_option maxRecDepth 100000 in
theorem c_X0_fill {l : Launch} {D : va_G} {cI cR : ClassId} {ad : Nat → Nat} (hap : apN 77 ad) {g0 : Nat} {i1 : Int32} {i2 : Int32} {σ : Sg} {σo : Sg} (ho0 : isI g0) (h : f_X0_fill g0 i1 i2 σ = some σo) : MV l D (tysC cI cR) 77 ad (celC cI cR ad) okC yX0_fill cX0_fill 4 1 40 [.ref (ad g0), .int i1, .int i2] σ σo := by
  unfold f_X0_fill at h
  refine entV "WokenYears$Ints" hap (by decide +kernel) rfl (Nat.le_of_ble_eq_true rfl) (fun p e s m args below meth c C => ?_)
  refine J_sub (lv' := [(0, .ref (ad g0)), (1, .int i1), (2, .int i2)]) [0, 1, 2] rfl ?_
  refine J_aload_n (q := 1) C dX0_fill_0 rfl rfl 0 rfl ?_
  refine J_iconst (v := 0 ) (q := 2) C dX0_fill_1 rfl rfl ?_
  refine J_iload_n (q := 3) C dX0_fill_2 rfl rfl 1 rfl ?_
  refine J_aload_n (q := 4) C dX0_fill_3 rfl rfl 0 rfl ?_
  refine JC_g_X0_cells (q := 7) C ho0 kF_X0_19 dX0_fill_4 rfl ?_
  refine JC_alen (q := 8) C ho0 dX0_fill_7 rfl ?_
  refine J_mmin (q := 11) C kM_X0_23 kMath_min_s kMath_min_c (Nat.le_of_ble_eq_true rfl) (Nat.le_of_ble_eq_true rfl) dX0_fill_8 rfl ?_
  refine J_mmax (q := 14) C kM_X0_13 kMath_max_s kMath_max_c (Nat.le_of_ble_eq_true rfl) (Nat.le_of_ble_eq_true rfl) dX0_fill_11 rfl ?_
  refine JC_p_X0_size (q := 17) C ho0 kF_X0_7 dX0_fill_14 rfl ?_
  refine jn_elim h (fun σ1 eσ1 h => ?_)
  rw [← eσ1]
  refine J_iconst (v := 0 ) (q := 18) C dX0_fill_17 rfl rfl ?_
  refine J_istore_n (q := 19) C dX0_fill_18 rfl rfl (by decide) rfl ?_
  refine J_sub [1, 3, 0] rfl ?_
  refine cl_X0_fill_19 hap C ho0 σo  (fun σv49 h => ?_) FU _ _ h
  · obtain rfl := Option.some.inj h
    exact J_vret C dX0_fill_49
set_option maxHeartbeats 4000000 in
set_option maxRecDepth 100000 in
theorem c_X0_add {l : Launch} {D : va_G} {cI cR : ClassId} {ad : Nat → Nat} (hap : apN 77 ad) {g0 : Nat} {i1 : Int32} {σ : Sg} {σo : Sg} (ho0 : isI g0) (h : f_X0_add g0 i1 σ = some σo) : MV l D (tysC cI cR) 77 ad (celC cI cR ad) okC yX0_add cX0_add 2 1 30 [.ref (ad g0), .int i1] σ σo := by
  unfold f_X0_add at h
  refine entV "WokenYears$Ints" hap (by decide +kernel) rfl (Nat.le_of_ble_eq_true rfl) (fun p e s m args below meth c C => ?_)
  refine J_sub (lv' := [(0, .ref (ad g0)), (1, .int i1)]) [0, 1] rfl ?_
  refine J_aload_n (q := 1) C dX0_add_0 rfl rfl 0 rfl ?_
  refine JC_g_X0_size (q := 4) C ho0 kF_X0_7 dX0_add_1 rfl ?_
  refine J_if_lt (tgt := 39) (q := 7) C dX0_add_4 rfl (by decide) h (fun _ h => ?_) (fun _ h => ?_)
  · obtain rfl := Option.some.inj h
    exact J_vret C dX0_add_39
  · refine J_aload_n (q := 8) C dX0_add_7 rfl rfl 0 rfl ?_
    refine JC_g_X0_size (q := 11) C ho0 kF_X0_7 dX0_add_8 rfl ?_
    refine J_aload_n (q := 12) C dX0_add_11 rfl rfl 0 rfl ?_
    refine JC_g_X0_cells (q := 15) C ho0 kF_X0_19 dX0_add_12 rfl ?_
    refine JC_alen (q := 16) C ho0 dX0_add_15 rfl ?_
    refine J_icmp_ge (tgt := 39) (q := 19) C dX0_add_16 rfl (by decide) h (fun _ h => ?_) (fun _ h => ?_)
    · obtain rfl := Option.some.inj h
      exact J_vret C dX0_add_39
    · refine J_aload_n (q := 20) C dX0_add_19 rfl rfl 0 rfl ?_
      refine JC_g_X0_cells (q := 23) C ho0 kF_X0_19 dX0_add_20 rfl ?_
      refine J_aload_n (q := 24) C dX0_add_23 rfl rfl 0 rfl ?_
      refine JC_g_X0_size (q := 27) C ho0 kF_X0_7 dX0_add_24 rfl ?_
      refine J_iload_n (q := 28) C dX0_add_27 rfl rfl 1 rfl ?_
      refine JC_iast (q := 29) C ho0 h dX0_add_28 rfl (fun h => ?_)
      refine jn_elim h (fun σ1 eσ1 h => ?_)
      rw [← eσ1]
      refine J_aload_n (q := 30) C dX0_add_29 rfl rfl 0 rfl ?_
      refine J_dup (q := 31) C dX0_add_30 rfl rfl ?_
      refine JC_g_X0_size (q := 34) C ho0 kF_X0_7 dX0_add_31 rfl ?_
      refine J_iconst (v := 1 ) (q := 35) C dX0_add_34 rfl rfl ?_
      refine J_iadd (q := 36) C dX0_add_35 rfl ?_
      refine JC_p_X0_size (q := 39) C ho0 kF_X0_7 dX0_add_36 rfl ?_
      refine jn_elim h (fun σ2 eσ2 h => ?_)
      rw [← eσ2]
      obtain rfl := Option.some.inj h
      exact J_vret C dX0_add_39
set_option maxHeartbeats 4000000 in
set_option maxRecDepth 100000 in
theorem c_X0_cut {l : Launch} {D : va_G} {cI cR : ClassId} {ad : Nat → Nat} (hap : apN 77 ad) {g0 : Nat} {i1 : Int32} {σ : Sg} {σo : Sg} (ho0 : isI g0) (h : f_X0_cut g0 i1 σ = some σo) : MV l D (tysC cI cR) 77 ad (celC cI cR ad) okC yX0_cut cX0_cut 2 1 40 [.ref (ad g0), .int i1] σ σo := by
  unfold f_X0_cut at h
  refine entV "WokenYears$Ints" hap (by decide +kernel) rfl (Nat.le_of_ble_eq_true rfl) (fun p e s m args below meth c C => ?_)
  refine J_sub (lv' := [(0, .ref (ad g0)), (1, .int i1)]) [0, 1] rfl ?_
  refine J_aload_n (q := 1) C dX0_cut_0 rfl rfl 0 rfl ?_
  refine J_aload_n (q := 2) C dX0_cut_1 rfl rfl 0 rfl ?_
  refine JC_g_X0_size (q := 5) C ho0 kF_X0_7 dX0_cut_2 rfl ?_
  refine J_iconst (v := 0 ) (q := 6) C dX0_cut_5 rfl rfl ?_
  refine J_iload_n (q := 7) C dX0_cut_6 rfl rfl 1 rfl ?_
  refine J_mmax (q := 10) C kM_X0_13 kMath_max_s kMath_max_c (Nat.le_of_ble_eq_true rfl) (Nat.le_of_ble_eq_true rfl) dX0_cut_7 rfl ?_
  refine J_mmin (q := 13) C kM_X0_23 kMath_min_s kMath_min_c (Nat.le_of_ble_eq_true rfl) (Nat.le_of_ble_eq_true rfl) dX0_cut_10 rfl ?_
  refine JC_p_X0_size (q := 16) C ho0 kF_X0_7 dX0_cut_13 rfl ?_
  refine jn_elim h (fun σ1 eσ1 h => ?_)
  rw [← eσ1]
  obtain rfl := Option.some.inj h
  exact J_vret C dX0_cut_16
set_option maxHeartbeats 4000000 in
set_option maxRecDepth 100000 in
theorem c_X0_drop {l : Launch} {D : va_G} {cI cR : ClassId} {ad : Nat → Nat} (hap : apN 77 ad) {g0 : Nat} {σ : Sg} {σo : Sg} (ho0 : isI g0) (h : f_X0_drop g0 σ = some σo) : MV l D (tysC cI cR) 77 ad (celC cI cR ad) okC yX0_drop cX0_drop 1 1 30 [.ref (ad g0)] σ σo := by
  unfold f_X0_drop at h
  refine entV "WokenYears$Ints" hap (by decide +kernel) rfl (Nat.le_of_ble_eq_true rfl) (fun p e s m args below meth c C => ?_)
  refine J_sub (lv' := [(0, .ref (ad g0))]) [0] rfl ?_
  refine J_aload_n (q := 1) C dX0_drop_0 rfl rfl 0 rfl ?_
  refine J_iconst (v := -1 ) (q := 2) C dX0_drop_1 rfl rfl ?_
  refine JC_p_X0_size (q := 5) C ho0 kF_X0_7 dX0_drop_2 rfl ?_
  refine jn_elim h (fun σ1 eσ1 h => ?_)
  rw [← eσ1]
  obtain rfl := Option.some.inj h
  exact J_vret C dX0_drop_5
set_option maxHeartbeats 4000000 in
set_option maxRecDepth 100000 in
theorem c_X0_spans {l : Launch} {D : va_G} {cI cR : ClassId} {ad : Nat → Nat} (hap : apN 77 ad) {g0 : Nat} {i1 : Int32} {i2 : Int32} {σ : Sg} {r : Bool} (ho0 : isI g0) (h : f_X0_spans g0 i1 i2 σ = some r) : MI l D (tysC cI cR) 77 ad (celC cI cR ad) okC yX0_spans cX0_spans 3 .boolean 1 30 [.ref (ad g0), .int i1, .int i2] σ (b2i r) σ := by
  unfold f_X0_spans at h
  refine entI "WokenYears$Ints" hap (by decide +kernel) rfl (Nat.le_of_ble_eq_true rfl) (fun p e s m args below meth c C => ?_)
  refine J_sub (lv' := [(0, .ref (ad g0)), (1, .int i1), (2, .int i2)]) [0, 1, 2] rfl ?_
  refine J_iload_n (q := 1) C dX0_spans_0 rfl rfl 1 rfl ?_
  refine J_if_lt (tgt := 34) (q := 4) C dX0_spans_1 rfl (by decide) h (fun _ h => ?_) (fun _ h => ?_)
  · refine J_iconst (v := 0 ) (q := 35) C dX0_spans_34 rfl rfl ?_
    obtain rfl := Option.some.inj h
    exact J_zret (b := false) C dX0_spans_35
  · refine J_iload_n (q := 5) C dX0_spans_4 rfl rfl 2 rfl ?_
    refine J_if_lt (tgt := 34) (q := 8) C dX0_spans_5 rfl (by decide) h (fun _ h => ?_) (fun _ h => ?_)
    · refine J_iconst (v := 0 ) (q := 35) C dX0_spans_34 rfl rfl ?_
      obtain rfl := Option.some.inj h
      exact J_zret (b := false) C dX0_spans_35
    · refine J_iload_n (q := 9) C dX0_spans_8 rfl rfl 1 rfl ?_
      refine J_aload_n (q := 10) C dX0_spans_9 rfl rfl 0 rfl ?_
      refine JC_g_X0_size (q := 13) C ho0 kF_X0_7 dX0_spans_10 rfl ?_
      refine J_iload_n (q := 14) C dX0_spans_13 rfl rfl 2 rfl ?_
      refine J_isub (q := 15) C dX0_spans_14 rfl ?_
      refine J_icmp_gt (tgt := 34) (q := 18) C dX0_spans_15 rfl (by decide) h (fun _ h => ?_) (fun _ h => ?_)
      · refine J_iconst (v := 0 ) (q := 35) C dX0_spans_34 rfl rfl ?_
        obtain rfl := Option.some.inj h
        exact J_zret (b := false) C dX0_spans_35
      · refine J_aload_n (q := 19) C dX0_spans_18 rfl rfl 0 rfl ?_
        refine JC_g_X0_size (q := 22) C ho0 kF_X0_7 dX0_spans_19 rfl ?_
        refine J_aload_n (q := 23) C dX0_spans_22 rfl rfl 0 rfl ?_
        refine JC_g_X0_cells (q := 26) C ho0 kF_X0_19 dX0_spans_23 rfl ?_
        refine JC_alen (q := 27) C ho0 dX0_spans_26 rfl ?_
        refine J_icmp_gt (tgt := 34) (q := 30) C dX0_spans_27 rfl (by decide) h (fun _ h => ?_) (fun _ h => ?_)
        · refine J_iconst (v := 0 ) (q := 35) C dX0_spans_34 rfl rfl ?_
          obtain rfl := Option.some.inj h
          exact J_zret (b := false) C dX0_spans_35
        · refine J_iconst (v := 1 ) (q := 31) C dX0_spans_30 rfl rfl ?_
          refine J_goto (tgt := 35) C dX0_spans_31 (by decide) ?_
          obtain rfl := Option.some.inj h
          exact J_zret (b := true) C dX0_spans_35
set_option maxHeartbeats 4000000 in
set_option maxRecDepth 100000 in
theorem c_X0_copyOut {l : Launch} {D : va_G} {cI cR : ClassId} {ad : Nat → Nat} (hap : apN 77 ad) {g0 : Nat} {i1 : Int32} {g2 : Nat} {i3 : Int32} {i4 : Int32} {σ : Sg} {σo : Sg} (ho0 : isI g0) (ho2 : isI g2) (h : f_X0_copyOut g0 i1 g2 i3 i4 σ = some σo) : MV l D (tysC cI cR) 77 ad (celC cI cR ad) okC yX0_copyOut cX0_copyOut 5 2 60 [.ref (ad g0), .int i1, .ref (ad g2), .int i3, .int i4] σ σo := by
  unfold f_X0_copyOut at h
  refine entV "WokenYears$Ints" hap (by decide +kernel) rfl (Nat.le_of_ble_eq_true rfl) (fun p e s m args below meth c C => ?_)
  refine J_sub (lv' := [(0, .ref (ad g0)), (1, .int i1), (2, .ref (ad g2)), (3, .int i3), (4, .int i4)]) [0, 1, 2, 3, 4] rfl ?_
  refine J_aload_n (q := 1) C dX0_copyOut_0 rfl rfl 0 rfl ?_
  refine J_iload_n (q := 2) C dX0_copyOut_1 rfl rfl 1 rfl ?_
  refine J_iload (q := 4) C dX0_copyOut_2 rfl 4 rfl ?_
  obtain ⟨r1, ec1, h⟩ := bnd_of h
  refine J_callIV (q := 7) (As := [.int i1, .int i4]) C (c_X0_spans hap ho0 ec1) ok_X0_spans kM_X0_26 (lt77I ho0) (celC_I ho0) rfl rfl rfl rfl rfl ⟨Nat.le_of_ble_eq_true rfl, Nat.le_of_ble_eq_true rfl⟩ (Nat.le_of_ble_eq_true rfl) dX0_copyOut_4 rfl ?_
  refine J_ifeq_b (tgt := 35) (q := 10) C dX0_copyOut_7 rfl (by decide) h (fun _ h => ?_) (fun _ h => ?_)
  · refine J_aload_n (q := 11) C dX0_copyOut_10 rfl rfl 2 rfl ?_
    refine J_iload_n (q := 12) C dX0_copyOut_11 rfl rfl 3 rfl ?_
    refine J_iload (q := 14) C dX0_copyOut_12 rfl 4 rfl ?_
    obtain ⟨r2, ec2, h⟩ := bnd_of h
    refine J_callIV (q := 17) (As := [.int i3, .int i4]) C (c_X0_spans hap ho2 ec2) ok_X0_spans kM_X0_26 (lt77I ho2) (celC_I ho2) rfl rfl rfl rfl rfl ⟨Nat.le_of_ble_eq_true rfl, Nat.le_of_ble_eq_true rfl⟩ (Nat.le_of_ble_eq_true rfl) dX0_copyOut_14 rfl ?_
    refine J_ifeq_b (tgt := 35) (q := 20) C dX0_copyOut_17 rfl (by decide) h (fun _ h => ?_) (fun _ h => ?_)
    · refine J_aload_n (q := 21) C dX0_copyOut_20 rfl rfl 0 rfl ?_
      refine JC_g_X0_cells (q := 24) C ho0 kF_X0_19 dX0_copyOut_21 rfl ?_
      refine J_iload_n (q := 25) C dX0_copyOut_24 rfl rfl 1 rfl ?_
      refine J_aload_n (q := 26) C dX0_copyOut_25 rfl rfl 2 rfl ?_
      refine JC_g_X0_cells (q := 29) C ho2 kF_X0_19 dX0_copyOut_26 rfl ?_
      refine J_iload_n (q := 30) C dX0_copyOut_29 rfl rfl 3 rfl ?_
      refine J_iload (q := 32) C dX0_copyOut_30 rfl 4 rfl ?_
      refine JC_acopy (q := 35) C kM_X0_30 kArc_n kArc_s ho0 ho2 h (Nat.le_of_ble_eq_true rfl) (Nat.le_of_ble_eq_true rfl) dX0_copyOut_32 rfl (fun h => ?_)
      refine jn_elim h (fun σ3 eσ3 h => ?_)
      rw [← eσ3]
      obtain rfl := Option.some.inj h
      exact J_vret C dX0_copyOut_35
    · obtain rfl := Option.some.inj h
      exact J_vret C dX0_copyOut_35
  · obtain rfl := Option.some.inj h
    exact J_vret C dX0_copyOut_35
set_option maxHeartbeats 4000000 in
set_option maxRecDepth 100000 in
theorem c_X0_takeFrom {l : Launch} {D : va_G} {cI cR : ClassId} {ad : Nat → Nat} (hap : apN 77 ad) {g0 : Nat} {g1 : Nat} {σ : Sg} {σo : Sg} (ho0 : isI g0) (ho1 : isI g1) (h : f_X0_takeFrom g0 g1 σ = some σo) : MV l D (tysC cI cR) 77 ad (celC cI cR ad) okC yX0_takeFrom cX0_takeFrom 2 3 84 [.ref (ad g0), .ref (ad g1)] σ σo := by
  unfold f_X0_takeFrom at h
  refine entV "WokenYears$Ints" hap (by decide +kernel) rfl (Nat.le_of_ble_eq_true rfl) (fun p e s m args below meth c C => ?_)
  refine J_sub (lv' := [(0, .ref (ad g0)), (1, .ref (ad g1))]) [0, 1] rfl ?_
  refine J_aload_n (q := 1) C dX0_takeFrom_0 rfl rfl 0 rfl ?_
  refine J_aload_n (q := 2) C dX0_takeFrom_1 rfl rfl 1 rfl ?_
  refine JC_g_X0_size (q := 5) C ho1 kF_X0_7 dX0_takeFrom_2 rfl ?_
  refine J_iconst (v := 0 ) (q := 6) C dX0_takeFrom_5 rfl rfl ?_
  obtain ⟨σ1, ec1, h⟩ := bnd_of h
  refine J_callXV (q := 9) (As := [.int (gS σ (16 * g1 + 1)), .int (0 : Int32)]) C (c_X0_fill hap ho0 ec1) ok_X0_fill kM_X0_36 (lt77I ho0) (celC_I ho0) rfl rfl rfl rfl rfl ⟨Nat.le_of_ble_eq_true rfl, Nat.le_of_ble_eq_true rfl⟩ (Nat.le_of_ble_eq_true rfl) dX0_takeFrom_6 rfl ?_
  refine J_aload_n (q := 10) C dX0_takeFrom_9 rfl rfl 1 rfl ?_
  refine J_iconst (v := 0 ) (q := 11) C dX0_takeFrom_10 rfl rfl ?_
  refine J_aload_n (q := 12) C dX0_takeFrom_11 rfl rfl 0 rfl ?_
  refine J_iconst (v := 0 ) (q := 13) C dX0_takeFrom_12 rfl rfl ?_
  refine J_aload_n (q := 14) C dX0_takeFrom_13 rfl rfl 0 rfl ?_
  refine JC_g_X0_size (q := 17) C ho0 kF_X0_7 dX0_takeFrom_14 rfl ?_
  obtain ⟨σ2, ec2, h⟩ := bnd_of h
  refine J_callXV (q := 20) (As := [.int (0 : Int32), .ref (ad g0), .int (0 : Int32), .int (gS σ1 (16 * g0 + 1))]) C (c_X0_copyOut hap ho1 ho0 ec2) ok_X0_copyOut kM_X0_40 (lt77I ho1) (celC_I ho1) rfl rfl rfl rfl rfl ⟨Nat.le_of_ble_eq_true rfl, Nat.le_of_ble_eq_true rfl⟩ (Nat.le_of_ble_eq_true rfl) dX0_takeFrom_17 rfl ?_
  obtain rfl := Option.some.inj h
  exact J_vret C dX0_takeFrom_20
set_option maxHeartbeats 4000000 in
set_option maxRecDepth 100000 in
theorem c_X1_byLetter {l : Launch} {D : va_G} {cI cR : ClassId} {ad : Nat → Nat} (hap : apN 77 ad) {i0 : Int32} {σ : Sg} {r : Int32}  (h : f_X1_byLetter i0 = some r) : MI l D (tysC cI cR) 77 ad (celC cI cR ad) okC yX1_byLetter cX1_byLetter 1 .int 1 30 [.int i0] σ r σ := by
  unfold f_X1_byLetter at h
  refine entI "WokenYears$Kinds" hap (by decide +kernel) rfl (Nat.le_of_ble_eq_true rfl) (fun p e s m args below meth c C => ?_)
  refine J_sub (lv' := [(0, .int i0)]) [0] rfl ?_
  refine J_iload_n (q := 1) C dX1_byLetter_0 rfl rfl 0 rfl ?_
  by_cases z100 : i0 = (100 : Int32)
  · have h := itp h z100
    refine J_tsIn (off := 97) (tgt := 98) C (100 : Int32) z100 dX1_byLetter_1 (by decide) (by decide) (by decide) (by decide) ?_
    refine J_iconst (v := 3 ) (q := 99) C dX1_byLetter_98 rfl rfl ?_
    obtain rfl := Option.some.inj h
    exact J_iret C dX1_byLetter_99
  have h := itn h z100
  by_cases z104 : i0 = (104 : Int32)
  · have h := itp h z104
    refine J_tsIn (off := 91) (tgt := 92) C (104 : Int32) z104 dX1_byLetter_1 (by decide) (by decide) (by decide) (by decide) ?_
    refine J_iconst (v := 0 ) (q := 93) C dX1_byLetter_92 rfl rfl ?_
    obtain rfl := Option.some.inj h
    exact J_iret C dX1_byLetter_93
  have h := itn h z104
  by_cases z105 : i0 = (105 : Int32)
  · have h := itp h z105
    refine J_tsIn (off := 99) (tgt := 100) C (105 : Int32) z105 dX1_byLetter_1 (by decide) (by decide) (by decide) (by decide) ?_
    refine J_iconst (v := 4 ) (q := 101) C dX1_byLetter_100 rfl rfl ?_
    obtain rfl := Option.some.inj h
    exact J_iret C dX1_byLetter_101
  have h := itn h z105
  by_cases z109 : i0 = (109 : Int32)
  · have h := itp h z109
    refine J_tsIn (off := 101) (tgt := 102) C (109 : Int32) z109 dX1_byLetter_1 (by decide) (by decide) (by decide) (by decide) ?_
    refine J_iconst (v := 5 ) (q := 103) C dX1_byLetter_102 rfl rfl ?_
    obtain rfl := Option.some.inj h
    exact J_iret C dX1_byLetter_103
  have h := itn h z109
  by_cases z114 : i0 = (114 : Int32)
  · have h := itp h z114
    refine J_tsIn (off := 95) (tgt := 96) C (114 : Int32) z114 dX1_byLetter_1 (by decide) (by decide) (by decide) (by decide) ?_
    refine J_iconst (v := 2 ) (q := 97) C dX1_byLetter_96 rfl rfl ?_
    obtain rfl := Option.some.inj h
    exact J_iret C dX1_byLetter_97
  have h := itn h z114
  by_cases z118 : i0 = (118 : Int32)
  · have h := itp h z118
    refine J_tsIn (off := 93) (tgt := 94) C (118 : Int32) z118 dX1_byLetter_1 (by decide) (by decide) (by decide) (by decide) ?_
    refine J_iconst (v := 1 ) (q := 95) C dX1_byLetter_94 rfl rfl ?_
    obtain rfl := Option.some.inj h
    exact J_iret C dX1_byLetter_95
  have h := itn h z118
  have w100 : i0.toInt ≠ 100 := fun e => z100 (Int32.toInt_inj.mp (e.trans (by decide)))
  have w104 : i0.toInt ≠ 104 := fun e => z104 (Int32.toInt_inj.mp (e.trans (by decide)))
  have w105 : i0.toInt ≠ 105 := fun e => z105 (Int32.toInt_inj.mp (e.trans (by decide)))
  have w109 : i0.toInt ≠ 109 := fun e => z109 (Int32.toInt_inj.mp (e.trans (by decide)))
  have w114 : i0.toInt ≠ 114 := fun e => z114 (Int32.toInt_inj.mp (e.trans (by decide)))
  have w118 : i0.toInt ≠ 118 := fun e => z118 (Int32.toInt_inj.mp (e.trans (by decide)))
  have hdf : Jd p l e (rmF 1 30) s m args below meth c D 77 ad (celC cI cR ad) okC 1 (MQ below (QI D (tysC cI cR) 77 ad (celC cI cR ad) okC r σ) args s 0 0 (inA 77 ad)) 104 [(0, .int i0)] [] σ := by
    refine J_bipush (v := -9) (q := 106) C dX1_byLetter_104 rfl rfl ?_
    obtain rfl := Option.some.inj h
    exact J_iret C dX1_byLetter_106
  by_cases z101 : i0 = (101 : Int32)
  · exact J_tsIn (off := 103) (tgt := 104) C (101 : Int32) z101 dX1_byLetter_1 (by decide) (by decide) (by decide) (by decide) hdf
  have w101 : i0.toInt ≠ 101 := fun e => z101 (Int32.toInt_inj.mp (e.trans (by decide)))
  by_cases z102 : i0 = (102 : Int32)
  · exact J_tsIn (off := 103) (tgt := 104) C (102 : Int32) z102 dX1_byLetter_1 (by decide) (by decide) (by decide) (by decide) hdf
  have w102 : i0.toInt ≠ 102 := fun e => z102 (Int32.toInt_inj.mp (e.trans (by decide)))
  by_cases z103 : i0 = (103 : Int32)
  · exact J_tsIn (off := 103) (tgt := 104) C (103 : Int32) z103 dX1_byLetter_1 (by decide) (by decide) (by decide) (by decide) hdf
  have w103 : i0.toInt ≠ 103 := fun e => z103 (Int32.toInt_inj.mp (e.trans (by decide)))
  by_cases z106 : i0 = (106 : Int32)
  · exact J_tsIn (off := 103) (tgt := 104) C (106 : Int32) z106 dX1_byLetter_1 (by decide) (by decide) (by decide) (by decide) hdf
  have w106 : i0.toInt ≠ 106 := fun e => z106 (Int32.toInt_inj.mp (e.trans (by decide)))
  by_cases z107 : i0 = (107 : Int32)
  · exact J_tsIn (off := 103) (tgt := 104) C (107 : Int32) z107 dX1_byLetter_1 (by decide) (by decide) (by decide) (by decide) hdf
  have w107 : i0.toInt ≠ 107 := fun e => z107 (Int32.toInt_inj.mp (e.trans (by decide)))
  by_cases z108 : i0 = (108 : Int32)
  · exact J_tsIn (off := 103) (tgt := 104) C (108 : Int32) z108 dX1_byLetter_1 (by decide) (by decide) (by decide) (by decide) hdf
  have w108 : i0.toInt ≠ 108 := fun e => z108 (Int32.toInt_inj.mp (e.trans (by decide)))
  by_cases z110 : i0 = (110 : Int32)
  · exact J_tsIn (off := 103) (tgt := 104) C (110 : Int32) z110 dX1_byLetter_1 (by decide) (by decide) (by decide) (by decide) hdf
  have w110 : i0.toInt ≠ 110 := fun e => z110 (Int32.toInt_inj.mp (e.trans (by decide)))
  by_cases z111 : i0 = (111 : Int32)
  · exact J_tsIn (off := 103) (tgt := 104) C (111 : Int32) z111 dX1_byLetter_1 (by decide) (by decide) (by decide) (by decide) hdf
  have w111 : i0.toInt ≠ 111 := fun e => z111 (Int32.toInt_inj.mp (e.trans (by decide)))
  by_cases z112 : i0 = (112 : Int32)
  · exact J_tsIn (off := 103) (tgt := 104) C (112 : Int32) z112 dX1_byLetter_1 (by decide) (by decide) (by decide) (by decide) hdf
  have w112 : i0.toInt ≠ 112 := fun e => z112 (Int32.toInt_inj.mp (e.trans (by decide)))
  by_cases z113 : i0 = (113 : Int32)
  · exact J_tsIn (off := 103) (tgt := 104) C (113 : Int32) z113 dX1_byLetter_1 (by decide) (by decide) (by decide) (by decide) hdf
  have w113 : i0.toInt ≠ 113 := fun e => z113 (Int32.toInt_inj.mp (e.trans (by decide)))
  by_cases z115 : i0 = (115 : Int32)
  · exact J_tsIn (off := 103) (tgt := 104) C (115 : Int32) z115 dX1_byLetter_1 (by decide) (by decide) (by decide) (by decide) hdf
  have w115 : i0.toInt ≠ 115 := fun e => z115 (Int32.toInt_inj.mp (e.trans (by decide)))
  by_cases z116 : i0 = (116 : Int32)
  · exact J_tsIn (off := 103) (tgt := 104) C (116 : Int32) z116 dX1_byLetter_1 (by decide) (by decide) (by decide) (by decide) hdf
  have w116 : i0.toInt ≠ 116 := fun e => z116 (Int32.toInt_inj.mp (e.trans (by decide)))
  by_cases z117 : i0 = (117 : Int32)
  · exact J_tsIn (off := 103) (tgt := 104) C (117 : Int32) z117 dX1_byLetter_1 (by decide) (by decide) (by decide) (by decide) hdf
  have w117 : i0.toInt ≠ 117 := fun e => z117 (Int32.toInt_inj.mp (e.trans (by decide)))
  exact J_tsOut (tgt := 104) C dX1_byLetter_1 (by omega) (by decide) hdf
set_option maxHeartbeats 4000000 in
set_option maxRecDepth 100000 in
theorem c_X1_isOf {l : Launch} {D : va_G} {cI cR : ClassId} {ad : Nat → Nat} (hap : apN 77 ad) {i0 : Int32} {i1 : Int32} {σ : Sg} {r : Bool}  (h : f_X1_isOf i0 i1 = some r) : MI l D (tysC cI cR) 77 ad (celC cI cR ad) okC yX1_isOf cX1_isOf 2 .boolean 1 30 [.int i0, .int i1] σ (b2i r) σ := by
  unfold f_X1_isOf at h
  refine entI "WokenYears$Kinds" hap (by decide +kernel) rfl (Nat.le_of_ble_eq_true rfl) (fun p e s m args below meth c C => ?_)
  refine J_sub (lv' := [(0, .int i0), (1, .int i1)]) [0, 1] rfl ?_
  refine J_iload_n (q := 1) C dX1_isOf_0 rfl rfl 1 rfl ?_
  by_cases z0 : i1 = (0 : Int32)
  · have h := itp h z0
    refine J_tsIn (off := 27) (tgt := 28) C (0 : Int32) z0 dX1_isOf_1 (by decide) (by decide) (by decide) (by decide) ?_
    refine J_iconst (v := 1 ) (q := 29) C dX1_isOf_28 rfl rfl ?_
    obtain rfl := Option.some.inj h
    exact J_zret (b := true) C dX1_isOf_29
  have h := itn h z0
  by_cases z1 : i1 = (1 : Int32)
  · have h := itp h z1
    refine J_tsIn (off := 29) (tgt := 30) C (1 : Int32) z1 dX1_isOf_1 (by decide) (by decide) (by decide) (by decide) ?_
    refine J_iload_n (q := 31) C dX1_isOf_30 rfl rfl 0 rfl ?_
    refine J_iconst (v := 1 ) (q := 32) C dX1_isOf_31 rfl rfl ?_
    refine J_icmp_eq (tgt := 40) (q := 35) C dX1_isOf_32 rfl (by decide) h (fun _ h => ?_) (fun _ h => ?_)
    · refine J_iconst (v := 1 ) (q := 41) C dX1_isOf_40 rfl rfl ?_
      refine J_goto (tgt := 45) C dX1_isOf_41 (by decide) ?_
      obtain rfl := Option.some.inj h
      exact J_zret (b := true) C dX1_isOf_45
    · refine J_iload_n (q := 36) C dX1_isOf_35 rfl rfl 0 rfl ?_
      refine J_iconst (v := 4 ) (q := 37) C dX1_isOf_36 rfl rfl ?_
      refine J_icmp_ne (tgt := 44) (q := 40) C dX1_isOf_37 rfl (by decide) h (fun _ h => ?_) (fun _ h => ?_)
      · refine J_iconst (v := 1 ) (q := 41) C dX1_isOf_40 rfl rfl ?_
        refine J_goto (tgt := 45) C dX1_isOf_41 (by decide) ?_
        obtain rfl := Option.some.inj h
        exact J_zret (b := true) C dX1_isOf_45
      · refine J_iconst (v := 0 ) (q := 45) C dX1_isOf_44 rfl rfl ?_
        obtain rfl := Option.some.inj h
        exact J_zret (b := false) C dX1_isOf_45
  have h := itn h z1
  by_cases z2 : i1 = (2 : Int32)
  · have h := itp h z2
    refine J_tsIn (off := 45) (tgt := 46) C (2 : Int32) z2 dX1_isOf_1 (by decide) (by decide) (by decide) (by decide) ?_
    refine J_iload_n (q := 47) C dX1_isOf_46 rfl rfl 0 rfl ?_
    refine J_iconst (v := 2 ) (q := 48) C dX1_isOf_47 rfl rfl ?_
    refine J_icmp_eq (tgt := 56) (q := 51) C dX1_isOf_48 rfl (by decide) h (fun _ h => ?_) (fun _ h => ?_)
    · refine J_iconst (v := 1 ) (q := 57) C dX1_isOf_56 rfl rfl ?_
      refine J_goto (tgt := 61) C dX1_isOf_57 (by decide) ?_
      obtain rfl := Option.some.inj h
      exact J_zret (b := true) C dX1_isOf_61
    · refine J_iload_n (q := 52) C dX1_isOf_51 rfl rfl 0 rfl ?_
      refine J_iconst (v := 5 ) (q := 53) C dX1_isOf_52 rfl rfl ?_
      refine J_icmp_ne (tgt := 60) (q := 56) C dX1_isOf_53 rfl (by decide) h (fun _ h => ?_) (fun _ h => ?_)
      · refine J_iconst (v := 1 ) (q := 57) C dX1_isOf_56 rfl rfl ?_
        refine J_goto (tgt := 61) C dX1_isOf_57 (by decide) ?_
        obtain rfl := Option.some.inj h
        exact J_zret (b := true) C dX1_isOf_61
      · refine J_iconst (v := 0 ) (q := 61) C dX1_isOf_60 rfl rfl ?_
        obtain rfl := Option.some.inj h
        exact J_zret (b := false) C dX1_isOf_61
  have h := itn h z2
  have w0 : i1.toInt ≠ 0 := fun e => z0 (Int32.toInt_inj.mp (e.trans (by decide)))
  have w1 : i1.toInt ≠ 1 := fun e => z1 (Int32.toInt_inj.mp (e.trans (by decide)))
  have w2 : i1.toInt ≠ 2 := fun e => z2 (Int32.toInt_inj.mp (e.trans (by decide)))
  refine J_tsOut (tgt := 62) C dX1_isOf_1 (by omega) (by decide) ?_
  refine J_iload_n (q := 63) C dX1_isOf_62 rfl rfl 0 rfl ?_
  refine J_iload_n (q := 64) C dX1_isOf_63 rfl rfl 1 rfl ?_
  refine J_icmp_ne (tgt := 71) (q := 67) C dX1_isOf_64 rfl (by decide) h (fun _ h => ?_) (fun _ h => ?_)
  · refine J_iconst (v := 1 ) (q := 68) C dX1_isOf_67 rfl rfl ?_
    refine J_goto (tgt := 72) C dX1_isOf_68 (by decide) ?_
    obtain rfl := Option.some.inj h
    exact J_zret (b := true) C dX1_isOf_72
  · refine J_iconst (v := 0 ) (q := 72) C dX1_isOf_71 rfl rfl ?_
    obtain rfl := Option.some.inj h
    exact J_zret (b := false) C dX1_isOf_72
set_option maxHeartbeats 4000000 in
set_option maxRecDepth 100000 in
theorem c_X1_taps {l : Launch} {D : va_G} {cI cR : ClassId} {ad : Nat → Nat} (hap : apN 77 ad) {i0 : Int32} {i1 : Int32} {i2 : Int32} {σ : Sg} {r : Int32}  (h : f_X1_taps i0 i1 i2 = some r) : MI l D (tysC cI cR) 77 ad (celC cI cR ad) okC yX1_taps cX1_taps 5 .int 1 30 [.int i0, .int i1, .int i2] σ r σ := by
  unfold f_X1_taps at h
  refine entI "WokenYears$Kinds" hap (by decide +kernel) rfl (Nat.le_of_ble_eq_true rfl) (fun p e s m args below meth c C => ?_)
  refine J_sub (lv' := [(0, .int i0), (1, .int i1), (2, .int i2)]) [0, 1, 2] rfl ?_
  refine J_iload_n (q := 1) C dX1_taps_0 rfl rfl 2 rfl ?_
  refine jn_elim h (fun k26 ek26 h => ?_)
  have hk26 : ∀ (t0_26 : Bool), k26 t0_26 = some r → Jd p l e (rmF 1 30) s m args below meth c D 77 ad (celC cI cR ad) okC 5 (MQ below (QI D (tysC cI cR) 77 ad (celC cI cR ad) okC r σ) args s 0 0 (inA 77 ad)) 26 [(0, .int i0), (1, .int i1)] [.int (b2i t0_26)] σ := by
    intro t0_26 h
    rw [ek26] at h
    refine J_istore_n (q := 27) C dX1_taps_26 rfl rfl (by decide) rfl ?_
    refine J_iload_n (q := 28) C dX1_taps_27 rfl rfl 1 rfl ?_
    refine J_iconst (v := 3 ) (q := 29) C dX1_taps_28 rfl rfl ?_
    refine J_icmp_eq (tgt := 36) (q := 32) C dX1_taps_29 rfl (by decide) h (fun _ h => ?_) (fun _ h => ?_)
    · refine J_bipush (v := -9) (q := 38) C dX1_taps_36 rfl rfl ?_
      obtain rfl := Option.some.inj h
      exact J_iret C dX1_taps_38
    · refine J_iload_n (q := 33) C dX1_taps_32 rfl rfl 0 rfl ?_
      refine J_ifeq_b (tgt := 39) (q := 36) C dX1_taps_33 rfl (by decide) h (fun _ h => ?_) (fun _ h => ?_)
      · refine J_bipush (v := -9) (q := 38) C dX1_taps_36 rfl rfl ?_
        obtain rfl := Option.some.inj h
        exact J_iret C dX1_taps_38
      · refine J_iload_n (q := 40) C dX1_taps_39 rfl rfl 2 rfl ?_
        refine J_bipush (v := 49) (q := 42) C dX1_taps_40 rfl rfl ?_
        refine jn_elim h (fun k50 ek50 h => ?_)
        have hk50 : ∀ (t0_50 : Int32), k50 t0_50 = some r → Jd p l e (rmF 1 30) s m args below meth c D 77 ad (celC cI cR ad) okC 5 (MQ below (QI D (tysC cI cR) 77 ad (celC cI cR ad) okC r σ) args s 0 0 (inA 77 ad)) 50 [(0, .int i0)] [.int t0_50] σ := by
          intro t0_50 h
          rw [ek50] at h
          refine J_istore (q := 52) C dX1_taps_50 rfl (by decide) rfl ?_
          refine J_iload_n (q := 53) C dX1_taps_52 rfl rfl 1 rfl ?_
          by_cases z1 : i0 = (1 : Int32)
          · have h := itp h z1
            refine J_ls (off := 27) (tgt := 80) C dX1_taps_53 (by decide) (by rw [z1]; decide) (by decide) ?_
            refine J_iconst (v := 2 ) (q := 81) C dX1_taps_80 rfl rfl ?_
            refine J_iload (q := 83) C dX1_taps_81 rfl 0 rfl ?_
            refine J_imul (q := 84) C dX1_taps_83 rfl ?_
            obtain rfl := Option.some.inj h
            exact J_iret C dX1_taps_84
          have h := itn h z1
          by_cases z4 : i0 = (4 : Int32)
          · have h := itp h z4
            refine J_ls (off := 32) (tgt := 85) C dX1_taps_53 (by decide) (by rw [z4]; decide) (by decide) ?_
            refine J_iconst (v := 2 ) (q := 86) C dX1_taps_85 rfl rfl ?_
            refine J_iload (q := 88) C dX1_taps_86 rfl 0 rfl ?_
            refine J_imul (q := 89) C dX1_taps_88 rfl ?_
            refine J_iconst (v := 1 ) (q := 90) C dX1_taps_89 rfl rfl ?_
            refine J_iadd (q := 91) C dX1_taps_90 rfl ?_
            obtain rfl := Option.some.inj h
            exact J_iret C dX1_taps_91
          have h := itn h z4
          have w1 : i0.toInt ≠ 1 := fun e => z1 (Int32.toInt_inj.mp (e.trans (by decide)))
          have w4 : i0.toInt ≠ 4 := fun e => z4 (Int32.toInt_inj.mp (e.trans (by decide)))
          refine J_ls (off := 39) (tgt := 92) C dX1_taps_53 (by decide) (ls_dflt w1 w4) (by decide) ?_
          refine J_iload (q := 94) C dX1_taps_92 rfl 0 rfl ?_
          obtain rfl := Option.some.inj h
          exact J_iret C dX1_taps_94
        refine J_icmp_gt (tgt := 49) (q := 45) C dX1_taps_42 rfl (by decide) h (fun _ h => ?_) (fun _ h => ?_)
        · refine J_iconst (v := 1 ) (q := 50) C dX1_taps_49 rfl rfl ?_
          refine J_sub [1] rfl ?_
          exact hk50 _ h
        · refine J_iconst (v := 2 ) (q := 46) C dX1_taps_45 rfl rfl ?_
          refine J_goto (tgt := 50) C dX1_taps_46 (by decide) ?_
          refine J_sub [1] rfl ?_
          exact hk50 _ h
  refine jn_elim h (fun k25 ek25 h => ?_)
  have hk25 : k25 = some r → Jd p l e (rmF 1 30) s m args below meth c D 77 ad (celC cI cR ad) okC 5 (MQ below (QI D (tysC cI cR) 77 ad (celC cI cR ad) okC r σ) args s 0 0 (inA 77 ad)) 25 [(0, .int i0), (1, .int i1)] [] σ := by
    intro  h
    rw [ek25] at h
    refine J_iconst (v := 0 ) (q := 26) C dX1_taps_25 rfl rfl ?_
    exact hk26 _ h
  refine J_if_eq (tgt := 25) (q := 4) C dX1_taps_1 rfl (by decide) h (fun _ h => ?_) (fun _ h => ?_)
  · refine J_sub [0, 1] rfl ?_
    exact hk25 h
  · refine J_iload_n (q := 5) C dX1_taps_4 rfl rfl 1 rfl ?_
    refine J_bipush (v := 40) (q := 7) C dX1_taps_5 rfl rfl ?_
    refine J_icmp_lt (tgt := 25) (q := 10) C dX1_taps_7 rfl (by decide) h (fun _ h => ?_) (fun _ h => ?_)
    · refine J_sub [0, 1] rfl ?_
      exact hk25 h
    · refine J_iload_n (q := 11) C dX1_taps_10 rfl rfl 1 rfl ?_
      refine J_bipush (v := 49) (q := 13) C dX1_taps_11 rfl rfl ?_
      refine J_icmp_gt (tgt := 25) (q := 16) C dX1_taps_13 rfl (by decide) h (fun _ h => ?_) (fun _ h => ?_)
      · refine J_sub [0, 1] rfl ?_
        exact hk25 h
      · refine J_iload_n (q := 17) C dX1_taps_16 rfl rfl 0 rfl ?_
        refine J_iconst (v := 5 ) (q := 18) C dX1_taps_17 rfl rfl ?_
        refine J_icmp_eq (tgt := 25) (q := 21) C dX1_taps_18 rfl (by decide) h (fun _ h => ?_) (fun _ h => ?_)
        · refine J_sub [0, 1] rfl ?_
          exact hk25 h
        · refine J_iconst (v := 1 ) (q := 22) C dX1_taps_21 rfl rfl ?_
          refine J_goto (tgt := 26) C dX1_taps_22 (by decide) ?_
          refine J_sub [0, 1] rfl ?_
          exact hk26 _ h
set_option maxHeartbeats 4000000 in
set_option maxRecDepth 100000 in
theorem c_X1_fee {l : Launch} {D : va_G} {cI cR : ClassId} {ad : Nat → Nat} (hap : apN 77 ad) {i0 : Int32} {σ : Sg} {r : Int32}  (h : f_X1_fee i0 = some r) : MI l D (tysC cI cR) 77 ad (celC cI cR ad) okC yX1_fee cX1_fee 1 .int 1 30 [.int i0] σ r σ := by
  unfold f_X1_fee at h
  refine entI "WokenYears$Kinds" hap (by decide +kernel) rfl (Nat.le_of_ble_eq_true rfl) (fun p e s m args below meth c C => ?_)
  refine J_sub (lv' := [(0, .int i0)]) [0] rfl ?_
  refine J_iload_n (q := 1) C dX1_fee_0 rfl rfl 0 rfl ?_
  by_cases z2 : i0 = (2 : Int32)
  · have h := itp h z2
    refine J_tsIn (off := 31) (tgt := 32) C (2 : Int32) z2 dX1_fee_1 (by decide) (by decide) (by decide) (by decide) ?_
    refine J_iconst (v := 2 ) (q := 33) C dX1_fee_32 rfl rfl ?_
    obtain rfl := Option.some.inj h
    exact J_iret C dX1_fee_33
  have h := itn h z2
  by_cases z3 : i0 = (3 : Int32)
  · have h := itp h z3
    refine J_tsIn (off := 33) (tgt := 34) C (3 : Int32) z3 dX1_fee_1 (by decide) (by decide) (by decide) (by decide) ?_
    refine J_iconst (v := 0 ) (q := 35) C dX1_fee_34 rfl rfl ?_
    obtain rfl := Option.some.inj h
    exact J_iret C dX1_fee_35
  have h := itn h z3
  by_cases z5 : i0 = (5 : Int32)
  · have h := itp h z5
    refine J_tsIn (off := 35) (tgt := 36) C (5 : Int32) z5 dX1_fee_1 (by decide) (by decide) (by decide) (by decide) ?_
    refine J_iconst (v := 5 ) (q := 37) C dX1_fee_36 rfl rfl ?_
    obtain rfl := Option.some.inj h
    exact J_iret C dX1_fee_37
  have h := itn h z5
  have w2 : i0.toInt ≠ 2 := fun e => z2 (Int32.toInt_inj.mp (e.trans (by decide)))
  have w3 : i0.toInt ≠ 3 := fun e => z3 (Int32.toInt_inj.mp (e.trans (by decide)))
  have w5 : i0.toInt ≠ 5 := fun e => z5 (Int32.toInt_inj.mp (e.trans (by decide)))
  have hdf : Jd p l e (rmF 1 30) s m args below meth c D 77 ad (celC cI cR ad) okC 1 (MQ below (QI D (tysC cI cR) 77 ad (celC cI cR ad) okC r σ) args s 0 0 (inA 77 ad)) 38 [(0, .int i0)] [] σ := by
    refine J_iconst (v := 1 ) (q := 39) C dX1_fee_38 rfl rfl ?_
    obtain rfl := Option.some.inj h
    exact J_iret C dX1_fee_39
  by_cases z4 : i0 = (4 : Int32)
  · exact J_tsIn (off := 37) (tgt := 38) C (4 : Int32) z4 dX1_fee_1 (by decide) (by decide) (by decide) (by decide) hdf
  have w4 : i0.toInt ≠ 4 := fun e => z4 (Int32.toInt_inj.mp (e.trans (by decide)))
  exact J_tsOut (tgt := 38) C dX1_fee_1 (by omega) (by decide) hdf
set_option maxHeartbeats 4000000 in
set_option maxRecDepth 100000 in
theorem c_J6_bitCount_0f7a4 {l : Launch} {D : va_G} {cI cR : ClassId} {ad : Nat → Nat} (hap : apN 77 ad) {i0 : Int32} {σ : Sg} {r : Int32}  (h : f_J6_bitCount_0f7a4 i0 = some r) : MI l D (tysC cI cR) 77 ad (celC cI cR ad) okC yJ6_bitCount_0f7a4 cJ6_bitCount_0f7a4 1 .int 1 30 [.int i0] σ r σ := by
  unfold f_J6_bitCount_0f7a4 at h
  refine entI "java/lang/Integer" hap (by decide +kernel) rfl (Nat.le_of_ble_eq_true rfl) (fun p e s m args below meth c C => ?_)
  refine J_sub (lv' := [(0, .int i0)]) [0] rfl ?_
  refine J_iload_n (q := 1) C dJ6_bitCount_0f7a4_0 rfl rfl 0 rfl ?_
  refine J_iload_n (q := 2) C dJ6_bitCount_0f7a4_1 rfl rfl 0 rfl ?_
  refine J_iconst (v := 1 ) (q := 3) C dJ6_bitCount_0f7a4_2 rfl rfl ?_
  refine J_iushr (q := 4) C dJ6_bitCount_0f7a4_3 rfl ?_
  refine J_ldcw (q := 7) C kK_J6_265 dJ6_bitCount_0f7a4_4 rfl ?_
  refine J_iand (q := 8) C dJ6_bitCount_0f7a4_7 rfl ?_
  refine J_isub (q := 9) C dJ6_bitCount_0f7a4_8 rfl ?_
  refine J_nmi h (fun y1 ey1 h => ?_)
  refine J_istore_n (q := 10) C dJ6_bitCount_0f7a4_9 rfl rfl (by decide) rfl ?_
  refine J_iload_n (q := 11) C dJ6_bitCount_0f7a4_10 rfl rfl 0 rfl ?_
  refine J_ldcw (q := 14) C kK_J6_266 dJ6_bitCount_0f7a4_11 rfl ?_
  refine J_iand (q := 15) C dJ6_bitCount_0f7a4_14 rfl ?_
  refine J_iload_n (q := 16) C dJ6_bitCount_0f7a4_15 rfl rfl 0 rfl ?_
  refine J_iconst (v := 2 ) (q := 17) C dJ6_bitCount_0f7a4_16 rfl rfl ?_
  refine J_iushr (q := 18) C dJ6_bitCount_0f7a4_17 rfl ?_
  refine J_ldcw (q := 21) C kK_J6_266 dJ6_bitCount_0f7a4_18 rfl ?_
  refine J_iand (q := 22) C dJ6_bitCount_0f7a4_21 rfl ?_
  refine J_iadd (q := 23) C dJ6_bitCount_0f7a4_22 rfl ?_
  refine J_nmi h (fun y2 ey2 h => ?_)
  refine J_istore_n (q := 24) C dJ6_bitCount_0f7a4_23 rfl rfl (by decide) rfl ?_
  refine J_iload_n (q := 25) C dJ6_bitCount_0f7a4_24 rfl rfl 0 rfl ?_
  refine J_iload_n (q := 26) C dJ6_bitCount_0f7a4_25 rfl rfl 0 rfl ?_
  refine J_iconst (v := 4 ) (q := 27) C dJ6_bitCount_0f7a4_26 rfl rfl ?_
  refine J_iushr (q := 28) C dJ6_bitCount_0f7a4_27 rfl ?_
  refine J_iadd (q := 29) C dJ6_bitCount_0f7a4_28 rfl ?_
  refine J_ldcw (q := 32) C kK_J6_267 dJ6_bitCount_0f7a4_29 rfl ?_
  refine J_iand (q := 33) C dJ6_bitCount_0f7a4_32 rfl ?_
  refine J_nmi h (fun y3 ey3 h => ?_)
  refine J_istore_n (q := 34) C dJ6_bitCount_0f7a4_33 rfl rfl (by decide) rfl ?_
  refine J_iload_n (q := 35) C dJ6_bitCount_0f7a4_34 rfl rfl 0 rfl ?_
  refine J_iload_n (q := 36) C dJ6_bitCount_0f7a4_35 rfl rfl 0 rfl ?_
  refine J_bipush (v := 8) (q := 38) C dJ6_bitCount_0f7a4_36 rfl rfl ?_
  refine J_iushr (q := 39) C dJ6_bitCount_0f7a4_38 rfl ?_
  refine J_iadd (q := 40) C dJ6_bitCount_0f7a4_39 rfl ?_
  refine J_nmi h (fun y4 ey4 h => ?_)
  refine J_istore_n (q := 41) C dJ6_bitCount_0f7a4_40 rfl rfl (by decide) rfl ?_
  refine J_iload_n (q := 42) C dJ6_bitCount_0f7a4_41 rfl rfl 0 rfl ?_
  refine J_iload_n (q := 43) C dJ6_bitCount_0f7a4_42 rfl rfl 0 rfl ?_
  refine J_bipush (v := 16) (q := 45) C dJ6_bitCount_0f7a4_43 rfl rfl ?_
  refine J_iushr (q := 46) C dJ6_bitCount_0f7a4_45 rfl ?_
  refine J_iadd (q := 47) C dJ6_bitCount_0f7a4_46 rfl ?_
  refine J_nmi h (fun y5 ey5 h => ?_)
  refine J_istore_n (q := 48) C dJ6_bitCount_0f7a4_47 rfl rfl (by decide) rfl ?_
  refine J_iload_n (q := 49) C dJ6_bitCount_0f7a4_48 rfl rfl 0 rfl ?_
  refine J_bipush (v := 63) (q := 51) C dJ6_bitCount_0f7a4_49 rfl rfl ?_
  refine J_iand (q := 52) C dJ6_bitCount_0f7a4_51 rfl ?_
  obtain rfl := Option.some.inj h
  exact J_iret C dJ6_bitCount_0f7a4_52
