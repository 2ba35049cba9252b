set_option maxHeartbeats 4000000 in
set_option maxRecDepth 100000 in
theorem cl_X6_read_48 {p : Program} {l : Launch} {e : Env} {s : State} {m : MethodId} {args : Array Value} {below : List Frame} {meth : Method} {c : Code} {D : va_G} {cI cR : ClassId} {ad : Nat → Nat} (hap : apN 16 ad) (C : Cx p s m args meth c cX6_read 2 "WokenYearsModel" D (tysC cI cR) 16 ad (some .int)) {k78 : Sg → Option (Int32 × Sg)} (r : Int32) (σo : Sg)  (hk78 : ∀ (σ1 : Sg), k78 σ1 = some (r, σo) → Jd p l e (rmF 5 120) s m args below meth c D 16 ad (celM cI ad) okM 2 (MQ below (QI D (tysC cI cR) 16 ad (celM cI ad) okM r σo) args s 0 0 (inA 16 ad)) 78 [(0, .ref (ad 0))] [] σ1) : ∀ (n : Nat) (σx : Sg), l_X6_read_48 k78 n σx = some (r, σo) → Jd p l e (rmF 5 120) s m args below meth c D 16 ad (celM cI ad) okM 2 (MQ below (QI D (tysC cI cR) 16 ad (celM cI ad) okM r σo) args s 0 0 (inA 16 ad)) 48 [(0, .ref (ad 0))] [] σx := by
  intro n
  induction n with
  | zero => intro σx h; cases h
  | succ n ih =>
    intro σx h
    unfold l_X6_read_48 at h
    refine J_aload_n (q := 49) C dX6_read_48 rfl rfl 0 rfl ?_
    refine JM_g_X6_position (q := 52) C kF_X6_93 dX6_read_49 rfl ?_
    refine J_aload_n (q := 53) C dX6_read_52 rfl rfl 0 rfl ?_
    refine JM_g_X6_all (q := 56) C kF_X6_87 dX6_read_53 rfl ?_
    refine J_icmp_ge (tgt := 78) (q := 59) C dX6_read_56 rfl (by decide) h (fun _ h => ?_) (fun _ h => ?_)
    · exact hk78 _ h
    · refine J_aload_n (q := 60) C dX6_read_59 rfl rfl 0 rfl ?_
      obtain ⟨r8, σ8, ec8, h⟩ := bnd2_of h
      refine J_callIV (q := 63) (As := []) C (c_X6_isHouseItem hap  ec8) ok_X6_isHouseItem kM_X6_125 (by decide) rfl rfl rfl rfl rfl rfl ⟨Nat.le_of_ble_eq_true rfl, Nat.le_of_ble_eq_true rfl⟩ (Nat.le_of_ble_eq_true rfl) dX6_read_60 rfl ?_
      refine J_ifne_b (tgt := 71) (q := 66) C dX6_read_63 rfl (by decide) h (fun _ h => ?_) (fun _ h => ?_)
      · refine J_aload_n (q := 72) C dX6_read_71 rfl rfl 0 rfl ?_
        obtain ⟨σ9, ec9, h⟩ := bnd_of h
        refine J_callXV (q := 75) (As := []) C (c_X6_skip hap  ec9) ok_X6_skip kM_X6_118 (by decide) rfl rfl rfl rfl rfl rfl ⟨Nat.le_of_ble_eq_true rfl, Nat.le_of_ble_eq_true rfl⟩ (Nat.le_of_ble_eq_true rfl) dX6_read_72 rfl ?_
        refine J_goto (tgt := 48) C dX6_read_75 (by decide) ?_
        exact ih _ h
      · refine J_aload_n (q := 67) C dX6_read_66 rfl rfl 0 rfl ?_
        refine JM_g_X6_position (q := 70) C kF_X6_93 dX6_read_67 rfl ?_
        obtain ⟨rfl, rfl⟩ := Prod.mk.inj (Option.some.inj h)
        exact J_iret C dX6_read_70
set_option maxHeartbeats 4000000 in
set_option maxRecDepth 100000 in
theorem c_X6_read {l : Launch} {D : va_G} {cI cR : ClassId} {ad : Nat → Nat} (hap : apN 16 ad) {i1 : Int32} {σ : Sg} {r : Int32} {σo : Sg}  (h : f_X6_read i1 σ = some (r, σo)) : MI l D (tysC cI cR) 16 ad (celM cI ad) okM yX6_read cX6_read 2 .int 5 120 [.ref (ad 0), .int i1] σ r σo := by
  unfold f_X6_read at h
  refine entI "WokenYearsModel" hap (by decide +kernel) rfl (Nat.le_of_ble_eq_true rfl) (fun p e s m args below meth c C => ?_)
  refine J_sub (lv' := [(0, .ref (ad 0)), (1, .int i1)]) [0, 1] rfl ?_
  refine J_aload_n (q := 1) C dX6_read_0 rfl rfl 0 rfl ?_
  refine J_bipush (v := 60) (q := 3) C dX6_read_1 rfl rfl ?_
  refine J_iload_n (q := 4) C dX6_read_3 rfl rfl 1 rfl ?_
  refine J_imul (q := 5) C dX6_read_4 rfl ?_
  refine JM_p_X6_from (q := 8) C kF_X6_90 dX6_read_5 rfl ?_
  refine jn_elim h (fun σ1 eσ1 h => ?_)
  rw [← eσ1]
  refine J_aload_n (q := 9) C dX6_read_8 rfl rfl 0 rfl ?_
  refine J_aload_n (q := 10) C dX6_read_9 rfl rfl 0 rfl ?_
  refine JM_g_X6_textSize (q := 13) C kF_X6_16 dX6_read_10 rfl ?_
  refine J_iload_n (q := 14) C dX6_read_13 rfl rfl 1 rfl ?_
  refine JM_iald (q := 15) C isMA_3 h dX6_read_14 rfl (fun h => ?_)
  refine JM_p_X6_all (q := 18) C kF_X6_87 dX6_read_15 rfl ?_
  refine jn_elim h (fun σ2 eσ2 h => ?_)
  rw [← eσ2]
  refine J_aload_n (q := 19) C dX6_read_18 rfl rfl 0 rfl ?_
  refine J_iconst (v := 0 ) (q := 20) C dX6_read_19 rfl rfl ?_
  refine JM_p_X6_position (q := 23) C kF_X6_93 dX6_read_20 rfl ?_
  refine jn_elim h (fun σ3 eσ3 h => ?_)
  rw [← eσ3]
  refine J_aload_n (q := 24) C dX6_read_23 rfl rfl 0 rfl ?_
  refine J_iconst (v := 0 ) (q := 25) C dX6_read_24 rfl rfl ?_
  refine JM_p_X6_readHouses (q := 28) C kF_X6_115 dX6_read_25 rfl ?_
  refine jn_elim h (fun σ4 eσ4 h => ?_)
  rw [← eσ4]
  refine J_aload_n (q := 29) C dX6_read_28 rfl rfl 0 rfl ?_
  obtain ⟨σ5, ec5, h⟩ := bnd_of h
  refine J_callXV (q := 32) (As := []) C (c_X6_skip hap  ec5) ok_X6_skip kM_X6_118 (by decide) rfl rfl rfl rfl rfl rfl ⟨Nat.le_of_ble_eq_true rfl, Nat.le_of_ble_eq_true rfl⟩ (Nat.le_of_ble_eq_true rfl) dX6_read_29 rfl ?_
  refine J_aload_n (q := 33) C dX6_read_32 rfl rfl 0 rfl ?_
  obtain ⟨r6, σ6, ec6, h⟩ := bnd2_of h
  refine J_callIV (q := 36) (As := []) C (c_X6_isStreet hap  ec6) ok_X6_isStreet kM_X6_121 (by decide) rfl rfl rfl rfl rfl rfl ⟨Nat.le_of_ble_eq_true rfl, Nat.le_of_ble_eq_true rfl⟩ (Nat.le_of_ble_eq_true rfl) dX6_read_33 rfl ?_
  refine J_ifne_b (tgt := 44) (q := 39) C dX6_read_36 rfl (by decide) h (fun _ h => ?_) (fun _ h => ?_)
  · refine J_aload_n (q := 45) C dX6_read_44 rfl rfl 0 rfl ?_
    obtain ⟨σ7, ec7, h⟩ := bnd_of h
    refine J_callXV (q := 48) (As := []) C (c_X6_skip hap  ec7) ok_X6_skip kM_X6_118 (by decide) rfl rfl rfl rfl rfl rfl ⟨Nat.le_of_ble_eq_true rfl, Nat.le_of_ble_eq_true rfl⟩ (Nat.le_of_ble_eq_true rfl) dX6_read_45 rfl ?_
    refine J_sub [0] rfl ?_
    refine cl_X6_read_48 hap C r σo  (fun σv78 h => ?_) FU _ h
    · refine J_aload_n (q := 79) C dX6_read_78 rfl rfl 0 rfl ?_
      refine JM_g_X6_readHouses (q := 82) C kF_X6_115 dX6_read_79 rfl ?_
      refine J_if_ne (tgt := 92) (q := 85) C dX6_read_82 rfl (by decide) h (fun _ h => ?_) (fun _ h => ?_)
      · refine J_aload_n (q := 86) C dX6_read_85 rfl rfl 0 rfl ?_
        refine JM_g_X6_all (q := 89) C kF_X6_87 dX6_read_86 rfl ?_
        refine J_goto (tgt := 94) C dX6_read_89 (by decide) ?_
        obtain ⟨rfl, rfl⟩ := Prod.mk.inj (Option.some.inj h)
        exact J_iret C dX6_read_94
      · refine J_bipush (v := -9) (q := 94) C dX6_read_92 rfl rfl ?_
        obtain ⟨rfl, rfl⟩ := Prod.mk.inj (Option.some.inj h)
        exact J_iret C dX6_read_94
  · refine J_aload_n (q := 40) C dX6_read_39 rfl rfl 0 rfl ?_
    refine JM_g_X6_position (q := 43) C kF_X6_93 dX6_read_40 rfl ?_
    obtain ⟨rfl, rfl⟩ := Prod.mk.inj (Option.some.inj h)
    exact J_iret C dX6_read_43
set_option maxHeartbeats 4000000 in
set_option maxRecDepth 100000 in
theorem c_X6_fault {l : Launch} {D : va_G} {cI cR : ClassId} {ad : Nat → Nat} (hap : apN 16 ad) {i1 : Int32} {σ : Sg} {r : Int32} {σo : Sg}  (h : f_X6_fault i1 σ = some (r, σo)) : MI l D (tysC cI cR) 16 ad (celM cI ad) okM yX6_fault cX6_fault 2 .int 6 141 [.ref (ad 0), .int i1] σ r σo := by
  unfold f_X6_fault at h
  refine entI "WokenYearsModel" hap (by decide +kernel) rfl (Nat.le_of_ble_eq_true rfl) (fun p e s m args below meth c C => ?_)
  refine J_sub (lv' := [(0, .ref (ad 0)), (1, .int i1)]) [0, 1] rfl ?_
  refine J_iload_n (q := 1) C dX6_fault_0 rfl rfl 1 rfl ?_
  refine J_iconst (v := 0 ) (q := 2) C dX6_fault_1 rfl rfl ?_
  refine J_iconst (v := 3 ) (q := 3) C dX6_fault_2 rfl rfl ?_
  obtain ⟨r1, ec1, h⟩ := bnd_of h
  refine J_callIS (q := 6) (As := [.int i1, .int (0 : Int32), .int (3 : Int32)]) C (c_X6_in hap  ec1) ok_X6_in kM_X6_69 rfl rfl rfl ⟨Nat.le_of_ble_eq_true rfl, Nat.le_of_ble_eq_true rfl⟩ (Nat.le_of_ble_eq_true rfl) dX6_fault_3 rfl ?_
  refine J_ifne_b (tgt := 11) (q := 9) C dX6_fault_6 rfl (by decide) h (fun _ h => ?_) (fun _ h => ?_)
  · refine J_aload_n (q := 12) C dX6_fault_11 rfl rfl 0 rfl ?_
    refine JM_g_X6_textSize (q := 15) C kF_X6_16 dX6_fault_12 rfl ?_
    refine J_iload_n (q := 16) C dX6_fault_15 rfl rfl 1 rfl ?_
    refine JM_iald (q := 17) C isMA_3 h dX6_fault_16 rfl (fun h => ?_)
    refine J_if_ge (tgt := 28) (q := 20) C dX6_fault_17 rfl (by decide) h (fun _ h => ?_) (fun _ h => ?_)
    · refine J_aload_n (q := 29) C dX6_fault_28 rfl rfl 0 rfl ?_
      refine J_iload_n (q := 30) C dX6_fault_29 rfl rfl 1 rfl ?_
      obtain ⟨r2, σ2, ec2, h⟩ := bnd2_of h
      refine J_callIV (q := 33) (As := [.int i1]) C (c_X6_read hap  ec2) ok_X6_read kM_X6_128 (by decide) rfl rfl rfl rfl rfl rfl ⟨Nat.le_of_ble_eq_true rfl, Nat.le_of_ble_eq_true rfl⟩ (Nat.le_of_ble_eq_true rfl) dX6_fault_30 rfl ?_
      obtain ⟨rfl, rfl⟩ := Prod.mk.inj (Option.some.inj h)
      exact J_iret C dX6_fault_33
    · refine J_aload_n (q := 21) C dX6_fault_20 rfl rfl 0 rfl ?_
      refine J_iconst (v := 1 ) (q := 22) C dX6_fault_21 rfl rfl ?_
      obtain ⟨r3, σ3, ec3, h⟩ := bnd2_of h
      refine J_callIV (q := 25) (As := [.int (1 : Int32)]) C (c_X6_finds hap  ec3) ok_X6_finds kM_X6_73 (by decide) rfl rfl rfl rfl rfl rfl ⟨Nat.le_of_ble_eq_true rfl, Nat.le_of_ble_eq_true rfl⟩ (Nat.le_of_ble_eq_true rfl) dX6_fault_22 rfl ?_
      refine J_goto (tgt := 33) C dX6_fault_25 (by decide) ?_
      obtain ⟨rfl, rfl⟩ := Prod.mk.inj (Option.some.inj h)
      exact J_iret C dX6_fault_33
  · refine J_iconst (v := -1 ) (q := 10) C dX6_fault_9 rfl rfl ?_
    obtain ⟨rfl, rfl⟩ := Prod.mk.inj (Option.some.inj h)
    exact J_iret C dX6_fault_10
set_option maxHeartbeats 4000000 in
set_option maxRecDepth 100000 in
theorem cl_X6_town_57 {p : Program} {l : Launch} {e : Env} {s : State} {m : MethodId} {args : Array Value} {below : List Frame} {meth : Method} {c : Code} {D : va_G} {cI cR : ClassId} {ad : Nat → Nat} (hap : apN 16 ad) (C : Cx p s m args meth c cX6_town 3 "WokenYearsModel" D (tysC cI cR) 16 ad (some .int)) {k87 : Sg → Option (Int32 × Sg)} (r : Int32) (σo : Sg)  (hk87 : ∀ (σ1 : Sg), k87 σ1 = some (r, σo) → Jd p l e (rmF 6 141) s m args below meth c D 16 ad (celM cI ad) okM 3 (MQ below (QI D (tysC cI cR) 16 ad (celM cI ad) okM r σo) args s 0 0 (inA 16 ad)) 87 [(0, .ref (ad 0))] [] σ1) : ∀ (n : Nat) (x2 : Int32) (σx : Sg), l_X6_town_57 k87 n x2 σx = some (r, σo) → Jd p l e (rmF 6 141) s m args below meth c D 16 ad (celM cI ad) okM 3 (MQ below (QI D (tysC cI cR) 16 ad (celM cI ad) okM r σo) args s 0 0 (inA 16 ad)) 57 [(0, .ref (ad 0)), (2, .int x2)] [] σx := by
  intro n
  induction n with
  | zero => intro x2 σx h; cases h
  | succ n ih =>
    intro x2 σx h
    unfold l_X6_town_57 at h
    refine J_iload_n (q := 58) C dX6_town_57 rfl rfl 1 rfl ?_
    refine J_bipush (v := 23) (q := 60) C dX6_town_58 rfl rfl ?_
    refine J_icmp_ge (tgt := 87) (q := 63) C dX6_town_60 rfl (by decide) h (fun _ h => ?_) (fun _ h => ?_)
    · refine J_sub [0] rfl ?_
      exact hk87 _ h
    · refine J_aload_n (q := 64) C dX6_town_63 rfl rfl 0 rfl ?_
      refine JM_g_X6_now (q := 67) C kF_X6_38 dX6_town_64 rfl ?_
      refine J_iload_n (q := 68) C dX6_town_67 rfl rfl 1 rfl ?_
      refine J_iload_n (q := 69) C dX6_town_68 rfl rfl 1 rfl ?_
      refine J_bipush (v := 17) (q := 71) C dX6_town_69 rfl rfl ?_
      refine jn_elim h (fun k80 ek80 h => ?_)
      have hk80 : ∀ (t0_80 : Int32), k80 t0_80 = some (r, σo) → Jd p l e (rmF 6 141) s m args below meth c D 16 ad (celM cI ad) okM 3 (MQ below (QI D (tysC cI cR) 16 ad (celM cI ad) okM r σo) args s 0 0 (inA 16 ad)) 80 [(0, .ref (ad 0)), (2, .int x2)] [.int t0_80, .int x2, .ref (ad 9)] σx := by
        intro t0_80 h
        rw [ek80] at h
        refine JM_iast (q := 81) C isMA_9 h dX6_town_80 rfl (fun h => ?_)
        refine jn_elim h (fun σ5 eσ5 h => ?_)
        rw [← eσ5]
        refine jn_elim h (fun y6 ey6 h => ?_)
        refine J_iinc (v := y6) (q := 84) C dX6_town_81 rfl 1 rfl (by rw [ey6]; rfl) (by decide) rfl ?_
        refine J_goto (tgt := 57) C dX6_town_84 (by decide) ?_
        refine J_sub [1, 0] rfl ?_
        exact ih _ _ h
      refine J_icmp_ge (tgt := 78) (q := 74) C dX6_town_71 rfl (by decide) h (fun _ h => ?_) (fun _ h => ?_)
      · refine J_bipush (v := -9) (q := 80) C dX6_town_78 rfl rfl ?_
        exact hk80 _ h
      · refine J_iconst (v := 0 ) (q := 75) C dX6_town_74 rfl rfl ?_
        refine J_goto (tgt := 80) C dX6_town_75 (by decide) ?_
        exact hk80 _ h
set_option maxHeartbeats 4000000 in
set_option maxRecDepth 100000 in
theorem cl_X6_town_99 {p : Program} {l : Launch} {e : Env} {s : State} {m : MethodId} {args : Array Value} {below : List Frame} {meth : Method} {c : Code} {D : va_G} {cI cR : ClassId} {ad : Nat → Nat} (hap : apN 16 ad) (C : Cx p s m args meth c cX6_town 3 "WokenYearsModel" D (tysC cI cR) 16 ad (some .int)) {k161 : Sg → Option (Int32 × Sg)} (r : Int32) (σo : Sg)  (hk161 : ∀ (σ1 : Sg), k161 σ1 = some (r, σo) → Jd p l e (rmF 6 141) s m args below meth c D 16 ad (celM cI ad) okM 3 (MQ below (QI D (tysC cI cR) 16 ad (celM cI ad) okM r σo) args s 0 0 (inA 16 ad)) 161 [(0, .ref (ad 0))] [] σ1) : ∀ (n : Nat) (x2 : Int32) (σx : Sg), l_X6_town_99 k161 n x2 σx = some (r, σo) → Jd p l e (rmF 6 141) s m args below meth c D 16 ad (celM cI ad) okM 3 (MQ below (QI D (tysC cI cR) 16 ad (celM cI ad) okM r σo) args s 0 0 (inA 16 ad)) 99 [(0, .ref (ad 0)), (2, .int x2)] [] σx := by
  intro n
  induction n with
  | zero => intro x2 σx h; cases h
  | succ n ih =>
    intro x2 σx h
    unfold l_X6_town_99 at h
    refine J_iload_n (q := 100) C dX6_town_99 rfl rfl 1 rfl ?_
    refine J_aload_n (q := 101) C dX6_town_100 rfl rfl 0 rfl ?_
    refine JM_g_X6_houses (q := 104) C kF_X6_66 dX6_town_101 rfl ?_
    refine J_icmp_ge (tgt := 161) (q := 107) C dX6_town_104 rfl (by decide) h (fun _ h => ?_) (fun _ h => ?_)
    · refine J_sub [0] rfl ?_
      exact hk161 _ h
    · refine J_aload_n (q := 108) C dX6_town_107 rfl rfl 0 rfl ?_
      refine JM_g_X6_sort (q := 111) C kF_X6_32 dX6_town_108 rfl ?_
      refine J_iload_n (q := 112) C dX6_town_111 rfl rfl 1 rfl ?_
      refine J_aload_n (q := 113) C dX6_town_112 rfl rfl 0 rfl ?_
      refine JM_g_X6_readHouse (q := 116) C kF_X6_29 dX6_town_113 rfl ?_
      refine J_iconst (v := 3 ) (q := 117) C dX6_town_116 rfl rfl ?_
      refine J_iload_n (q := 118) C dX6_town_117 rfl rfl 1 rfl ?_
      refine J_imul (q := 119) C dX6_town_118 rfl ?_
      refine JM_iald (q := 120) C isMA_6 h dX6_town_119 rfl (fun h => ?_)
      refine JM_iast (q := 121) C isMA_7 h dX6_town_120 rfl (fun h => ?_)
      refine jn_elim h (fun σ8 eσ8 h => ?_)
      rw [← eσ8]
      refine J_aload_n (q := 122) C dX6_town_121 rfl rfl 0 rfl ?_
      refine JM_g_X6_now (q := 125) C kF_X6_38 dX6_town_122 rfl ?_
      refine J_iconst (v := 5 ) (q := 126) C dX6_town_125 rfl rfl ?_
      refine J_iload_n (q := 127) C dX6_town_126 rfl rfl 1 rfl ?_
      refine J_iadd (q := 128) C dX6_town_127 rfl ?_
      refine J_aload_n (q := 129) C dX6_town_128 rfl rfl 0 rfl ?_
      refine JM_g_X6_readHouse (q := 132) C kF_X6_29 dX6_town_129 rfl ?_
      refine J_iconst (v := 3 ) (q := 133) C dX6_town_132 rfl rfl ?_
      refine J_iload_n (q := 134) C dX6_town_133 rfl rfl 1 rfl ?_
      refine J_imul (q := 135) C dX6_town_134 rfl ?_
      refine J_iconst (v := 1 ) (q := 136) C dX6_town_135 rfl rfl ?_
      refine J_iadd (q := 137) C dX6_town_136 rfl ?_
      refine JM_iald (q := 138) C isMA_6 h dX6_town_137 rfl (fun h => ?_)
      refine JM_iast (q := 139) C isMA_9 h dX6_town_138 rfl (fun h => ?_)
      refine jn_elim h (fun σ9 eσ9 h => ?_)
      rw [← eσ9]
      refine J_aload_n (q := 140) C dX6_town_139 rfl rfl 0 rfl ?_
      refine JM_g_X6_wants (q := 143) C kF_X6_35 dX6_town_140 rfl ?_
      refine J_iload_n (q := 144) C dX6_town_143 rfl rfl 1 rfl ?_
      refine J_aload_n (q := 145) C dX6_town_144 rfl rfl 0 rfl ?_
      refine JM_g_X6_readHouse (q := 148) C kF_X6_29 dX6_town_145 rfl ?_
      refine J_iconst (v := 3 ) (q := 149) C dX6_town_148 rfl rfl ?_
      refine J_iload_n (q := 150) C dX6_town_149 rfl rfl 1 rfl ?_
      refine J_imul (q := 151) C dX6_town_150 rfl ?_
      refine J_iconst (v := 2 ) (q := 152) C dX6_town_151 rfl rfl ?_
      refine J_iadd (q := 153) C dX6_town_152 rfl ?_
      refine JM_iald (q := 154) C isMA_6 h dX6_town_153 rfl (fun h => ?_)
      refine JM_iast (q := 155) C isMA_8 h dX6_town_154 rfl (fun h => ?_)
      refine jn_elim h (fun σ10 eσ10 h => ?_)
      rw [← eσ10]
      refine jn_elim h (fun y11 ey11 h => ?_)
      refine J_iinc (v := y11) (q := 158) C dX6_town_155 rfl 1 rfl (by rw [ey11]; rfl) (by decide) rfl ?_
      refine J_goto (tgt := 99) C dX6_town_158 (by decide) ?_
      refine J_sub [1, 0] rfl ?_
      exact ih _ _ h
set_option maxHeartbeats 4000000 in
set_option maxRecDepth 100000 in
theorem cl_X6_town_168 {p : Program} {l : Launch} {e : Env} {s : State} {m : MethodId} {args : Array Value} {below : List Frame} {meth : Method} {c : Code} {D : va_G} {cI cR : ClassId} {ad : Nat → Nat} (hap : apN 16 ad) (C : Cx p s m args meth c cX6_town 3 "WokenYearsModel" D (tysC cI cR) 16 ad (some .int)) {k186 : Sg → Option (Int32 × Sg)} (r : Int32) (σo : Sg)  (hk186 : ∀ (σ1 : Sg), k186 σ1 = some (r, σo) → Jd p l e (rmF 6 141) s m args below meth c D 16 ad (celM cI ad) okM 3 (MQ below (QI D (tysC cI cR) 16 ad (celM cI ad) okM r σo) args s 0 0 (inA 16 ad)) 186 [(0, .ref (ad 0))] [] σ1) : ∀ (n : Nat) (x2 : Int32) (σx : Sg), l_X6_town_168 k186 n x2 σx = some (r, σo) → Jd p l e (rmF 6 141) s m args below meth c D 16 ad (celM cI ad) okM 3 (MQ below (QI D (tysC cI cR) 16 ad (celM cI ad) okM r σo) args s 0 0 (inA 16 ad)) 168 [(0, .ref (ad 0)), (2, .int x2)] [] σx := by
  intro n
  induction n with
  | zero => intro x2 σx h; cases h
  | succ n ih =>
    intro x2 σx h
    unfold l_X6_town_168 at h
    refine J_iload_n (q := 169) C dX6_town_168 rfl rfl 1 rfl ?_
    refine J_iconst (v := 3 ) (q := 170) C dX6_town_169 rfl rfl ?_
    refine J_icmp_ge (tgt := 186) (q := 173) C dX6_town_170 rfl (by decide) h (fun _ h => ?_) (fun _ h => ?_)
    · refine J_sub [0] rfl ?_
      exact hk186 _ h
    · refine J_aload_n (q := 174) C dX6_town_173 rfl rfl 0 rfl ?_
      refine JM_g_X6_keptMany (q := 177) C kF_X6_50 dX6_town_174 rfl ?_
      refine J_iload_n (q := 178) C dX6_town_177 rfl rfl 1 rfl ?_
      refine J_iconst (v := -1 ) (q := 179) C dX6_town_178 rfl rfl ?_
      refine JM_iast (q := 180) C isMA_13 h dX6_town_179 rfl (fun h => ?_)
      refine jn_elim h (fun σ13 eσ13 h => ?_)
      rw [← eσ13]
      refine jn_elim h (fun y14 ey14 h => ?_)
      refine J_iinc (v := y14) (q := 183) C dX6_town_180 rfl 1 rfl (by rw [ey14]; rfl) (by decide) rfl ?_
      refine J_goto (tgt := 168) C dX6_town_183 (by decide) ?_
      refine J_sub [1, 0] rfl ?_
      exact ih _ _ h
set_option maxHeartbeats 4000000 in
set_option maxRecDepth 100000 in
theorem c_X6_town {l : Launch} {D : va_G} {cI cR : ClassId} {ad : Nat → Nat} (hap : apN 16 ad) {i1 : Int32} {σ : Sg} {r : Int32} {σo : Sg}  (h : f_X6_town i1 σ = some (r, σo)) : MI l D (tysC cI cR) 16 ad (celM cI ad) okM yX6_town cX6_town 3 .int 6 141 [.ref (ad 0), .int i1] σ r σo := by
  unfold f_X6_town at h
  refine entI "WokenYearsModel" hap (by decide +kernel) rfl (Nat.le_of_ble_eq_true rfl) (fun p e s m args below meth c C => ?_)
  refine J_sub (lv' := [(0, .ref (ad 0)), (1, .int i1)]) [0, 1] rfl ?_
  refine J_iload_n (q := 1) C dX6_town_0 rfl rfl 1 rfl ?_
  refine J_iconst (v := 0 ) (q := 2) C dX6_town_1 rfl rfl ?_
  refine J_iconst (v := 3 ) (q := 3) C dX6_town_2 rfl rfl ?_
  obtain ⟨r1, ec1, h⟩ := bnd_of h
  refine J_callIS (q := 6) (As := [.int i1, .int (0 : Int32), .int (3 : Int32)]) C (c_X6_in hap  ec1) ok_X6_in kM_X6_69 rfl rfl rfl ⟨Nat.le_of_ble_eq_true rfl, Nat.le_of_ble_eq_true rfl⟩ (Nat.le_of_ble_eq_true rfl) dX6_town_3 rfl ?_
  refine J_ifne_b (tgt := 11) (q := 9) C dX6_town_6 rfl (by decide) h (fun _ h => ?_) (fun _ h => ?_)
  · refine J_aload_n (q := 12) C dX6_town_11 rfl rfl 0 rfl ?_
    refine JM_g_X6_textSize (q := 15) C kF_X6_16 dX6_town_12 rfl ?_
    refine J_iload_n (q := 16) C dX6_town_15 rfl rfl 1 rfl ?_
    refine JM_iald (q := 17) C isMA_3 h dX6_town_16 rfl (fun h => ?_)
    refine J_if_ge (tgt := 26) (q := 20) C dX6_town_17 rfl (by decide) h (fun _ h => ?_) (fun _ h => ?_)
    · refine J_aload_n (q := 27) C dX6_town_26 rfl rfl 0 rfl ?_
      refine J_iload_n (q := 28) C dX6_town_27 rfl rfl 1 rfl ?_
      obtain ⟨r2, σ2, ec2, h⟩ := bnd2_of h
      refine J_callIV (q := 31) (As := [.int i1]) C (c_X6_read hap  ec2) ok_X6_read kM_X6_128 (by decide) rfl rfl rfl rfl rfl rfl ⟨Nat.le_of_ble_eq_true rfl, Nat.le_of_ble_eq_true rfl⟩ (Nat.le_of_ble_eq_true rfl) dX6_town_28 rfl ?_
      refine J_bipush (v := -9) (q := 33) C dX6_town_31 rfl rfl ?_
      refine J_icmp_eq (tgt := 39) (q := 36) C dX6_town_33 rfl (by decide) h (fun _ h => ?_) (fun _ h => ?_)
      · refine J_aload_n (q := 40) C dX6_town_39 rfl rfl 0 rfl ?_
        refine J_aload_n (q := 41) C dX6_town_40 rfl rfl 0 rfl ?_
        refine JM_g_X6_readQuarrel (q := 44) C kF_X6_109 dX6_town_41 rfl ?_
        refine JM_p_X6_quarrel (q := 47) C kF_X6_131 dX6_town_44 rfl ?_
        refine jn_elim h (fun σ3 eσ3 h => ?_)
        rw [← eσ3]
        refine J_aload_n (q := 48) C dX6_town_47 rfl rfl 0 rfl ?_
        refine J_aload_n (q := 49) C dX6_town_48 rfl rfl 0 rfl ?_
        refine JM_g_X6_readHouses (q := 52) C kF_X6_115 dX6_town_49 rfl ?_
        refine JM_p_X6_houses (q := 55) C kF_X6_66 dX6_town_52 rfl ?_
        refine jn_elim h (fun σ4 eσ4 h => ?_)
        rw [← eσ4]
        refine J_iconst (v := 0 ) (q := 56) C dX6_town_55 rfl rfl ?_
        refine J_istore_n (q := 57) C dX6_town_56 rfl rfl (by decide) rfl ?_
        refine J_sub [1, 0] rfl ?_
        refine cl_X6_town_57 hap C r σo  (fun σv87 h => ?_) FU _ _ h
        · refine J_aload_n (q := 88) C dX6_town_87 rfl rfl 0 rfl ?_
          refine JM_g_X6_now (q := 91) C kF_X6_38 dX6_town_88 rfl ?_
          refine J_iconst (v := 3 ) (q := 92) C dX6_town_91 rfl rfl ?_
          refine J_aload_n (q := 93) C dX6_town_92 rfl rfl 0 rfl ?_
          refine JM_g_X6_readFrost (q := 96) C kF_X6_102 dX6_town_93 rfl ?_
          refine JM_iast (q := 97) C isMA_9 h dX6_town_96 rfl (fun h => ?_)
          refine jn_elim h (fun σ7 eσ7 h => ?_)
          rw [← eσ7]
          refine J_iconst (v := 0 ) (q := 98) C dX6_town_97 rfl rfl ?_
          refine J_istore_n (q := 99) C dX6_town_98 rfl rfl (by decide) rfl ?_
          refine J_sub [1, 0] rfl ?_
          refine cl_X6_town_99 hap C r σo  (fun σv161 h => ?_) FU _ _ h
          · refine J_aload_n (q := 162) C dX6_town_161 rfl rfl 0 rfl ?_
            refine J_iconst (v := 0 ) (q := 163) C dX6_town_162 rfl rfl ?_
            refine JM_p_X6_deeds (q := 166) C kF_X6_134 dX6_town_163 rfl ?_
            refine jn_elim h (fun σ12 eσ12 h => ?_)
            rw [← eσ12]
            refine J_iconst (v := 0 ) (q := 167) C dX6_town_166 rfl rfl ?_
            refine J_istore_n (q := 168) C dX6_town_167 rfl rfl (by decide) rfl ?_
            refine J_sub [1, 0] rfl ?_
            refine cl_X6_town_168 hap C r σo  (fun σv186 h => ?_) FU _ _ h
            · refine J_aload_n (q := 187) C dX6_town_186 rfl rfl 0 rfl ?_
              refine JM_g_X6_houses (q := 190) C kF_X6_66 dX6_town_187 rfl ?_
              obtain ⟨rfl, rfl⟩ := Prod.mk.inj (Option.some.inj h)
              exact J_iret C dX6_town_190
      · refine J_bipush (v := -4) (q := 38) C dX6_town_36 rfl rfl ?_
        obtain ⟨rfl, rfl⟩ := Prod.mk.inj (Option.some.inj h)
        exact J_iret C dX6_town_38
    · refine J_aload_n (q := 21) C dX6_town_20 rfl rfl 0 rfl ?_
      refine J_iconst (v := 1 ) (q := 22) C dX6_town_21 rfl rfl ?_
      obtain ⟨r15, σ15, ec15, h⟩ := bnd2_of h
      refine J_callIV (q := 25) (As := [.int (1 : Int32)]) C (c_X6_finds hap  ec15) ok_X6_finds kM_X6_73 (by decide) rfl rfl rfl rfl rfl rfl ⟨Nat.le_of_ble_eq_true rfl, Nat.le_of_ble_eq_true rfl⟩ (Nat.le_of_ble_eq_true rfl) dX6_town_22 rfl ?_
      obtain ⟨rfl, rfl⟩ := Prod.mk.inj (Option.some.inj h)
      exact J_iret C dX6_town_25
  · refine J_iconst (v := -1 ) (q := 10) C dX6_town_9 rfl rfl ?_
    obtain ⟨rfl, rfl⟩ := Prod.mk.inj (Option.some.inj h)
    exact J_iret C dX6_town_10
set_option maxHeartbeats 4000000 in
set_option maxRecDepth 100000 in
theorem c_X6_is {l : Launch} {D : va_G} {cI cR : ClassId} {ad : Nat → Nat} (hap : apN 16 ad) {i0 : Int32} {i1 : Int32} {σ : Sg} {r : Bool}  (h : f_X6_is i0 i1 = some r) : MI l D (tysC cI cR) 16 ad (celM cI ad) okM yX6_is cX6_is 2 .boolean 1 30 [.int i0, .int i1] σ (b2i r) σ := by
  unfold f_X6_is at h
  refine entI "WokenYearsModel" hap (by decide +kernel) rfl (Nat.le_of_ble_eq_true rfl) (fun p e s m args below meth c C => ?_)
  refine J_sub (lv' := [(0, .int i0), (1, .int i1)]) [0, 1] rfl ?_
  refine J_iload_n (q := 1) C dX6_is_0 rfl rfl 0 rfl ?_
  refine J_iload_n (q := 2) C dX6_is_1 rfl rfl 1 rfl ?_
  refine J_icmp_eq (tgt := 29) (q := 5) C dX6_is_2 rfl (by decide) h (fun _ h => ?_) (fun _ h => ?_)
  · refine J_iconst (v := 1 ) (q := 30) C dX6_is_29 rfl rfl ?_
    refine J_goto (tgt := 34) C dX6_is_30 (by decide) ?_
    obtain rfl := Option.some.inj h
    exact J_zret (b := true) C dX6_is_34
  · refine J_iload_n (q := 6) C dX6_is_5 rfl rfl 1 rfl ?_
    refine J_if_eq (tgt := 29) (q := 9) C dX6_is_6 rfl (by decide) h (fun _ h => ?_) (fun _ h => ?_)
    · refine J_iconst (v := 1 ) (q := 30) C dX6_is_29 rfl rfl ?_
      refine J_goto (tgt := 34) C dX6_is_30 (by decide) ?_
      obtain rfl := Option.some.inj h
      exact J_zret (b := true) C dX6_is_34
    · refine J_iload_n (q := 10) C dX6_is_9 rfl rfl 0 rfl ?_
      refine J_iconst (v := 4 ) (q := 11) C dX6_is_10 rfl rfl ?_
      refine jn_elim h (fun k19 ek19 h => ?_)
      have hk19 : k19 = some r → Jd p l e (rmF 1 30) s m args below meth c D 16 ad (celM cI ad) okM 2 (MQ below (QI D (tysC cI cR) 16 ad (celM cI ad) okM (b2i r) σ) args s 0 0 (inA 16 ad)) 19 [(0, .int i0), (1, .int i1)] [] σ := by
        intro  h
        rw [ek19] at h
        refine J_iload_n (q := 20) C dX6_is_19 rfl rfl 0 rfl ?_
        refine J_iconst (v := 5 ) (q := 21) C dX6_is_20 rfl rfl ?_
        refine J_icmp_ne (tgt := 33) (q := 24) C dX6_is_21 rfl (by decide) h (fun _ h => ?_) (fun _ h => ?_)
        · refine J_iload_n (q := 25) C dX6_is_24 rfl rfl 1 rfl ?_
          refine J_iconst (v := 2 ) (q := 26) C dX6_is_25 rfl rfl ?_
          refine J_icmp_ne (tgt := 33) (q := 29) C dX6_is_26 rfl (by decide) h (fun _ h => ?_) (fun _ h => ?_)
          · refine J_iconst (v := 1 ) (q := 30) C dX6_is_29 rfl rfl ?_
            refine J_goto (tgt := 34) C dX6_is_30 (by decide) ?_
            obtain rfl := Option.some.inj h
            exact J_zret (b := true) C dX6_is_34
          · refine J_iconst (v := 0 ) (q := 34) C dX6_is_33 rfl rfl ?_
            obtain rfl := Option.some.inj h
            exact J_zret (b := false) C dX6_is_34
        · refine J_iconst (v := 0 ) (q := 34) C dX6_is_33 rfl rfl ?_
          obtain rfl := Option.some.inj h
          exact J_zret (b := false) C dX6_is_34
      refine J_icmp_ne (tgt := 19) (q := 14) C dX6_is_11 rfl (by decide) h (fun _ h => ?_) (fun _ h => ?_)
      · refine J_iload_n (q := 15) C dX6_is_14 rfl rfl 1 rfl ?_
        refine J_iconst (v := 1 ) (q := 16) C dX6_is_15 rfl rfl ?_
        refine J_icmp_eq (tgt := 29) (q := 19) C dX6_is_16 rfl (by decide) h (fun _ h => ?_) (fun _ h => ?_)
        · refine J_iconst (v := 1 ) (q := 30) C dX6_is_29 rfl rfl ?_
          refine J_goto (tgt := 34) C dX6_is_30 (by decide) ?_
          obtain rfl := Option.some.inj h
          exact J_zret (b := true) C dX6_is_34
        · exact hk19 h
      · exact hk19 h
set_option maxHeartbeats 4000000 in
set_option maxRecDepth 100000 in
theorem c_X6_takesBy {l : Launch} {D : va_G} {cI cR : ClassId} {ad : Nat → Nat} (hap : apN 16 ad) {i1 : Int32} {i2 : Int32} {σ : Sg} {r : Int32}  (h : f_X6_takesBy i1 i2 σ = some r) : MI l D (tysC cI cR) 16 ad (celM cI ad) okM yX6_takesBy cX6_takesBy 5 .int 2 52 [.ref (ad 0), .int i1, .int i2] σ r σ := by
  unfold f_X6_takesBy at h
  refine entI "WokenYearsModel" hap (by decide +kernel) rfl (Nat.le_of_ble_eq_true rfl) (fun p e s m args below meth c C => ?_)
  refine J_sub (lv' := [(0, .ref (ad 0)), (1, .int i1), (2, .int i2)]) [0, 1, 2] rfl ?_
  refine J_aload_n (q := 1) C dX6_takesBy_0 rfl rfl 0 rfl ?_
  refine JM_g_X6_now (q := 4) C kF_X6_38 dX6_takesBy_1 rfl ?_
  refine J_iconst (v := 3 ) (q := 5) C dX6_takesBy_4 rfl rfl ?_
  refine JM_iald (q := 6) C isMA_9 h dX6_takesBy_5 rfl (fun h => ?_)
  refine J_iconst (v := 1 ) (q := 7) C dX6_takesBy_6 rfl rfl ?_
  refine jn_elim h (fun k31 ek31 h => ?_)
  have hk31 : ∀ (t0_31 : Bool), k31 t0_31 = some r → Jd p l e (rmF 2 52) s m args below meth c D 16 ad (celM cI ad) okM 5 (MQ below (QI D (tysC cI cR) 16 ad (celM cI ad) okM r σ) args s 0 0 (inA 16 ad)) 31 [(1, .int i1), (2, .int i2)] [.int (b2i t0_31)] σ := by
    intro t0_31 h
    rw [ek31] at h
    refine J_istore_n (q := 32) C dX6_takesBy_31 rfl rfl (by decide) rfl ?_
    refine J_iload_n (q := 33) C dX6_takesBy_32 rfl rfl 2 rfl ?_
    refine J_bipush (v := 50) (q := 35) C dX6_takesBy_33 rfl rfl ?_
    refine jn_elim h (fun k43 ek43 h => ?_)
    have hk43 : ∀ (t0_43 : Int32), k43 t0_43 = some r → Jd p l e (rmF 2 52) s m args below meth c D 16 ad (celM cI ad) okM 5 (MQ below (QI D (tysC cI cR) 16 ad (celM cI ad) okM r σ) args s 0 0 (inA 16 ad)) 43 [(1, .int i1), (3, .int (b2i t0_31))] [.int t0_43] σ := by
      intro t0_43 h
      rw [ek43] at h
      refine J_istore (q := 45) C dX6_takesBy_43 rfl (by decide) rfl ?_
      refine J_iload_n (q := 46) C dX6_takesBy_45 rfl rfl 1 rfl ?_
      refine J_iconst (v := 3 ) (q := 47) C dX6_takesBy_46 rfl rfl ?_
      refine J_icmp_eq (tgt := 54) (q := 50) C dX6_takesBy_47 rfl (by decide) h (fun _ h => ?_) (fun _ h => ?_)
      · refine J_bipush (v := -9) (q := 56) C dX6_takesBy_54 rfl rfl ?_
        obtain rfl := Option.some.inj h
        exact J_iret C dX6_takesBy_56
      · refine J_iload_n (q := 51) C dX6_takesBy_50 rfl rfl 2 rfl ?_
        refine J_ifeq_b (tgt := 57) (q := 54) C dX6_takesBy_51 rfl (by decide) h (fun _ h => ?_) (fun _ h => ?_)
        · refine J_bipush (v := -9) (q := 56) C dX6_takesBy_54 rfl rfl ?_
          obtain rfl := Option.some.inj h
          exact J_iret C dX6_takesBy_56
        · refine J_iload_n (q := 58) C dX6_takesBy_57 rfl rfl 1 rfl ?_
          refine J_iconst (v := 1 ) (q := 59) C dX6_takesBy_58 rfl rfl ?_
          refine J_icmp_ne (tgt := 69) (q := 62) C dX6_takesBy_59 rfl (by decide) h (fun _ h => ?_) (fun _ h => ?_)
          · refine J_iconst (v := 2 ) (q := 63) C dX6_takesBy_62 rfl rfl ?_
            refine J_iload (q := 65) C dX6_takesBy_63 rfl 0 rfl ?_
            refine J_imul (q := 66) C dX6_takesBy_65 rfl ?_
            refine J_goto (tgt := 85) C dX6_takesBy_66 (by decide) ?_
            obtain rfl := Option.some.inj h
            exact J_iret C dX6_takesBy_85
          · refine J_iload_n (q := 70) C dX6_takesBy_69 rfl rfl 1 rfl ?_
            refine J_iconst (v := 4 ) (q := 71) C dX6_takesBy_70 rfl rfl ?_
            refine J_icmp_ne (tgt := 83) (q := 74) C dX6_takesBy_71 rfl (by decide) h (fun _ h => ?_) (fun _ h => ?_)
            · refine J_iconst (v := 2 ) (q := 75) C dX6_takesBy_74 rfl rfl ?_
              refine J_iload (q := 77) C dX6_takesBy_75 rfl 0 rfl ?_
              refine J_imul (q := 78) C dX6_takesBy_77 rfl ?_
              refine J_iconst (v := 1 ) (q := 79) C dX6_takesBy_78 rfl rfl ?_
              refine J_iadd (q := 80) C dX6_takesBy_79 rfl ?_
              refine J_goto (tgt := 85) C dX6_takesBy_80 (by decide) ?_
              obtain rfl := Option.some.inj h
              exact J_iret C dX6_takesBy_85
            · refine J_iload (q := 85) C dX6_takesBy_83 rfl 0 rfl ?_
              obtain rfl := Option.some.inj h
              exact J_iret C dX6_takesBy_85
    refine J_icmp_ge (tgt := 42) (q := 38) C dX6_takesBy_35 rfl (by decide) h (fun _ h => ?_) (fun _ h => ?_)
    · refine J_iconst (v := 1 ) (q := 43) C dX6_takesBy_42 rfl rfl ?_
      refine J_sub [1, 0] rfl ?_
      exact hk43 _ h
    · refine J_iconst (v := 2 ) (q := 39) C dX6_takesBy_38 rfl rfl ?_
      refine J_goto (tgt := 43) C dX6_takesBy_39 (by decide) ?_
      refine J_sub [1, 0] rfl ?_
      exact hk43 _ h
  refine jn_elim h (fun k30 ek30 h => ?_)
  have hk30 : k30 = some r → Jd p l e (rmF 2 52) s m args below meth c D 16 ad (celM cI ad) okM 5 (MQ below (QI D (tysC cI cR) 16 ad (celM cI ad) okM r σ) args s 0 0 (inA 16 ad)) 30 [(1, .int i1), (2, .int i2)] [] σ := by
    intro  h
    rw [ek30] at h
    refine J_iconst (v := 0 ) (q := 31) C dX6_takesBy_30 rfl rfl ?_
    exact hk31 _ h
  refine J_icmp_ne (tgt := 30) (q := 10) C dX6_takesBy_7 rfl (by decide) h (fun _ h => ?_) (fun _ h => ?_)
  · refine J_iload_n (q := 11) C dX6_takesBy_10 rfl rfl 2 rfl ?_
    refine J_bipush (v := 40) (q := 13) C dX6_takesBy_11 rfl rfl ?_
    refine J_bipush (v := 49) (q := 15) C dX6_takesBy_13 rfl rfl ?_
    obtain ⟨r1, ec1, h⟩ := bnd_of h
    refine J_callIS (q := 18) (As := [.int i2, .int (40 : Int32), .int (49 : Int32)]) C (c_X6_in hap  ec1) ok_X6_in kM_X6_69 rfl rfl rfl ⟨Nat.le_of_ble_eq_true rfl, Nat.le_of_ble_eq_true rfl⟩ (Nat.le_of_ble_eq_true rfl) dX6_takesBy_15 rfl ?_
    refine J_ifeq_b (tgt := 30) (q := 21) C dX6_takesBy_18 rfl (by decide) h (fun _ h => ?_) (fun _ h => ?_)
    · refine J_iload_n (q := 22) C dX6_takesBy_21 rfl rfl 1 rfl ?_
      refine J_iconst (v := 5 ) (q := 23) C dX6_takesBy_22 rfl rfl ?_
      refine J_icmp_eq (tgt := 30) (q := 26) C dX6_takesBy_23 rfl (by decide) h (fun _ h => ?_) (fun _ h => ?_)
      · refine J_sub [1, 2] rfl ?_
        exact hk30 h
      · refine J_iconst (v := 1 ) (q := 27) C dX6_takesBy_26 rfl rfl ?_
        refine J_goto (tgt := 31) C dX6_takesBy_27 (by decide) ?_
        refine J_sub [1, 2] rfl ?_
        exact hk31 _ h
    · refine J_sub [1, 2] rfl ?_
      exact hk30 h
  · refine J_sub [1, 2] rfl ?_
    exact hk30 h
set_option maxHeartbeats 4000000 in
set_option maxRecDepth 100000 in
theorem c_X6_takesOf {l : Launch} {D : va_G} {cI cR : ClassId} {ad : Nat → Nat} (hap : apN 16 ad) {i1 : Int32} {σ : Sg} {r : Int32}  (h : f_X6_takesOf i1 σ = some r) : MI l D (tysC cI cR) 16 ad (celM cI ad) okM yX6_takesOf cX6_takesOf 2 .int 3 76 [.ref (ad 0), .int i1] σ r σ := by
  unfold f_X6_takesOf at h
  refine entI "WokenYearsModel" hap (by decide +kernel) rfl (Nat.le_of_ble_eq_true rfl) (fun p e s m args below meth c C => ?_)
  refine J_sub (lv' := [(0, .ref (ad 0)), (1, .int i1)]) [0, 1] rfl ?_
  refine J_aload_n (q := 1) C dX6_takesOf_0 rfl rfl 0 rfl ?_
  refine J_aload_n (q := 2) C dX6_takesOf_1 rfl rfl 0 rfl ?_
  refine JM_g_X6_sort (q := 5) C kF_X6_32 dX6_takesOf_2 rfl ?_
  refine J_iload_n (q := 6) C dX6_takesOf_5 rfl rfl 1 rfl ?_
  refine JM_iald (q := 7) C isMA_7 h dX6_takesOf_6 rfl (fun h => ?_)
  refine J_aload_n (q := 8) C dX6_takesOf_7 rfl rfl 0 rfl ?_
  refine JM_g_X6_now (q := 11) C kF_X6_38 dX6_takesOf_8 rfl ?_
  refine J_iconst (v := 5 ) (q := 12) C dX6_takesOf_11 rfl rfl ?_
  refine J_iload_n (q := 13) C dX6_takesOf_12 rfl rfl 1 rfl ?_
  refine J_iadd (q := 14) C dX6_takesOf_13 rfl ?_
  refine JM_iald (q := 15) C isMA_9 h dX6_takesOf_14 rfl (fun h => ?_)
  obtain ⟨r1, ec1, h⟩ := bnd_of h
  refine J_callIV (q := 18) (As := [.int (gA σ 7 i1.toNatClampNeg), .int (gA σ 9 ((5 : Int32) + i1).toNatClampNeg)]) C (c_X6_takesBy hap  ec1) ok_X6_takesBy kM_X6_137 (by decide) rfl rfl rfl rfl rfl rfl ⟨Nat.le_of_ble_eq_true rfl, Nat.le_of_ble_eq_true rfl⟩ (Nat.le_of_ble_eq_true rfl) dX6_takesOf_15 rfl ?_
  obtain rfl := Option.some.inj h
  exact J_iret C dX6_takesOf_18
set_option maxHeartbeats 4000000 in
set_option maxRecDepth 100000 in
theorem c_X6_paysBy {l : Launch} {D : va_G} {cI cR : ClassId} {ad : Nat → Nat} (hap : apN 16 ad) {i0 : Int32} {σ : Sg} {r : Int32}  (h : f_X6_paysBy i0 = some r) : MI l D (tysC cI cR) 16 ad (celM cI ad) okM yX6_paysBy cX6_paysBy 1 .int 1 30 [.int i0] σ r σ := by
  unfold f_X6_paysBy at h
  refine entI "WokenYearsModel" hap (by decide +kernel) rfl (Nat.le_of_ble_eq_true rfl) (fun p e s m args below meth c C => ?_)
  refine J_sub (lv' := [(0, .int i0)]) [0] rfl ?_
  refine J_iload_n (q := 1) C dX6_paysBy_0 rfl rfl 0 rfl ?_
  refine J_iconst (v := 3 ) (q := 2) C dX6_paysBy_1 rfl rfl ?_
  refine J_icmp_ne (tgt := 9) (q := 5) C dX6_paysBy_2 rfl (by decide) h (fun _ h => ?_) (fun _ h => ?_)
  · refine J_iconst (v := 0 ) (q := 6) C dX6_paysBy_5 rfl rfl ?_
    refine J_goto (tgt := 28) C dX6_paysBy_6 (by decide) ?_
    obtain rfl := Option.some.inj h
    exact J_iret C dX6_paysBy_28
  · refine J_iload_n (q := 10) C dX6_paysBy_9 rfl rfl 0 rfl ?_
    refine J_iconst (v := 2 ) (q := 11) C dX6_paysBy_10 rfl rfl ?_
    refine J_icmp_ne (tgt := 18) (q := 14) C dX6_paysBy_11 rfl (by decide) h (fun _ h => ?_) (fun _ h => ?_)
    · refine J_iconst (v := 2 ) (q := 15) C dX6_paysBy_14 rfl rfl ?_
      refine J_goto (tgt := 28) C dX6_paysBy_15 (by decide) ?_
      obtain rfl := Option.some.inj h
      exact J_iret C dX6_paysBy_28
    · refine J_iload_n (q := 19) C dX6_paysBy_18 rfl rfl 0 rfl ?_
      refine J_iconst (v := 5 ) (q := 20) C dX6_paysBy_19 rfl rfl ?_
      refine J_icmp_ne (tgt := 27) (q := 23) C dX6_paysBy_20 rfl (by decide) h (fun _ h => ?_) (fun _ h => ?_)
      · refine J_iconst (v := 5 ) (q := 24) C dX6_paysBy_23 rfl rfl ?_
        refine J_goto (tgt := 28) C dX6_paysBy_24 (by decide) ?_
        obtain rfl := Option.some.inj h
        exact J_iret C dX6_paysBy_28
      · refine J_iconst (v := 1 ) (q := 28) C dX6_paysBy_27 rfl rfl ?_
        obtain rfl := Option.some.inj h
        exact J_iret C dX6_paysBy_28
set_option maxHeartbeats 4000000 in
set_option maxRecDepth 100000 in
theorem c_X6_isAwake {l : Launch} {D : va_G} {cI cR : ClassId} {ad : Nat → Nat} (hap : apN 16 ad) {i1 : Int32} {σ : Sg} {r : Bool}  (h : f_X6_isAwake i1 σ = some r) : MI l D (tysC cI cR) 16 ad (celM cI ad) okM yX6_isAwake cX6_isAwake 2 .boolean 1 30 [.ref (ad 0), .int i1] σ (b2i r) σ := by
  unfold f_X6_isAwake at h
  refine entI "WokenYearsModel" hap (by decide +kernel) rfl (Nat.le_of_ble_eq_true rfl) (fun p e s m args below meth c C => ?_)
  refine J_sub (lv' := [(0, .ref (ad 0)), (1, .int i1)]) [0, 1] rfl ?_
  refine J_aload_n (q := 1) C dX6_isAwake_0 rfl rfl 0 rfl ?_
  refine JM_g_X6_now (q := 4) C kF_X6_38 dX6_isAwake_1 rfl ?_
  refine J_bipush (v := 17) (q := 6) C dX6_isAwake_4 rfl rfl ?_
  refine J_iload_n (q := 7) C dX6_isAwake_6 rfl rfl 1 rfl ?_
  refine J_iadd (q := 8) C dX6_isAwake_7 rfl ?_
  refine JM_iald (q := 9) C isMA_9 h dX6_isAwake_8 rfl (fun h => ?_)
  refine J_bipush (v := -9) (q := 11) C dX6_isAwake_9 rfl rfl ?_
  refine J_icmp_eq (tgt := 18) (q := 14) C dX6_isAwake_11 rfl (by decide) h (fun _ h => ?_) (fun _ h => ?_)
  · refine J_iconst (v := 0 ) (q := 19) C dX6_isAwake_18 rfl rfl ?_
    obtain rfl := Option.some.inj h
    exact J_zret (b := false) C dX6_isAwake_19
  · refine J_iconst (v := 1 ) (q := 15) C dX6_isAwake_14 rfl rfl ?_
    refine J_goto (tgt := 19) C dX6_isAwake_15 (by decide) ?_
    obtain rfl := Option.some.inj h
    exact J_zret (b := true) C dX6_isAwake_19
set_option maxHeartbeats 4000000 in
set_option maxRecDepth 100000 in
theorem c_X6_moreOf {l : Launch} {D : va_G} {cI cR : ClassId} {ad : Nat → Nat} (hap : apN 16 ad) {i1 : Int32} {σ : Sg} {r : Int32}  (h : f_X6_moreOf i1 σ = some r) : MI l D (tysC cI cR) 16 ad (celM cI ad) okM yX6_moreOf cX6_moreOf 3 .int 4 97 [.ref (ad 0), .int i1] σ r σ := by
  unfold f_X6_moreOf at h
  refine entI "WokenYearsModel" hap (by decide +kernel) rfl (Nat.le_of_ble_eq_true rfl) (fun p e s m args below meth c C => ?_)
  refine J_sub (lv' := [(0, .ref (ad 0)), (1, .int i1)]) [0, 1] rfl ?_
  refine J_aload_n (q := 1) C dX6_moreOf_0 rfl rfl 0 rfl ?_
  refine J_iload_n (q := 2) C dX6_moreOf_1 rfl rfl 1 rfl ?_
  obtain ⟨r1, ec1, h⟩ := bnd_of h
  refine J_callIV (q := 5) (As := [.int i1]) C (c_X6_isAwake hap  ec1) ok_X6_isAwake kM_X6_140 (by decide) rfl rfl rfl rfl rfl rfl ⟨Nat.le_of_ble_eq_true rfl, Nat.le_of_ble_eq_true rfl⟩ (Nat.le_of_ble_eq_true rfl) dX6_moreOf_2 rfl ?_
  refine J_ifeq_b (tgt := 10) (q := 8) C dX6_moreOf_5 rfl (by decide) h (fun _ h => ?_) (fun _ h => ?_)
  · refine J_iconst (v := 0 ) (q := 9) C dX6_moreOf_8 rfl rfl ?_
    obtain rfl := Option.some.inj h
    exact J_iret C dX6_moreOf_9
  · refine J_aload_n (q := 11) C dX6_moreOf_10 rfl rfl 0 rfl ?_
    refine J_iload_n (q := 12) C dX6_moreOf_11 rfl rfl 1 rfl ?_
    obtain ⟨r2, ec2, h⟩ := bnd_of h
    refine J_callIV (q := 15) (As := [.int i1]) C (c_X6_takesOf hap  ec2) ok_X6_takesOf kM_X6_144 (by decide) rfl rfl rfl rfl rfl rfl ⟨Nat.le_of_ble_eq_true rfl, Nat.le_of_ble_eq_true rfl⟩ (Nat.le_of_ble_eq_true rfl) dX6_moreOf_12 rfl ?_
    refine J_istore_n (q := 16) C dX6_moreOf_15 rfl rfl (by decide) rfl ?_
    refine J_iload_n (q := 17) C dX6_moreOf_16 rfl rfl 0 rfl ?_
    refine J_bipush (v := -9) (q := 19) C dX6_moreOf_17 rfl rfl ?_
    refine J_icmp_ne (tgt := 25) (q := 22) C dX6_moreOf_19 rfl (by decide) h (fun _ h => ?_) (fun _ h => ?_)
    · refine J_bipush (v := -9) (q := 24) C dX6_moreOf_22 rfl rfl ?_
      obtain rfl := Option.some.inj h
      exact J_iret C dX6_moreOf_24
    · refine J_iload_n (q := 26) C dX6_moreOf_25 rfl rfl 0 rfl ?_
      refine J_aload_n (q := 27) C dX6_moreOf_26 rfl rfl 1 rfl ?_
      refine JM_g_X6_now (q := 30) C kF_X6_38 dX6_moreOf_27 rfl ?_
      refine J_bipush (v := 11) (q := 32) C dX6_moreOf_30 rfl rfl ?_
      refine J_iload_n (q := 33) C dX6_moreOf_32 rfl rfl 2 rfl ?_
      refine J_iadd (q := 34) C dX6_moreOf_33 rfl ?_
      refine JM_iald (q := 35) C isMA_9 h dX6_moreOf_34 rfl (fun h => ?_)
      refine J_icmp_le (tgt := 52) (q := 38) C dX6_moreOf_35 rfl (by decide) h (fun _ h => ?_) (fun _ h => ?_)
      · refine J_iconst (v := 1 ) (q := 53) C dX6_moreOf_52 rfl rfl ?_
        obtain rfl := Option.some.inj h
        exact J_iret C dX6_moreOf_53
      · refine J_iload_n (q := 39) C dX6_moreOf_38 rfl rfl 0 rfl ?_
        refine J_aload_n (q := 40) C dX6_moreOf_39 rfl rfl 1 rfl ?_
        refine JM_g_X6_now (q := 43) C kF_X6_38 dX6_moreOf_40 rfl ?_
        refine J_bipush (v := 11) (q := 45) C dX6_moreOf_43 rfl rfl ?_
        refine J_iload_n (q := 46) C dX6_moreOf_45 rfl rfl 2 rfl ?_
        refine J_iadd (q := 47) C dX6_moreOf_46 rfl ?_
        refine JM_iald (q := 48) C isMA_9 h dX6_moreOf_47 rfl (fun h => ?_)
        refine J_isub (q := 49) C dX6_moreOf_48 rfl ?_
        refine J_goto (tgt := 53) C dX6_moreOf_49 (by decide) ?_
        obtain rfl := Option.some.inj h
        exact J_iret C dX6_moreOf_53
set_option maxHeartbeats 4000000 in
set_option maxRecDepth 100000 in
theorem c_X6_houseTells {l : Launch} {D : va_G} {cI cR : ClassId} {ad : Nat → Nat} (hap : apN 16 ad) {i1 : Int32} {i2 : Int32} {σ : Sg} {r : Int32}  (h : f_X6_houseTells i1 i2 σ = some r) : MI l D (tysC cI cR) 16 ad (celM cI ad) okM yX6_houseTells cX6_houseTells 3 .int 5 119 [.ref (ad 0), .int i1, .int i2] σ r σ := by
  unfold f_X6_houseTells at h
  refine entI "WokenYearsModel" hap (by decide +kernel) rfl (Nat.le_of_ble_eq_true rfl) (fun p e s m args below meth c C => ?_)
  refine J_sub (lv' := [(0, .ref (ad 0)), (1, .int i1), (2, .int i2)]) [0, 1, 2] rfl ?_
  refine J_iload_n (q := 1) C dX6_houseTells_0 rfl rfl 2 rfl ?_
  by_cases z0 : i2 = (0 : Int32)
  · have h := itp h z0
    refine J_tsIn (off := 35) (tgt := 36) C (0 : Int32) z0 dX6_houseTells_1 (by decide) (by decide) (by decide) (by decide) ?_
    refine J_aload_n (q := 37) C dX6_houseTells_36 rfl rfl 0 rfl ?_
    refine JM_g_X6_sort (q := 40) C kF_X6_32 dX6_houseTells_37 rfl ?_
    refine J_iload_n (q := 41) C dX6_houseTells_40 rfl rfl 1 rfl ?_
    refine JM_iald (q := 42) C isMA_7 h dX6_houseTells_41 rfl (fun h => ?_)
    obtain rfl := Option.some.inj h
    exact J_iret C dX6_houseTells_42
  have h := itn h z0
  by_cases z1 : i2 = (1 : Int32)
  · have h := itp h z1
    refine J_tsIn (off := 42) (tgt := 43) C (1 : Int32) z1 dX6_houseTells_1 (by decide) (by decide) (by decide) (by decide) ?_
    refine J_aload_n (q := 44) C dX6_houseTells_43 rfl rfl 0 rfl ?_
    refine JM_g_X6_now (q := 47) C kF_X6_38 dX6_houseTells_44 rfl ?_
    refine J_iconst (v := 5 ) (q := 48) C dX6_houseTells_47 rfl rfl ?_
    refine J_iload_n (q := 49) C dX6_houseTells_48 rfl rfl 1 rfl ?_
    refine J_iadd (q := 50) C dX6_houseTells_49 rfl ?_
    refine JM_iald (q := 51) C isMA_9 h dX6_houseTells_50 rfl (fun h => ?_)
    obtain rfl := Option.some.inj h
    exact J_iret C dX6_houseTells_51
  have h := itn h z1
  by_cases z2 : i2 = (2 : Int32)
  · have h := itp h z2
    refine J_tsIn (off := 51) (tgt := 52) C (2 : Int32) z2 dX6_houseTells_1 (by decide) (by decide) (by decide) (by decide) ?_
    refine J_aload_n (q := 53) C dX6_houseTells_52 rfl rfl 0 rfl ?_
    refine JM_g_X6_wants (q := 56) C kF_X6_35 dX6_houseTells_53 rfl ?_
    refine J_iload_n (q := 57) C dX6_houseTells_56 rfl rfl 1 rfl ?_
    refine JM_iald (q := 58) C isMA_8 h dX6_houseTells_57 rfl (fun h => ?_)
    obtain rfl := Option.some.inj h
    exact J_iret C dX6_houseTells_58
  have h := itn h z2
  by_cases z3 : i2 = (3 : Int32)
  · have h := itp h z3
    refine J_tsIn (off := 58) (tgt := 59) C (3 : Int32) z3 dX6_houseTells_1 (by decide) (by decide) (by decide) (by decide) ?_
    refine J_aload_n (q := 60) C dX6_houseTells_59 rfl rfl 0 rfl ?_
    refine JM_g_X6_now (q := 63) C kF_X6_38 dX6_houseTells_60 rfl ?_
    refine J_bipush (v := 11) (q := 65) C dX6_houseTells_63 rfl rfl ?_
    refine J_iload_n (q := 66) C dX6_houseTells_65 rfl rfl 1 rfl ?_
    refine J_iadd (q := 67) C dX6_houseTells_66 rfl ?_
    refine JM_iald (q := 68) C isMA_9 h dX6_houseTells_67 rfl (fun h => ?_)
    obtain rfl := Option.some.inj h
    exact J_iret C dX6_houseTells_68
  have h := itn h z3
  by_cases z4 : i2 = (4 : Int32)
  · have h := itp h z4
    refine J_tsIn (off := 68) (tgt := 69) C (4 : Int32) z4 dX6_houseTells_1 (by decide) (by decide) (by decide) (by decide) ?_
    refine J_aload_n (q := 70) C dX6_houseTells_69 rfl rfl 0 rfl ?_
    refine JM_g_X6_now (q := 73) C kF_X6_38 dX6_houseTells_70 rfl ?_
    refine J_bipush (v := 17) (q := 75) C dX6_houseTells_73 rfl rfl ?_
    refine J_iload_n (q := 76) C dX6_houseTells_75 rfl rfl 1 rfl ?_
    refine J_iadd (q := 77) C dX6_houseTells_76 rfl ?_
    refine JM_iald (q := 78) C isMA_9 h dX6_houseTells_77 rfl (fun h => ?_)
    obtain rfl := Option.some.inj h
    exact J_iret C dX6_houseTells_78
  have h := itn h z4
  have w0 : i2.toInt ≠ 0 := fun e => z0 (Int32.toInt_inj.mp (e.trans (by decide)))
  have w1 : i2.toInt ≠ 1 := fun e => z1 (Int32.toInt_inj.mp (e.trans (by decide)))
  have w2 : i2.toInt ≠ 2 := fun e => z2 (Int32.toInt_inj.mp (e.trans (by decide)))
  have w3 : i2.toInt ≠ 3 := fun e => z3 (Int32.toInt_inj.mp (e.trans (by decide)))
  have w4 : i2.toInt ≠ 4 := fun e => z4 (Int32.toInt_inj.mp (e.trans (by decide)))
  refine J_tsOut (tgt := 79) C dX6_houseTells_1 (by omega) (by decide) ?_
  refine J_aload_n (q := 80) C dX6_houseTells_79 rfl rfl 0 rfl ?_
  refine J_iload_n (q := 81) C dX6_houseTells_80 rfl rfl 1 rfl ?_
  obtain ⟨r1, ec1, h⟩ := bnd_of h
  refine J_callIV (q := 84) (As := [.int i1]) C (c_X6_moreOf hap  ec1) ok_X6_moreOf kM_X6_147 (by decide) rfl rfl rfl rfl rfl rfl ⟨Nat.le_of_ble_eq_true rfl, Nat.le_of_ble_eq_true rfl⟩ (Nat.le_of_ble_eq_true rfl) dX6_houseTells_81 rfl ?_
  obtain rfl := Option.some.inj h
  exact J_iret C dX6_houseTells_84
set_option maxHeartbeats 4000000 in
set_option maxRecDepth 100000 in
theorem c_X6_house {l : Launch} {D : va_G} {cI cR : ClassId} {ad : Nat → Nat} (hap : apN 16 ad) {i1 : Int32} {i2 : Int32} {σ : Sg} {r : Int32} {σo : Sg}  (h : f_X6_house i1 i2 σ = some (r, σo)) : MI l D (tysC cI cR) 16 ad (celM cI ad) okM yX6_house cX6_house 3 .int 6 141 [.ref (ad 0), .int i1, .int i2] σ r σo := by
  unfold f_X6_house at h
  refine entI "WokenYearsModel" hap (by decide +kernel) rfl (Nat.le_of_ble_eq_true rfl) (fun p e s m args below meth c C => ?_)
  refine J_sub (lv' := [(0, .ref (ad 0)), (1, .int i1), (2, .int i2)]) [0, 1, 2] rfl ?_
  refine J_aload_n (q := 1) C dX6_house_0 rfl rfl 0 rfl ?_
  refine J_iload_n (q := 2) C dX6_house_1 rfl rfl 1 rfl ?_
  obtain ⟨r1, ec1, h⟩ := bnd_of h
  refine J_callIV (q := 5) (As := [.int i1]) C (c_X6_isOne hap  ec1) ok_X6_isOne kM_X6_150 (by decide) rfl rfl rfl rfl rfl rfl ⟨Nat.le_of_ble_eq_true rfl, Nat.le_of_ble_eq_true rfl⟩ (Nat.le_of_ble_eq_true rfl) dX6_house_2 rfl ?_
  refine J_ifeq_b (tgt := 30) (q := 8) C dX6_house_5 rfl (by decide) h (fun _ h => ?_) (fun _ h => ?_)
  · refine J_iload_n (q := 9) C dX6_house_8 rfl rfl 2 rfl ?_
    refine J_iconst (v := 0 ) (q := 10) C dX6_house_9 rfl rfl ?_
    refine J_iconst (v := 5 ) (q := 11) C dX6_house_10 rfl rfl ?_
    obtain ⟨r2, ec2, h⟩ := bnd_of h
    refine J_callIS (q := 14) (As := [.int i2, .int (0 : Int32), .int (5 : Int32)]) C (c_X6_in hap  ec2) ok_X6_in kM_X6_69 rfl rfl rfl ⟨Nat.le_of_ble_eq_true rfl, Nat.le_of_ble_eq_true rfl⟩ (Nat.le_of_ble_eq_true rfl) dX6_house_11 rfl ?_
    refine J_ifeq_b (tgt := 30) (q := 17) C dX6_house_14 rfl (by decide) h (fun _ h => ?_) (fun _ h => ?_)
    · refine J_aload_n (q := 18) C dX6_house_17 rfl rfl 0 rfl ?_
      refine J_aload_n (q := 19) C dX6_house_18 rfl rfl 0 rfl ?_
      refine J_iload_n (q := 20) C dX6_house_19 rfl rfl 1 rfl ?_
      refine J_iload_n (q := 21) C dX6_house_20 rfl rfl 2 rfl ?_
      obtain ⟨r3, ec3, h⟩ := bnd_of h
      refine J_callIV (q := 24) (As := [.int i1, .int i2]) C (c_X6_houseTells hap  ec3) ok_X6_houseTells kM_X6_153 (by decide) rfl rfl rfl rfl rfl rfl ⟨Nat.le_of_ble_eq_true rfl, Nat.le_of_ble_eq_true rfl⟩ (Nat.le_of_ble_eq_true rfl) dX6_house_21 rfl ?_
      obtain ⟨r4, σ4, ec4, h⟩ := bnd2_of h
      refine J_callIV (q := 27) (As := [.int r3]) C (c_X6_tells hap  ec4) ok_X6_tells kM_X6_81 (by decide) rfl rfl rfl rfl rfl rfl ⟨Nat.le_of_ble_eq_true rfl, Nat.le_of_ble_eq_true rfl⟩ (Nat.le_of_ble_eq_true rfl) dX6_house_24 rfl ?_
      refine J_goto (tgt := 31) C dX6_house_27 (by decide) ?_
      obtain ⟨rfl, rfl⟩ := Prod.mk.inj (Option.some.inj h)
      exact J_iret C dX6_house_31
    · refine J_iconst (v := -1 ) (q := 31) C dX6_house_30 rfl rfl ?_
      obtain ⟨rfl, rfl⟩ := Prod.mk.inj (Option.some.inj h)
      exact J_iret C dX6_house_31
  · refine J_iconst (v := -1 ) (q := 31) C dX6_house_30 rfl rfl ?_
    obtain ⟨rfl, rfl⟩ := Prod.mk.inj (Option.some.inj h)
    exact J_iret C dX6_house_31
set_option maxHeartbeats 4000000 in
set_option maxRecDepth 100000 in
theorem cl_X6_awakeOnes_4 {p : Program} {l : Launch} {e : Env} {s : State} {m : MethodId} {args : Array Value} {below : List Frame} {meth : Method} {c : Code} {D : va_G} {cI cR : ClassId} {ad : Nat → Nat} (hap : apN 16 ad) (C : Cx p s m args meth c cX6_awakeOnes 3 "WokenYearsModel" D (tysC cI cR) 16 ad (some .int)) {k36 : Int32 → Option Int32} {σ : Sg} (r : Int32)  (hk36 : ∀ (u1 : Int32), k36 u1 = some r → Jd p l e (rmF 2 51) s m args below meth c D 16 ad (celM cI ad) okM 3 (MQ below (QI D (tysC cI cR) 16 ad (celM cI ad) okM r σ) args s 0 0 (inA 16 ad)) 36 [(1, .int u1)] [] σ) : ∀ (n : Nat) (x1 : Int32) (x2 : Int32), l_X6_awakeOnes_4 σ k36 n x1 x2 = some r → Jd p l e (rmF 2 51) s m args below meth c D 16 ad (celM cI ad) okM 3 (MQ below (QI D (tysC cI cR) 16 ad (celM cI ad) okM r σ) args s 0 0 (inA 16 ad)) 4 [(0, .ref (ad 0)), (1, .int x1), (2, .int x2)] [] σ := by
  intro n
  induction n with
  | zero => intro x1 x2 h; cases h
  | succ n ih =>
    intro x1 x2 h
    unfold l_X6_awakeOnes_4 at h
    refine J_iload_n (q := 5) C dX6_awakeOnes_4 rfl rfl 2 rfl ?_
    refine J_aload_n (q := 6) C dX6_awakeOnes_5 rfl rfl 0 rfl ?_
    refine JM_g_X6_houses (q := 9) C kF_X6_66 dX6_awakeOnes_6 rfl ?_
    refine J_icmp_ge (tgt := 36) (q := 12) C dX6_awakeOnes_9 rfl (by decide) h (fun _ h => ?_) (fun _ h => ?_)
    · refine J_sub [1] rfl ?_
      exact hk36 _ h
    · refine J_iload_n (q := 13) C dX6_awakeOnes_12 rfl rfl 1 rfl ?_
      refine J_aload_n (q := 14) C dX6_awakeOnes_13 rfl rfl 0 rfl ?_
      refine J_iload_n (q := 15) C dX6_awakeOnes_14 rfl rfl 2 rfl ?_
      obtain ⟨r1, ec1, h⟩ := bnd_of h
      refine J_callIV (q := 18) (As := [.int x2]) C (c_X6_isAwake hap  ec1) ok_X6_isAwake kM_X6_140 (by decide) rfl rfl rfl rfl rfl rfl ⟨Nat.le_of_ble_eq_true rfl, Nat.le_of_ble_eq_true rfl⟩ (Nat.le_of_ble_eq_true rfl) dX6_awakeOnes_15 rfl ?_
      refine jn_elim h (fun k28 ek28 h => ?_)
      have hk28 : ∀ (t0_28 : Int32), k28 t0_28 = some r → Jd p l e (rmF 2 51) s m args below meth c D 16 ad (celM cI ad) okM 3 (MQ below (QI D (tysC cI cR) 16 ad (celM cI ad) okM r σ) args s 0 0 (inA 16 ad)) 28 [(0, .ref (ad 0)), (2, .int x2)] [.int t0_28, .int x1] σ := by
        intro t0_28 h
        rw [ek28] at h
        refine J_ior (q := 29) C dX6_awakeOnes_28 rfl ?_
        refine J_nmi h (fun y2 ey2 h => ?_)
        refine J_istore_n (q := 30) C dX6_awakeOnes_29 rfl rfl (by decide) rfl ?_
        refine jn_elim h (fun y3 ey3 h => ?_)
        refine J_iinc (v := y3) (q := 33) C dX6_awakeOnes_30 rfl 2 rfl (by rw [ey3]; rfl) (by decide) rfl ?_
        refine J_goto (tgt := 4) C dX6_awakeOnes_33 (by decide) ?_
        refine J_sub [2, 1, 0] rfl ?_
        exact ih _ _ h
      refine J_ifeq_b (tgt := 27) (q := 21) C dX6_awakeOnes_18 rfl (by decide) h (fun _ h => ?_) (fun _ h => ?_)
      · refine J_iconst (v := 1 ) (q := 22) C dX6_awakeOnes_21 rfl rfl ?_
        refine J_iload_n (q := 23) C dX6_awakeOnes_22 rfl rfl 2 rfl ?_
        refine J_ishl (q := 24) C dX6_awakeOnes_23 rfl ?_
        refine J_goto (tgt := 28) C dX6_awakeOnes_24 (by decide) ?_
        refine J_sub [0, 2] rfl ?_
        exact hk28 _ h
      · refine J_iconst (v := 0 ) (q := 28) C dX6_awakeOnes_27 rfl rfl ?_
        refine J_sub [0, 2] rfl ?_
        exact hk28 _ h
set_option maxHeartbeats 4000000 in
set_option maxRecDepth 100000 in
theorem c_X6_awakeOnes {l : Launch} {D : va_G} {cI cR : ClassId} {ad : Nat → Nat} (hap : apN 16 ad)  {σ : Sg} {r : Int32}  (h : f_X6_awakeOnes σ = some r) : MI l D (tysC cI cR) 16 ad (celM cI ad) okM yX6_awakeOnes cX6_awakeOnes 3 .int 2 51 [.ref (ad 0)] σ r σ := by
  unfold f_X6_awakeOnes at h
  refine entI "WokenYearsModel" hap (by decide +kernel) rfl (Nat.le_of_ble_eq_true rfl) (fun p e s m args below meth c C => ?_)
  refine J_sub (lv' := [(0, .ref (ad 0))]) [0] rfl ?_
  refine J_iconst (v := 0 ) (q := 1) C dX6_awakeOnes_0 rfl rfl ?_
  refine J_istore_n (q := 2) C dX6_awakeOnes_1 rfl rfl (by decide) rfl ?_
  refine J_iconst (v := 0 ) (q := 3) C dX6_awakeOnes_2 rfl rfl ?_
  refine J_istore_n (q := 4) C dX6_awakeOnes_3 rfl rfl (by decide) rfl ?_
  refine J_sub [2, 1, 0] rfl ?_
  refine cl_X6_awakeOnes_4 hap C r  (fun v1_36 h => ?_) FU _ _ h
  · refine J_iload_n (q := 37) C dX6_awakeOnes_36 rfl rfl 0 rfl ?_
    obtain rfl := Option.some.inj h
    exact J_iret C dX6_awakeOnes_37
set_option maxHeartbeats 4000000 in
set_option maxRecDepth 100000 in
theorem cl_X6_earlier_4 {p : Program} {l : Launch} {e : Env} {s : State} {m : MethodId} {args : Array Value} {below : List Frame} {meth : Method} {c : Code} {D : va_G} {cI cR : ClassId} {ad : Nat → Nat} (hap : apN 16 ad) (C : Cx p s m args meth c cX6_earlier 4 "WokenYearsModel" D (tysC cI cR) 16 ad (some .int)) {a1 : Int32} {k45 : Int32 → Option Int32} {σ : Sg} (r : Int32)  (hk45 : ∀ (u2 : Int32), k45 u2 = some r → Jd p l e (rmF 1 30) s m args below meth c D 16 ad (celM cI ad) okM 4 (MQ below (QI D (tysC cI cR) 16 ad (celM cI ad) okM r σ) args s 0 0 (inA 16 ad)) 45 [(2, .int u2)] [] σ) : ∀ (n : Nat) (x2 : Int32) (x3 : Int32), l_X6_earlier_4 a1 σ k45 n x2 x3 = some r → Jd p l e (rmF 1 30) s m args below meth c D 16 ad (celM cI ad) okM 4 (MQ below (QI D (tysC cI cR) 16 ad (celM cI ad) okM r σ) args s 0 0 (inA 16 ad)) 4 [(0, .ref (ad 0)), (1, .int a1), (2, .int x2), (3, .int x3)] [] σ := by
  intro n
  induction n with
  | zero => intro x2 x3 h; cases h
  | succ n ih =>
    intro x2 x3 h
    unfold l_X6_earlier_4 at h
    refine J_iload_n (q := 5) C dX6_earlier_4 rfl rfl 3 rfl ?_
    refine J_aload_n (q := 6) C dX6_earlier_5 rfl rfl 0 rfl ?_
    refine JM_g_X6_houses (q := 9) C kF_X6_66 dX6_earlier_6 rfl ?_
    refine J_icmp_ge (tgt := 45) (q := 12) C dX6_earlier_9 rfl (by decide) h (fun _ h => ?_) (fun _ h => ?_)
    · refine J_sub [2] rfl ?_
      exact hk45 _ h
    · refine J_iload_n (q := 13) C dX6_earlier_12 rfl rfl 2 rfl ?_
      refine J_aload_n (q := 14) C dX6_earlier_13 rfl rfl 0 rfl ?_
      refine JM_g_X6_now (q := 17) C kF_X6_38 dX6_earlier_14 rfl ?_
      refine J_iconst (v := 5 ) (q := 18) C dX6_earlier_17 rfl rfl ?_
      refine J_iload_n (q := 19) C dX6_earlier_18 rfl rfl 3 rfl ?_
      refine J_iadd (q := 20) C dX6_earlier_19 rfl ?_
      refine JM_iald (q := 21) C isMA_9 h dX6_earlier_20 rfl (fun h => ?_)
      refine J_aload_n (q := 22) C dX6_earlier_21 rfl rfl 0 rfl ?_
      refine JM_g_X6_now (q := 25) C kF_X6_38 dX6_earlier_22 rfl ?_
      refine J_iconst (v := 5 ) (q := 26) C dX6_earlier_25 rfl rfl ?_
      refine J_iload_n (q := 27) C dX6_earlier_26 rfl rfl 1 rfl ?_
      refine J_iadd (q := 28) C dX6_earlier_27 rfl ?_
      refine JM_iald (q := 29) C isMA_9 h dX6_earlier_28 rfl (fun h => ?_)
      refine jn_elim h (fun k37 ek37 h => ?_)
      have hk37 : ∀ (t0_37 : Bool), k37 t0_37 = some r → Jd p l e (rmF 1 30) s m args below meth c D 16 ad (celM cI ad) okM 4 (MQ below (QI D (tysC cI cR) 16 ad (celM cI ad) okM r σ) args s 0 0 (inA 16 ad)) 37 [(0, .ref (ad 0)), (1, .int a1), (3, .int x3)] [.int (b2i t0_37), .int x2] σ := by
        intro t0_37 h
        rw [ek37] at h
        refine J_iadd (q := 38) C dX6_earlier_37 rfl ?_
        refine J_nmi h (fun y1 ey1 h => ?_)
        refine J_istore_n (q := 39) C dX6_earlier_38 rfl rfl (by decide) rfl ?_
        refine jn_elim h (fun y2 ey2 h => ?_)
        refine J_iinc (v := y2) (q := 42) C dX6_earlier_39 rfl 3 rfl (by rw [ey2]; rfl) (by decide) rfl ?_
        refine J_goto (tgt := 4) C dX6_earlier_42 (by decide) ?_
        refine J_sub [2, 3, 1, 0] rfl ?_
        exact ih _ _ h
      refine J_icmp_ge (tgt := 36) (q := 32) C dX6_earlier_29 rfl (by decide) h (fun _ h => ?_) (fun _ h => ?_)
      · refine J_iconst (v := 0 ) (q := 37) C dX6_earlier_36 rfl rfl ?_
        refine J_sub [0, 1, 3] rfl ?_
        exact hk37 _ h
      · refine J_iconst (v := 1 ) (q := 33) C dX6_earlier_32 rfl rfl ?_
        refine J_goto (tgt := 37) C dX6_earlier_33 (by decide) ?_
        refine J_sub [0, 1, 3] rfl ?_
        exact hk37 _ h
set_option maxHeartbeats 4000000 in
set_option maxRecDepth 100000 in
theorem c_X6_earlier {l : Launch} {D : va_G} {cI cR : ClassId} {ad : Nat → Nat} (hap : apN 16 ad) {i1 : Int32} {σ : Sg} {r : Int32}  (h : f_X6_earlier i1 σ = some r) : MI l D (tysC cI cR) 16 ad (celM cI ad) okM yX6_earlier cX6_earlier 4 .int 1 30 [.ref (ad 0), .int i1] σ r σ := by
  unfold f_X6_earlier at h
  refine entI "WokenYearsModel" hap (by decide +kernel) rfl (Nat.le_of_ble_eq_true rfl) (fun p e s m args below meth c C => ?_)
  refine J_sub (lv' := [(0, .ref (ad 0)), (1, .int i1)]) [0, 1] rfl ?_
  refine J_iconst (v := 0 ) (q := 1) C dX6_earlier_0 rfl rfl ?_
  refine J_istore_n (q := 2) C dX6_earlier_1 rfl rfl (by decide) rfl ?_
  refine J_iconst (v := 0 ) (q := 3) C dX6_earlier_2 rfl rfl ?_
  refine J_istore_n (q := 4) C dX6_earlier_3 rfl rfl (by decide) rfl ?_
  refine J_sub [2, 3, 1, 0] rfl ?_
  refine cl_X6_earlier_4 hap C r  (fun v2_45 h => ?_) FU _ _ h
  · refine J_iload_n (q := 46) C dX6_earlier_45 rfl rfl 0 rfl ?_
    obtain rfl := Option.some.inj h
    exact J_iret C dX6_earlier_46
set_option maxHeartbeats 4000000 in
set_option maxRecDepth 100000 in
theorem c_X6_mark {l : Launch} {D : va_G} {cI cR : ClassId} {ad : Nat → Nat} (hap : apN 16 ad) {i1 : Int32} {i2 : Int32} {σ : Sg} {r : Int32} {σo : Sg}  (h : f_X6_mark i1 i2 σ = some (r, σo)) : MI l D (tysC cI cR) 16 ad (celM cI ad) okM yX6_mark cX6_mark 4 .int 4 97 [.ref (ad 0), .int i1, .int i2] σ r σo := by
  unfold f_X6_mark at h
  refine entI "WokenYearsModel" hap (by decide +kernel) rfl (Nat.le_of_ble_eq_true rfl) (fun p e s m args below meth c C => ?_)
  refine J_sub (lv' := [(0, .ref (ad 0)), (1, .int i1), (2, .int i2)]) [0, 1, 2] rfl ?_
  refine J_aload_n (q := 1) C dX6_mark_0 rfl rfl 0 rfl ?_
  refine J_iload_n (q := 2) C dX6_mark_1 rfl rfl 1 rfl ?_
  obtain ⟨r1, ec1, h⟩ := bnd_of h
  refine J_callIV (q := 5) (As := [.int i1]) C (c_X6_isOne hap  ec1) ok_X6_isOne kM_X6_150 (by decide) rfl rfl rfl rfl rfl rfl ⟨Nat.le_of_ble_eq_true rfl, Nat.le_of_ble_eq_true rfl⟩ (Nat.le_of_ble_eq_true rfl) dX6_mark_2 rfl ?_
  refine J_ifeq_b (tgt := 17) (q := 8) C dX6_mark_5 rfl (by decide) h (fun _ h => ?_) (fun _ h => ?_)
  · refine J_iload_n (q := 9) C dX6_mark_8 rfl rfl 2 rfl ?_
    refine J_iconst (v := 1 ) (q := 10) C dX6_mark_9 rfl rfl ?_
    refine J_iconst (v := 5 ) (q := 11) C dX6_mark_10 rfl rfl ?_
    obtain ⟨r2, ec2, h⟩ := bnd_of h
    refine J_callIS (q := 14) (As := [.int i2, .int (1 : Int32), .int (5 : Int32)]) C (c_X6_in hap  ec2) ok_X6_in kM_X6_69 rfl rfl rfl ⟨Nat.le_of_ble_eq_true rfl, Nat.le_of_ble_eq_true rfl⟩ (Nat.le_of_ble_eq_true rfl) dX6_mark_11 rfl ?_
    refine J_ifne_b (tgt := 19) (q := 17) C dX6_mark_14 rfl (by decide) h (fun _ h => ?_) (fun _ h => ?_)
    · refine J_aload_n (q := 20) C dX6_mark_19 rfl rfl 0 rfl ?_
      refine JM_g_X6_sort (q := 23) C kF_X6_32 dX6_mark_20 rfl ?_
      refine J_iload_n (q := 24) C dX6_mark_23 rfl rfl 1 rfl ?_
      refine JM_iald (q := 25) C isMA_7 h dX6_mark_24 rfl (fun h => ?_)
      refine J_iload_n (q := 26) C dX6_mark_25 rfl rfl 2 rfl ?_
      obtain ⟨r3, ec3, h⟩ := bnd_of h
      refine J_callIS (q := 29) (As := [.int (gA σ 7 i1.toNatClampNeg), .int i2]) C (c_X6_is hap  ec3) ok_X6_is kM_X6_156 rfl rfl rfl ⟨Nat.le_of_ble_eq_true rfl, Nat.le_of_ble_eq_true rfl⟩ (Nat.le_of_ble_eq_true rfl) dX6_mark_26 rfl ?_
      refine J_ifne_b (tgt := 38) (q := 32) C dX6_mark_29 rfl (by decide) h (fun _ h => ?_) (fun _ h => ?_)
      · refine J_aload_n (q := 39) C dX6_mark_38 rfl rfl 0 rfl ?_
        refine J_iload_n (q := 40) C dX6_mark_39 rfl rfl 1 rfl ?_
        obtain ⟨r4, ec4, h⟩ := bnd_of h
        refine J_callIV (q := 43) (As := [.int i1]) C (c_X6_takesOf hap  ec4) ok_X6_takesOf kM_X6_144 (by decide) rfl rfl rfl rfl rfl rfl ⟨Nat.le_of_ble_eq_true rfl, Nat.le_of_ble_eq_true rfl⟩ (Nat.le_of_ble_eq_true rfl) dX6_mark_40 rfl ?_
        refine J_istore_n (q := 44) C dX6_mark_43 rfl rfl (by decide) rfl ?_
        refine J_iload_n (q := 45) C dX6_mark_44 rfl rfl 3 rfl ?_
        by_cases z1 : i2 = (1 : Int32)
        · have h := itp h z1
          refine J_tsIn (off := 31) (tgt := 76) C (1 : Int32) z1 dX6_mark_45 (by decide) (by decide) (by decide) (by decide) ?_
          refine J_iload_n (q := 77) C dX6_mark_76 rfl rfl 0 rfl ?_
          refine J_bipush (v := -9) (q := 79) C dX6_mark_77 rfl rfl ?_
          refine J_icmp_ne (tgt := 87) (q := 82) C dX6_mark_79 rfl (by decide) h (fun _ h => ?_) (fun _ h => ?_)
          · refine J_bipush (v := -9) (q := 84) C dX6_mark_82 rfl rfl ?_
            refine J_goto (tgt := 102) C dX6_mark_84 (by decide) ?_
            obtain ⟨rfl, rfl⟩ := Prod.mk.inj (Option.some.inj h)
            exact J_iret C dX6_mark_102
          · refine J_iload_n (q := 88) C dX6_mark_87 rfl rfl 0 rfl ?_
            refine J_aload_n (q := 89) C dX6_mark_88 rfl rfl 1 rfl ?_
            refine J_iconst (v := 0 ) (q := 90) C dX6_mark_89 rfl rfl ?_
            refine J_aload_n (q := 91) C dX6_mark_90 rfl rfl 1 rfl ?_
            refine JM_g_X6_now (q := 94) C kF_X6_38 dX6_mark_91 rfl ?_
            refine J_iconst (v := 5 ) (q := 95) C dX6_mark_94 rfl rfl ?_
            refine J_iload_n (q := 96) C dX6_mark_95 rfl rfl 2 rfl ?_
            refine J_iadd (q := 97) C dX6_mark_96 rfl ?_
            refine JM_iald (q := 98) C isMA_9 h dX6_mark_97 rfl (fun h => ?_)
            obtain ⟨r5, ec5, h⟩ := bnd_of h
            refine J_callIV (q := 101) (As := [.int (0 : Int32), .int (gA σ 9 ((5 : Int32) + i1).toNatClampNeg)]) C (c_X6_takesBy hap  ec5) ok_X6_takesBy kM_X6_137 (by decide) rfl rfl rfl rfl rfl rfl ⟨Nat.le_of_ble_eq_true rfl, Nat.le_of_ble_eq_true rfl⟩ (Nat.le_of_ble_eq_true rfl) dX6_mark_98 rfl ?_
            refine J_isub (q := 102) C dX6_mark_101 rfl ?_
            obtain ⟨rfl, rfl⟩ := Prod.mk.inj (Option.some.inj h)
            exact J_iret C dX6_mark_102
        have h := itn h z1
        by_cases z2 : i2 = (2 : Int32)
        · have h := itp h z2
          refine J_tsIn (off := 58) (tgt := 103) C (2 : Int32) z2 dX6_mark_45 (by decide) (by decide) (by decide) (by decide) ?_
          refine J_aload_n (q := 104) C dX6_mark_103 rfl rfl 1 rfl ?_
          refine JM_g_X6_sort (q := 107) C kF_X6_32 dX6_mark_104 rfl ?_
          refine J_iload_n (q := 108) C dX6_mark_107 rfl rfl 2 rfl ?_
          refine JM_iald (q := 109) C isMA_7 h dX6_mark_108 rfl (fun h => ?_)
          obtain ⟨r6, ec6, h⟩ := bnd_of h
          refine J_callIS (q := 112) (As := [.int (gA σ 7 i1.toNatClampNeg)]) C (c_X6_paysBy hap  ec6) ok_X6_paysBy kM_X6_160 rfl rfl rfl ⟨Nat.le_of_ble_eq_true rfl, Nat.le_of_ble_eq_true rfl⟩ (Nat.le_of_ble_eq_true rfl) dX6_mark_109 rfl ?_
          refine J_iconst (v := 0 ) (q := 113) C dX6_mark_112 rfl rfl ?_
          obtain ⟨r7, ec7, h⟩ := bnd_of h
          refine J_callIS (q := 116) (As := [.int (0 : Int32)]) C (c_X6_paysBy hap  ec7) ok_X6_paysBy kM_X6_160 rfl rfl rfl ⟨Nat.le_of_ble_eq_true rfl, Nat.le_of_ble_eq_true rfl⟩ (Nat.le_of_ble_eq_true rfl) dX6_mark_113 rfl ?_
          refine J_isub (q := 117) C dX6_mark_116 rfl ?_
          obtain ⟨rfl, rfl⟩ := Prod.mk.inj (Option.some.inj h)
          exact J_iret C dX6_mark_117
        have h := itn h z2
        by_cases z3 : i2 = (3 : Int32)
        · have h := itp h z3
          refine J_tsIn (off := 73) (tgt := 118) C (3 : Int32) z3 dX6_mark_45 (by decide) (by decide) (by decide) (by decide) ?_
          refine J_aload_n (q := 119) C dX6_mark_118 rfl rfl 1 rfl ?_
          obtain ⟨r8, ec8, h⟩ := bnd_of h
          refine J_callIV (q := 122) (As := []) C (c_X6_awakeOnes hap  ec8) ok_X6_awakeOnes kM_X6_163 (by decide) rfl rfl rfl rfl rfl rfl ⟨Nat.le_of_ble_eq_true rfl, Nat.le_of_ble_eq_true rfl⟩ (Nat.le_of_ble_eq_true rfl) dX6_mark_119 rfl ?_
          refine J_iconst (v := 1 ) (q := 123) C dX6_mark_122 rfl rfl ?_
          refine J_iload_n (q := 124) C dX6_mark_123 rfl rfl 2 rfl ?_
          refine J_ishl (q := 125) C dX6_mark_124 rfl ?_
          refine J_iconst (v := -1 ) (q := 126) C dX6_mark_125 rfl rfl ?_
          refine J_ixor (q := 127) C dX6_mark_126 rfl ?_
          refine J_iand (q := 128) C dX6_mark_127 rfl ?_
          obtain ⟨r9, ec9, h⟩ := bnd_of h
          refine J_callIS (q := 131) (As := [.int (r8 &&& (((1 : Int32) <<< (i1 &&& 31)) ^^^ (-1 : Int32)))]) C (c_X6_bits hap  ec9) ok_X6_bits kM_X6_166 rfl rfl rfl ⟨Nat.le_of_ble_eq_true rfl, Nat.le_of_ble_eq_true rfl⟩ (Nat.le_of_ble_eq_true rfl) dX6_mark_128 rfl ?_
          obtain ⟨rfl, rfl⟩ := Prod.mk.inj (Option.some.inj h)
          exact J_iret C dX6_mark_131
        have h := itn h z3
        by_cases z4 : i2 = (4 : Int32)
        · have h := itp h z4
          refine J_tsIn (off := 87) (tgt := 132) C (4 : Int32) z4 dX6_mark_45 (by decide) (by decide) (by decide) (by decide) ?_
          refine J_iload_n (q := 133) C dX6_mark_132 rfl rfl 0 rfl ?_
          obtain ⟨rfl, rfl⟩ := Prod.mk.inj (Option.some.inj h)
          exact J_iret C dX6_mark_133
        have h := itn h z4
        have w1 : i2.toInt ≠ 1 := fun e => z1 (Int32.toInt_inj.mp (e.trans (by decide)))
        have w2 : i2.toInt ≠ 2 := fun e => z2 (Int32.toInt_inj.mp (e.trans (by decide)))
        have w3 : i2.toInt ≠ 3 := fun e => z3 (Int32.toInt_inj.mp (e.trans (by decide)))
        have w4 : i2.toInt ≠ 4 := fun e => z4 (Int32.toInt_inj.mp (e.trans (by decide)))
        refine J_tsOut (tgt := 134) C dX6_mark_45 (by omega) (by decide) ?_
        refine J_aload_n (q := 135) C dX6_mark_134 rfl rfl 1 rfl ?_
        refine J_iload_n (q := 136) C dX6_mark_135 rfl rfl 2 rfl ?_
        obtain ⟨r10, ec10, h⟩ := bnd_of h
        refine J_callIV (q := 139) (As := [.int i1]) C (c_X6_earlier hap  ec10) ok_X6_earlier kM_X6_169 (by decide) rfl rfl rfl rfl rfl rfl ⟨Nat.le_of_ble_eq_true rfl, Nat.le_of_ble_eq_true rfl⟩ (Nat.le_of_ble_eq_true rfl) dX6_mark_136 rfl ?_
        obtain ⟨rfl, rfl⟩ := Prod.mk.inj (Option.some.inj h)
        exact J_iret C dX6_mark_139
      · refine J_aload_n (q := 33) C dX6_mark_32 rfl rfl 0 rfl ?_
        refine J_iconst (v := 3 ) (q := 34) C dX6_mark_33 rfl rfl ?_
        obtain ⟨r11, σ11, ec11, h⟩ := bnd2_of h
        refine J_callIV (q := 37) (As := [.int (3 : Int32)]) C (c_X6_finds hap  ec11) ok_X6_finds kM_X6_73 (by decide) rfl rfl rfl rfl rfl rfl ⟨Nat.le_of_ble_eq_true rfl, Nat.le_of_ble_eq_true rfl⟩ (Nat.le_of_ble_eq_true rfl) dX6_mark_34 rfl ?_
        obtain ⟨rfl, rfl⟩ := Prod.mk.inj (Option.some.inj h)
        exact J_iret C dX6_mark_37
    · refine J_iconst (v := -1 ) (q := 18) C dX6_mark_17 rfl rfl ?_
      obtain ⟨rfl, rfl⟩ := Prod.mk.inj (Option.some.inj h)
      exact J_iret C dX6_mark_18
  · refine J_iconst (v := -1 ) (q := 18) C dX6_mark_17 rfl rfl ?_
    obtain ⟨rfl, rfl⟩ := Prod.mk.inj (Option.some.inj h)
    exact J_iret C dX6_mark_18
set_option maxHeartbeats 4000000 in
set_option maxRecDepth 100000 in
theorem c_X6_note {l : Launch} {D : va_G} {cI cR : ClassId} {ad : Nat → Nat} (hap : apN 16 ad)  {σ : Sg} {σo : Sg}  (h : f_X6_note σ = some σo) : MV l D (tysC cI cR) 16 ad (celM cI ad) okM yX6_note cX6_note 1 2 55 [.ref (ad 0)] σ σo := by
  unfold f_X6_note at h
  refine entV "WokenYearsModel" hap (by decide +kernel) rfl (Nat.le_of_ble_eq_true rfl) (fun p e s m args below meth c C => ?_)
  refine J_sub (lv' := [(0, .ref (ad 0))]) [0] rfl ?_
  refine J_aload_n (q := 1) C dX6_note_0 rfl rfl 0 rfl ?_
  refine JM_g_X6_now (q := 4) C kF_X6_38 dX6_note_1 rfl ?_
  refine J_iconst (v := 0 ) (q := 5) C dX6_note_4 rfl rfl ?_
  refine J_aload_n (q := 6) C dX6_note_5 rfl rfl 0 rfl ?_
  refine JM_g_X6_deed (q := 9) C kF_X6_41 dX6_note_6 rfl ?_
  refine J_bipush (v := 23) (q := 11) C dX6_note_9 rfl rfl ?_
  refine J_aload_n (q := 12) C dX6_note_11 rfl rfl 0 rfl ?_
  refine JM_g_X6_deeds (q := 15) C kF_X6_134 dX6_note_12 rfl ?_
  refine J_imul (q := 16) C dX6_note_15 rfl ?_
  refine J_bipush (v := 23) (q := 18) C dX6_note_16 rfl rfl ?_
  obtain ⟨σ1, ec1, h⟩ := bnd_of h
  refine J_callXS (q := 21) (As := [.ref (ad 9), .int (0 : Int32), .ref (ad 10), .int ((23 : Int32) * (gS σ 22)), .int (23 : Int32)]) C (c_X6_bring hap isMA_9 isMA_10 ec1) ok_X6_bring kM_X6_172 rfl rfl rfl ⟨Nat.le_of_ble_eq_true rfl, Nat.le_of_ble_eq_true rfl⟩ (Nat.le_of_ble_eq_true rfl) dX6_note_18 rfl ?_
  refine J_aload_n (q := 22) C dX6_note_21 rfl rfl 0 rfl ?_
  refine J_dup (q := 23) C dX6_note_22 rfl rfl ?_
  refine JM_g_X6_deeds (q := 26) C kF_X6_134 dX6_note_23 rfl ?_
  refine J_iconst (v := 1 ) (q := 27) C dX6_note_26 rfl rfl ?_
  refine J_iadd (q := 28) C dX6_note_27 rfl ?_
  refine JM_p_X6_deeds (q := 31) C kF_X6_134 dX6_note_28 rfl ?_
  refine jn_elim h (fun σ2 eσ2 h => ?_)
  rw [← eσ2]
  obtain rfl := Option.some.inj h
  exact J_vret C dX6_note_31
set_option maxHeartbeats 4000000 in
set_option maxRecDepth 100000 in
theorem c_X6_far {l : Launch} {D : va_G} {cI cR : ClassId} {ad : Nat → Nat} (hap : apN 16 ad) {i0 : Int32} {i1 : Int32} {σ : Sg} {r : Int32}  (h : f_X6_far i0 i1 = some r) : MI l D (tysC cI cR) 16 ad (celM cI ad) okM yX6_far cX6_far 2 .int 1 30 [.int i0, .int i1] σ r σ := by
  unfold f_X6_far at h
  refine entI "WokenYearsModel" hap (by decide +kernel) rfl (Nat.le_of_ble_eq_true rfl) (fun p e s m args below meth c C => ?_)
  refine J_sub (lv' := [(0, .int i0), (1, .int i1)]) [0, 1] rfl ?_
  refine J_iload_n (q := 1) C dX6_far_0 rfl rfl 0 rfl ?_
  refine J_iload_n (q := 2) C dX6_far_1 rfl rfl 1 rfl ?_
  refine J_icmp_le (tgt := 11) (q := 5) C dX6_far_2 rfl (by decide) h (fun _ h => ?_) (fun _ h => ?_)
  · refine J_iload_n (q := 12) C dX6_far_11 rfl rfl 1 rfl ?_
    refine J_iload_n (q := 13) C dX6_far_12 rfl rfl 0 rfl ?_
    refine J_isub (q := 14) C dX6_far_13 rfl ?_
    obtain rfl := Option.some.inj h
    exact J_iret C dX6_far_14
  · refine J_iload_n (q := 6) C dX6_far_5 rfl rfl 0 rfl ?_
    refine J_iload_n (q := 7) C dX6_far_6 rfl rfl 1 rfl ?_
    refine J_isub (q := 8) C dX6_far_7 rfl ?_
    refine J_goto (tgt := 14) C dX6_far_8 (by decide) ?_
    obtain rfl := Option.some.inj h
    exact J_iret C dX6_far_14
set_option maxHeartbeats 4000000 in
set_option maxRecDepth 100000 in
theorem c_X6_goes {l : Launch} {D : va_G} {cI cR : ClassId} {ad : Nat → Nat} (hap : apN 16 ad) {i1 : Int32} {σ : Sg} {σo : Sg}  (h : f_X6_goes i1 σ = some σo) : MV l D (tysC cI cR) 16 ad (celM cI ad) okM yX6_goes cX6_goes 2 2 51 [.ref (ad 0), .int i1] σ σo := by
  unfold f_X6_goes at h
  refine entV "WokenYearsModel" hap (by decide +kernel) rfl (Nat.le_of_ble_eq_true rfl) (fun p e s m args below meth c C => ?_)
  refine J_sub (lv' := [(0, .ref (ad 0)), (1, .int i1)]) [0, 1] rfl ?_
  refine J_aload_n (q := 1) C dX6_goes_0 rfl rfl 0 rfl ?_
  refine JM_g_X6_now (q := 4) C kF_X6_38 dX6_goes_1 rfl ?_
  refine J_iconst (v := 0 ) (q := 5) C dX6_goes_4 rfl rfl ?_
  refine J_dup2 (q := 6) C dX6_goes_5 rfl rfl rfl ?_
  refine JM_iald (q := 7) C isMA_9 h dX6_goes_6 rfl (fun h => ?_)
  refine J_iload_n (q := 8) C dX6_goes_7 rfl rfl 1 rfl ?_
  refine J_aload_n (q := 9) C dX6_goes_8 rfl rfl 0 rfl ?_
  refine JM_g_X6_now (q := 12) C kF_X6_38 dX6_goes_9 rfl ?_
  refine J_iconst (v := 2 ) (q := 13) C dX6_goes_12 rfl rfl ?_
  refine JM_iald (q := 14) C isMA_9 h dX6_goes_13 rfl (fun h => ?_)
  obtain ⟨r1, ec1, h⟩ := bnd_of h
  refine J_callIS (q := 17) (As := [.int i1, .int (gA σ 9 (2 : Int32).toNatClampNeg)]) C (c_X6_far hap  ec1) ok_X6_far kM_X6_176 rfl rfl rfl ⟨Nat.le_of_ble_eq_true rfl, Nat.le_of_ble_eq_true rfl⟩ (Nat.le_of_ble_eq_true rfl) dX6_goes_14 rfl ?_
  refine J_iadd (q := 18) C dX6_goes_17 rfl ?_
  refine JM_iast (q := 19) C isMA_9 h dX6_goes_18 rfl (fun h => ?_)
  refine jn_elim h (fun σ2 eσ2 h => ?_)
  rw [← eσ2]
  refine J_aload_n (q := 20) C dX6_goes_19 rfl rfl 0 rfl ?_
  refine JM_g_X6_now (q := 23) C kF_X6_38 dX6_goes_20 rfl ?_
  refine J_iconst (v := 2 ) (q := 24) C dX6_goes_23 rfl rfl ?_
  refine J_iload_n (q := 25) C dX6_goes_24 rfl rfl 1 rfl ?_
  refine JM_iast (q := 26) C isMA_9 h dX6_goes_25 rfl (fun h => ?_)
  refine jn_elim h (fun σ3 eσ3 h => ?_)
  rw [← eσ3]
  obtain rfl := Option.some.inj h
  exact J_vret C dX6_goes_26
set_option maxHeartbeats 4000000 in
set_option maxRecDepth 100000 in
theorem c_X6_taps {l : Launch} {D : va_G} {cI cR : ClassId} {ad : Nat → Nat} (hap : apN 16 ad)  {σ : Sg} {σo : Sg}  (h : f_X6_taps σ = some σo) : MV l D (tysC cI cR) 16 ad (celM cI ad) okM yX6_taps cX6_taps 4 4 97 [.ref (ad 0)] σ σo := by
  unfold f_X6_taps at h
  refine entV "WokenYearsModel" hap (by decide +kernel) rfl (Nat.le_of_ble_eq_true rfl) (fun p e s m args below meth c C => ?_)
  refine J_sub (lv' := [(0, .ref (ad 0))]) [0] rfl ?_
  refine J_aload_n (q := 1) C dX6_taps_0 rfl rfl 0 rfl ?_
  refine JM_g_X6_now (q := 4) C kF_X6_38 dX6_taps_1 rfl ?_
  refine J_iconst (v := 2 ) (q := 5) C dX6_taps_4 rfl rfl ?_
  refine JM_iald (q := 6) C isMA_9 h dX6_taps_5 rfl (fun h => ?_)
  refine J_nmi h (fun y1 ey1 h => ?_)
  refine J_istore_n (q := 7) C dX6_taps_6 rfl rfl (by decide) rfl ?_
  refine J_aload_n (q := 8) C dX6_taps_7 rfl rfl 1 rfl ?_
  refine J_iload_n (q := 9) C dX6_taps_8 rfl rfl 0 rfl ?_
  obtain ⟨r2, ec2, h⟩ := bnd_of h
  refine J_callIV (q := 12) (As := [.int y1]) C (c_X6_takesOf hap  ec2) ok_X6_takesOf kM_X6_144 (by decide) rfl rfl rfl rfl rfl rfl ⟨Nat.le_of_ble_eq_true rfl, Nat.le_of_ble_eq_true rfl⟩ (Nat.le_of_ble_eq_true rfl) dX6_taps_9 rfl ?_
  refine J_istore_n (q := 13) C dX6_taps_12 rfl rfl (by decide) rfl ?_
  refine J_aload_n (q := 14) C dX6_taps_13 rfl rfl 2 rfl ?_
  refine JM_g_X6_now (q := 17) C kF_X6_38 dX6_taps_14 rfl ?_
  refine J_iconst (v := 0 ) (q := 18) C dX6_taps_17 rfl rfl ?_
  refine J_dup2 (q := 19) C dX6_taps_18 rfl rfl rfl ?_
  refine JM_iald (q := 20) C isMA_9 h dX6_taps_19 rfl (fun h => ?_)
  refine J_iconst (v := 1 ) (q := 21) C dX6_taps_20 rfl rfl ?_
  refine J_iadd (q := 22) C dX6_taps_21 rfl ?_
  refine JM_iast (q := 23) C isMA_9 h dX6_taps_22 rfl (fun h => ?_)
  refine jn_elim h (fun σ3 eσ3 h => ?_)
  rw [← eσ3]
  refine J_aload_n (q := 24) C dX6_taps_23 rfl rfl 2 rfl ?_
  refine JM_g_X6_now (q := 27) C kF_X6_38 dX6_taps_24 rfl ?_
  refine J_bipush (v := 11) (q := 29) C dX6_taps_27 rfl rfl ?_
  refine J_iload_n (q := 30) C dX6_taps_29 rfl rfl 1 rfl ?_
  refine J_iadd (q := 31) C dX6_taps_30 rfl ?_
  refine J_dup2 (q := 32) C dX6_taps_31 rfl rfl rfl ?_
  refine JM_iald (q := 33) C isMA_9 h dX6_taps_32 rfl (fun h => ?_)
  refine J_iconst (v := 1 ) (q := 34) C dX6_taps_33 rfl rfl ?_
  refine J_iadd (q := 35) C dX6_taps_34 rfl ?_
  refine JM_iast (q := 36) C isMA_9 h dX6_taps_35 rfl (fun h => ?_)
  refine jn_elim h (fun σ4 eσ4 h => ?_)
  rw [← eσ4]
  refine J_aload_n (q := 37) C dX6_taps_36 rfl rfl 2 rfl ?_
  refine J_iload_n (q := 38) C dX6_taps_37 rfl rfl 1 rfl ?_
  obtain ⟨r5, ec5, h⟩ := bnd_of h
  refine J_callIV (q := 41) (As := [.int y1]) C (c_X6_isAwake hap  ec5) ok_X6_isAwake kM_X6_140 (by decide) rfl rfl rfl rfl rfl rfl ⟨Nat.le_of_ble_eq_true rfl, Nat.le_of_ble_eq_true rfl⟩ (Nat.le_of_ble_eq_true rfl) dX6_taps_38 rfl ?_
  refine J_ifne_b (tgt := 117) (q := 44) C dX6_taps_41 rfl (by decide) h (fun _ h => ?_) (fun _ h => ?_)
  · obtain rfl := Option.some.inj h
    exact J_vret C dX6_taps_117
  · refine J_iload_n (q := 45) C dX6_taps_44 rfl rfl 0 rfl ?_
    refine J_bipush (v := -9) (q := 47) C dX6_taps_45 rfl rfl ?_
    refine J_icmp_eq (tgt := 117) (q := 50) C dX6_taps_47 rfl (by decide) h (fun _ h => ?_) (fun _ h => ?_)
    · obtain rfl := Option.some.inj h
      exact J_vret C dX6_taps_117
    · refine J_aload_n (q := 51) C dX6_taps_50 rfl rfl 2 rfl ?_
      refine JM_g_X6_now (q := 54) C kF_X6_38 dX6_taps_51 rfl ?_
      refine J_bipush (v := 11) (q := 56) C dX6_taps_54 rfl rfl ?_
      refine J_iload_n (q := 57) C dX6_taps_56 rfl rfl 1 rfl ?_
      refine J_iadd (q := 58) C dX6_taps_57 rfl ?_
      refine JM_iald (q := 59) C isMA_9 h dX6_taps_58 rfl (fun h => ?_)
      refine J_iload_n (q := 60) C dX6_taps_59 rfl rfl 0 rfl ?_
      refine J_icmp_lt (tgt := 117) (q := 63) C dX6_taps_60 rfl (by decide) h (fun _ h => ?_) (fun _ h => ?_)
      · obtain rfl := Option.some.inj h
        exact J_vret C dX6_taps_117
      · refine J_aload_n (q := 64) C dX6_taps_63 rfl rfl 2 rfl ?_
        refine JM_g_X6_now (q := 67) C kF_X6_38 dX6_taps_64 rfl ?_
        refine J_iconst (v := 4 ) (q := 68) C dX6_taps_67 rfl rfl ?_
        refine JM_iald (q := 69) C isMA_9 h dX6_taps_68 rfl (fun h => ?_)
        refine J_aload_n (q := 70) C dX6_taps_69 rfl rfl 2 rfl ?_
        refine JM_g_X6_sort (q := 73) C kF_X6_32 dX6_taps_70 rfl ?_
        refine J_iload_n (q := 74) C dX6_taps_73 rfl rfl 1 rfl ?_
        refine JM_iald (q := 75) C isMA_7 h dX6_taps_74 rfl (fun h => ?_)
        obtain ⟨r6, ec6, h⟩ := bnd_of h
        refine J_callIS (q := 78) (As := [.int (gA σ4 7 y1.toNatClampNeg)]) C (c_X6_paysBy hap  ec6) ok_X6_paysBy kM_X6_160 rfl rfl rfl ⟨Nat.le_of_ble_eq_true rfl, Nat.le_of_ble_eq_true rfl⟩ (Nat.le_of_ble_eq_true rfl) dX6_taps_75 rfl ?_
        refine J_iadd (q := 79) C dX6_taps_78 rfl ?_
        refine J_nmi h (fun y7 ey7 h => ?_)
        refine J_istore_n (q := 80) C dX6_taps_79 rfl rfl (by decide) rfl ?_
        refine J_aload_n (q := 81) C dX6_taps_80 rfl rfl 3 rfl ?_
        refine JM_g_X6_now (q := 84) C kF_X6_38 dX6_taps_81 rfl ?_
        refine J_bipush (v := 17) (q := 86) C dX6_taps_84 rfl rfl ?_
        refine J_iload_n (q := 87) C dX6_taps_86 rfl rfl 2 rfl ?_
        refine J_iadd (q := 88) C dX6_taps_87 rfl ?_
        refine J_aload_n (q := 89) C dX6_taps_88 rfl rfl 3 rfl ?_
        refine JM_g_X6_now (q := 92) C kF_X6_38 dX6_taps_89 rfl ?_
        refine J_iconst (v := 5 ) (q := 93) C dX6_taps_92 rfl rfl ?_
        refine J_iload_n (q := 94) C dX6_taps_93 rfl rfl 2 rfl ?_
        refine J_iadd (q := 95) C dX6_taps_94 rfl ?_
        refine JM_iald (q := 96) C isMA_9 h dX6_taps_95 rfl (fun h => ?_)
        refine JM_iast (q := 97) C isMA_9 h dX6_taps_96 rfl (fun h => ?_)
        refine jn_elim h (fun σ8 eσ8 h => ?_)
        rw [← eσ8]
        refine J_aload_n (q := 98) C dX6_taps_97 rfl rfl 3 rfl ?_
        refine JM_g_X6_now (q := 101) C kF_X6_38 dX6_taps_98 rfl ?_
        refine J_iconst (v := 4 ) (q := 102) C dX6_taps_101 rfl rfl ?_
        refine J_iload_n (q := 103) C dX6_taps_102 rfl rfl 0 rfl ?_
        refine J_sipush (v := 9999) (q := 106) C dX6_taps_103 rfl rfl ?_
        refine J_icmp_le (tgt := 115) (q := 109) C dX6_taps_106 rfl (by decide) h (fun _ h => ?_) (fun _ h => ?_)
        · refine J_iload_n (q := 116) C dX6_taps_115 rfl rfl 0 rfl ?_
          refine JM_iast (q := 117) C isMA_9 h dX6_taps_116 rfl (fun h => ?_)
          refine jn_elim h (fun σ9 eσ9 h => ?_)
          rw [← eσ9]
          obtain rfl := Option.some.inj h
          exact J_vret C dX6_taps_117
        · refine J_sipush (v := 9999) (q := 112) C dX6_taps_109 rfl rfl ?_
          refine J_goto (tgt := 116) C dX6_taps_112 (by decide) ?_
          refine JM_iast (q := 117) C isMA_9 h dX6_taps_116 rfl (fun h => ?_)
          refine jn_elim h (fun σ10 eσ10 h => ?_)
          rw [← eσ10]
          obtain rfl := Option.some.inj h
          exact J_vret C dX6_taps_117
set_option maxHeartbeats 4000000 in
set_option maxRecDepth 100000 in
theorem c_X6_changes {l : Launch} {D : va_G} {cI cR : ClassId} {ad : Nat → Nat} (hap : apN 16 ad) {i1 : Int32} {i2 : Int32} {σ : Sg} {σo : Sg}  (h : f_X6_changes i1 i2 σ = some σo) : MV l D (tysC cI cR) 16 ad (celM cI ad) okM yX6_changes cX6_changes 3 1 30 [.ref (ad 0), .int i1, .int i2] σ σo := by
  unfold f_X6_changes at h
  refine entV "WokenYearsModel" hap (by decide +kernel) rfl (Nat.le_of_ble_eq_true rfl) (fun p e s m args below meth c C => ?_)
  refine J_sub (lv' := [(0, .ref (ad 0)), (1, .int i1), (2, .int i2)]) [0, 1, 2] rfl ?_
  refine J_aload_n (q := 1) C dX6_changes_0 rfl rfl 0 rfl ?_
  refine JM_g_X6_now (q := 4) C kF_X6_38 dX6_changes_1 rfl ?_
  refine J_iconst (v := 5 ) (q := 5) C dX6_changes_4 rfl rfl ?_
  refine J_iload_n (q := 6) C dX6_changes_5 rfl rfl 1 rfl ?_
  refine J_iadd (q := 7) C dX6_changes_6 rfl ?_
  refine J_iload_n (q := 8) C dX6_changes_7 rfl rfl 2 rfl ?_
  refine JM_iast (q := 9) C isMA_9 h dX6_changes_8 rfl (fun h => ?_)
  refine jn_elim h (fun σ1 eσ1 h => ?_)
  rw [← eσ1]
  refine J_aload_n (q := 10) C dX6_changes_9 rfl rfl 0 rfl ?_
  refine JM_g_X6_now (q := 13) C kF_X6_38 dX6_changes_10 rfl ?_
  refine J_bipush (v := 11) (q := 15) C dX6_changes_13 rfl rfl ?_
  refine J_iload_n (q := 16) C dX6_changes_15 rfl rfl 1 rfl ?_
  refine J_iadd (q := 17) C dX6_changes_16 rfl ?_
  refine J_iconst (v := 0 ) (q := 18) C dX6_changes_17 rfl rfl ?_
  refine JM_iast (q := 19) C isMA_9 h dX6_changes_18 rfl (fun h => ?_)
  refine jn_elim h (fun σ2 eσ2 h => ?_)
  rw [← eσ2]
  obtain rfl := Option.some.inj h
  exact J_vret C dX6_changes_19
