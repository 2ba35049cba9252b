set_option maxHeartbeats 4000000 in
set_option maxRecDepth 100000 in
theorem cl_X6_ownBy_25 {p : Program} {l : Launch} {e : Env} {s : State} {m : MethodId} {args : Array Value} {below : List Frame} {meth : Method} {c : Code} {D : va_G} {cI cR : ClassId} {ad : Nat → Nat} (hap : apN 16 ad) (C : Cx p s m args meth c cX6_ownBy 9 "WokenYearsModel" D (tysC cI cR) 16 ad (some .int)) {a1 : Int32} {a2 : Int32} {a3 : Int32} {a4 : Int32} {k106 : Int32 → Bool → Option Int32} {σ : Sg} (r : Int32)  (hk106 : ∀ (u5 : Int32) (u6 : Bool), k106 u5 u6 = some r → Jd p l e (rmF 5 119) s m args below meth c D 16 ad (celM cI ad) okM 9 (MQ below (QI D (tysC cI cR) 16 ad (celM cI ad) okM r σ) args s 0 0 (inA 16 ad)) 106 [(0, .ref (ad 0)), (1, .int a1), (2, .int a2), (3, .int a3), (4, .int a4), (5, .int u5), (6, .int (b2i u6))] [] σ) : ∀ (n : Nat) (x5 : Int32) (x6 : Bool) (x7 : Int32), l_X6_ownBy_25 a1 a2 a3 a4 σ k106 n x5 x6 x7 = some r → Jd p l e (rmF 5 119) s m args below meth c D 16 ad (celM cI ad) okM 9 (MQ below (QI D (tysC cI cR) 16 ad (celM cI ad) okM r σ) args s 0 0 (inA 16 ad)) 25 [(0, .ref (ad 0)), (1, .int a1), (2, .int a2), (3, .int a3), (4, .int a4), (5, .int x5), (6, .int (b2i x6)), (7, .int x7)] [] σ := by
  intro n
  induction n with
  | zero => intro x5 x6 x7 h; cases h
  | succ n ih =>
    intro x5 x6 x7 h
    unfold l_X6_ownBy_25 at h
    refine J_iload (q := 27) C dX6_ownBy_25 rfl 7 rfl ?_
    refine J_aload_n (q := 28) C dX6_ownBy_27 rfl rfl 0 rfl ?_
    refine JM_g_X6_houses (q := 31) C kF_X6_66 dX6_ownBy_28 rfl ?_
    refine J_icmp_ge (tgt := 106) (q := 34) C dX6_ownBy_31 rfl (by decide) h (fun _ h => ?_) (fun _ h => ?_)
    · refine J_sub [0, 1, 2, 3, 4, 5, 6] rfl ?_
      exact hk106 _ _ h
    · refine J_aload_n (q := 35) C dX6_ownBy_34 rfl rfl 0 rfl ?_
      refine J_iload (q := 37) C dX6_ownBy_35 rfl 7 rfl ?_
      obtain ⟨r1, ec1, h⟩ := bnd_of h
      refine J_callIV (q := 40) (As := [.int x7]) C (c_X6_moreOf hap  ec1) ok_X6_moreOf kM_X6_147 (by decide) rfl rfl rfl rfl rfl rfl ⟨Nat.le_of_ble_eq_true rfl, Nat.le_of_ble_eq_true rfl⟩ (Nat.le_of_ble_eq_true rfl) dX6_ownBy_37 rfl ?_
      refine J_istore (q := 42) C dX6_ownBy_40 rfl (by decide) rfl ?_
      refine J_iload (q := 44) C dX6_ownBy_42 rfl 7 rfl ?_
      refine jn_elim h (fun k77 ek77 h => ?_)
      have hk77 : ∀ (t0_77 : Bool), k77 t0_77 = some r → Jd p l e (rmF 5 119) s m args below meth c D 16 ad (celM cI ad) okM 9 (MQ below (QI D (tysC cI cR) 16 ad (celM cI ad) okM r σ) args s 0 0 (inA 16 ad)) 77 [(0, .ref (ad 0)), (1, .int a1), (2, .int a2), (3, .int a3), (4, .int a4), (5, .int x5), (7, .int x7), (8, .int r1)] [.int (b2i t0_77)] σ := by
        intro t0_77 h
        rw [ek77] at h
        refine J_istore (q := 79) C dX6_ownBy_77 rfl (by decide) rfl ?_
        refine J_iload (q := 81) C dX6_ownBy_79 rfl 6 rfl ?_
        refine J_iload (q := 83) C dX6_ownBy_81 rfl 5 rfl ?_
        refine J_iload (q := 85) C dX6_ownBy_83 rfl 7 rfl ?_
        obtain ⟨r2, ec2, h⟩ := bnd_of h
        refine J_callIS (q := 88) (As := [.int a4, .int x7]) C (c_X6_has hap  ec2) ok_X6_has kM_X6_199 rfl rfl rfl ⟨Nat.le_of_ble_eq_true rfl, Nat.le_of_ble_eq_true rfl⟩ (Nat.le_of_ble_eq_true rfl) dX6_ownBy_85 rfl ?_
        refine jn_elim h (fun k97 ek97 h => ?_)
        have hk97 : ∀ (t0_97 : Int32), k97 t0_97 = some r → Jd p l e (rmF 5 119) s m args below meth c D 16 ad (celM cI ad) okM 9 (MQ below (QI D (tysC cI cR) 16 ad (celM cI ad) okM r σ) args s 0 0 (inA 16 ad)) 97 [(0, .ref (ad 0)), (1, .int a1), (2, .int a2), (3, .int a3), (4, .int a4), (6, .int (b2i t0_77)), (7, .int x7)] [.int t0_97, .int x5] σ := by
          intro t0_97 h
          rw [ek97] at h
          refine J_iadd (q := 98) C dX6_ownBy_97 rfl ?_
          refine J_nmi h (fun y3 ey3 h => ?_)
          refine J_istore (q := 100) C dX6_ownBy_98 rfl (by decide) rfl ?_
          refine jn_elim h (fun y4 ey4 h => ?_)
          refine J_iinc (v := y4) (q := 103) C dX6_ownBy_100 rfl 7 rfl (by rw [ey4]; rfl) (by decide) rfl ?_
          refine J_goto (tgt := 25) C dX6_ownBy_103 (by decide) ?_
          refine J_sub [2, 3, 4, 5, 6, 1, 7, 0] rfl ?_
          exact ih _ _ _ h
        refine J_ifeq_b (tgt := 96) (q := 91) C dX6_ownBy_88 rfl (by decide) h (fun _ h => ?_) (fun _ h => ?_)
        · refine J_iload (q := 93) C dX6_ownBy_91 rfl 8 rfl ?_
          refine J_goto (tgt := 97) C dX6_ownBy_93 (by decide) ?_
          refine J_sub [1, 2, 3, 4, 5, 0, 7] rfl ?_
          exact hk97 _ h
        · refine J_iconst (v := 0 ) (q := 97) C dX6_ownBy_96 rfl rfl ?_
          refine J_sub [1, 2, 3, 4, 5, 0, 7] rfl ?_
          exact hk97 _ h
      refine jn_elim h (fun k76 ek76 h => ?_)
      have hk76 : k76 = some r → Jd p l e (rmF 5 119) s m args below meth c D 16 ad (celM cI ad) okM 9 (MQ below (QI D (tysC cI cR) 16 ad (celM cI ad) okM r σ) args s 0 0 (inA 16 ad)) 76 [(0, .ref (ad 0)), (1, .int a1), (2, .int a2), (3, .int a3), (4, .int a4), (5, .int x5), (7, .int x7), (8, .int r1)] [] σ := by
        intro  h
        rw [ek76] at h
        refine J_iconst (v := 0 ) (q := 77) C dX6_ownBy_76 rfl rfl ?_
        exact hk77 _ h
      refine J_ifeq_b (tgt := 76) (q := 47) C dX6_ownBy_44 rfl (by decide) h (fun _ h => ?_) (fun _ h => ?_)
      · refine J_iload (q := 49) C dX6_ownBy_47 rfl 5 rfl ?_
        refine J_iload (q := 51) C dX6_ownBy_49 rfl 8 rfl ?_
        obtain ⟨r5, ec5, h⟩ := bnd_of h
        refine J_callIS (q := 54) (As := [.int a4, .int x7]) C (c_X6_has hap  ec5) ok_X6_has kM_X6_199 rfl rfl rfl ⟨Nat.le_of_ble_eq_true rfl, Nat.le_of_ble_eq_true rfl⟩ (Nat.le_of_ble_eq_true rfl) dX6_ownBy_51 rfl ?_
        refine jn_elim h (fun k72 ek72 h => ?_)
        have hk72 : k72 = some r → Jd p l e (rmF 5 119) s m args below meth c D 16 ad (celM cI ad) okM 9 (MQ below (QI D (tysC cI cR) 16 ad (celM cI ad) okM r σ) args s 0 0 (inA 16 ad)) 72 [(0, .ref (ad 0)), (1, .int a1), (2, .int a2), (3, .int a3), (4, .int a4), (5, .int x5), (7, .int x7), (8, .int r1)] [] σ := by
          intro  h
          rw [ek72] at h
          refine J_iconst (v := 1 ) (q := 73) C dX6_ownBy_72 rfl rfl ?_
          refine J_goto (tgt := 77) C dX6_ownBy_73 (by decide) ?_
          exact hk77 _ h
        refine J_ifeq_b (tgt := 72) (q := 57) C dX6_ownBy_54 rfl (by decide) h (fun _ h => ?_) (fun _ h => ?_)
        · refine J_iload (q := 59) C dX6_ownBy_57 rfl 8 rfl ?_
          refine J_iconst (v := 2 ) (q := 60) C dX6_ownBy_59 rfl rfl ?_
          refine J_irem (q := 61) C dX6_ownBy_60 rfl (by decide) ?_
          refine J_iload_n (q := 62) C dX6_ownBy_61 rfl rfl 2 rfl ?_
          refine J_icmp_ne (tgt := 76) (q := 65) C dX6_ownBy_62 rfl (by decide) h (fun _ h => ?_) (fun _ h => ?_)
          · refine J_iload (q := 67) C dX6_ownBy_65 rfl 0 rfl ?_
            refine J_bipush (v := -9) (q := 69) C dX6_ownBy_67 rfl rfl ?_
            refine J_icmp_eq (tgt := 76) (q := 72) C dX6_ownBy_69 rfl (by decide) h (fun _ h => ?_) (fun _ h => ?_)
            · refine J_sub [1, 2, 3, 4, 5, 6, 8, 0] rfl ?_
              exact hk76 h
            · refine J_sub [1, 2, 3, 4, 5, 6, 8, 0] rfl ?_
              exact hk72 h
          · refine J_sub [1, 2, 3, 4, 5, 6, 8, 0] rfl ?_
            exact hk76 h
        · refine J_sub [1, 2, 3, 4, 5, 6, 8, 0] rfl ?_
          exact hk72 h
      · refine J_sub [1, 2, 3, 4, 5, 6, 8, 0] rfl ?_
        exact hk76 h
set_option maxHeartbeats 4000000 in
set_option maxRecDepth 100000 in
theorem cl_X6_ownBy_5 {p : Program} {l : Launch} {e : Env} {s : State} {m : MethodId} {args : Array Value} {below : List Frame} {meth : Method} {c : Code} {D : va_G} {cI cR : ClassId} {ad : Nat → Nat} (hap : apN 16 ad) (C : Cx p s m args meth c cX6_ownBy 9 "WokenYearsModel" D (tysC cI cR) 16 ad (some .int)) {a1 : Int32} {a2 : Int32} {k142 : Int32 → Option Int32} {σ : Sg} (r : Int32)  (hk142 : ∀ (u3 : Int32), k142 u3 = some r → Jd p l e (rmF 5 119) s m args below meth c D 16 ad (celM cI ad) okM 9 (MQ below (QI D (tysC cI cR) 16 ad (celM cI ad) okM r σ) args s 0 0 (inA 16 ad)) 142 [(3, .int u3)] [] σ) : ∀ (n : Nat) (x3 : Int32) (x4 : Int32), l_X6_ownBy_5 a1 a2 σ k142 n x3 x4 = some r → Jd p l e (rmF 5 119) s m args below meth c D 16 ad (celM cI ad) okM 9 (MQ below (QI D (tysC cI cR) 16 ad (celM cI ad) okM r σ) args s 0 0 (inA 16 ad)) 5 [(0, .ref (ad 0)), (1, .int a1), (2, .int a2), (3, .int x3), (4, .int x4)] [] σ := by
  intro n
  induction n with
  | zero => intro x3 x4 h; cases h
  | succ n ih =>
    intro x3 x4 h
    unfold l_X6_ownBy_5 at h
    refine J_iload (q := 7) C dX6_ownBy_5 rfl 4 rfl ?_
    refine J_iconst (v := 1 ) (q := 8) C dX6_ownBy_7 rfl rfl ?_
    refine J_aload_n (q := 9) C dX6_ownBy_8 rfl rfl 0 rfl ?_
    refine JM_g_X6_houses (q := 12) C kF_X6_66 dX6_ownBy_9 rfl ?_
    refine J_ishl (q := 13) C dX6_ownBy_12 rfl ?_
    refine J_icmp_ge (tgt := 142) (q := 16) C dX6_ownBy_13 rfl (by decide) h (fun _ h => ?_) (fun _ h => ?_)
    · refine J_sub [3] rfl ?_
      exact hk142 _ h
    · refine J_iconst (v := 0 ) (q := 17) C dX6_ownBy_16 rfl rfl ?_
      refine J_istore (q := 19) C dX6_ownBy_17 rfl (by decide) rfl ?_
      refine J_iconst (v := 1 ) (q := 20) C dX6_ownBy_19 rfl rfl ?_
      refine J_istore (q := 22) C dX6_ownBy_20 rfl (by decide) rfl ?_
      refine J_iconst (v := 0 ) (q := 23) C dX6_ownBy_22 rfl rfl ?_
      refine J_istore (q := 25) C dX6_ownBy_23 rfl (by decide) rfl ?_
      refine J_sub [3, 4, 5, 6, 7, 2, 1, 0] rfl ?_
      refine cl_X6_ownBy_25 hap C r  (fun v5_106 v6_106 h => ?_) FU _ _ _ h
      · refine J_iload (q := 108) C dX6_ownBy_106 rfl 6 rfl ?_
        refine jn_elim h (fun k135 ek135 h => ?_)
        have hk135 : ∀ (t0_135 : Int32), k135 t0_135 = some r → Jd p l e (rmF 5 119) s m args below meth c D 16 ad (celM cI ad) okM 9 (MQ below (QI D (tysC cI cR) 16 ad (celM cI ad) okM r σ) args s 0 0 (inA 16 ad)) 135 [(0, .ref (ad 0)), (1, .int a1), (2, .int a2), (4, .int x4)] [.int t0_135] σ := by
          intro t0_135 h
          rw [ek135] at h
          refine J_istore_n (q := 136) C dX6_ownBy_135 rfl rfl (by decide) rfl ?_
          refine jn_elim h (fun y6 ey6 h => ?_)
          refine J_iinc (v := y6) (q := 139) C dX6_ownBy_136 rfl 4 rfl (by rw [ey6]; rfl) (by decide) rfl ?_
          refine J_goto (tgt := 5) C dX6_ownBy_139 (by decide) ?_
          refine J_sub [2, 3, 4, 1, 0] rfl ?_
          exact ih _ _ h
        refine jn_elim h (fun k134 ek134 h => ?_)
        have hk134 : k134 = some r → Jd p l e (rmF 5 119) s m args below meth c D 16 ad (celM cI ad) okM 9 (MQ below (QI D (tysC cI cR) 16 ad (celM cI ad) okM r σ) args s 0 0 (inA 16 ad)) 134 [(0, .ref (ad 0)), (1, .int a1), (2, .int a2), (3, .int x3), (4, .int x4)] [] σ := by
          intro  h
          rw [ek134] at h
          refine J_iload_n (q := 135) C dX6_ownBy_134 rfl rfl 3 rfl ?_
          refine J_sub [0, 1, 2, 4] rfl ?_
          exact hk135 _ h
        refine J_ifeq_b (tgt := 134) (q := 111) C dX6_ownBy_108 rfl (by decide) h (fun _ h => ?_) (fun _ h => ?_)
        · refine J_iload (q := 113) C dX6_ownBy_111 rfl 5 rfl ?_
          refine J_iload_n (q := 114) C dX6_ownBy_113 rfl rfl 2 rfl ?_
          refine J_icmp_gt (tgt := 134) (q := 117) C dX6_ownBy_114 rfl (by decide) h (fun _ h => ?_) (fun _ h => ?_)
          · refine J_sub [0, 1, 2, 3, 4] rfl ?_
            exact hk134 h
          · refine J_iload (q := 119) C dX6_ownBy_117 rfl 4 rfl ?_
            obtain ⟨r7, ec7, h⟩ := bnd_of h
            refine J_callIS (q := 122) (As := [.int x4]) C (c_X6_bits hap  ec7) ok_X6_bits kM_X6_166 rfl rfl rfl ⟨Nat.le_of_ble_eq_true rfl, Nat.le_of_ble_eq_true rfl⟩ (Nat.le_of_ble_eq_true rfl) dX6_ownBy_119 rfl ?_
            refine J_iload_n (q := 123) C dX6_ownBy_122 rfl rfl 3 rfl ?_
            refine J_icmp_le (tgt := 134) (q := 126) C dX6_ownBy_123 rfl (by decide) h (fun _ h => ?_) (fun _ h => ?_)
            · refine J_sub [0, 1, 2, 3, 4] rfl ?_
              exact hk134 h
            · refine J_iload (q := 128) C dX6_ownBy_126 rfl 4 rfl ?_
              obtain ⟨r8, ec8, h⟩ := bnd_of h
              refine J_callIS (q := 131) (As := [.int x4]) C (c_X6_bits hap  ec8) ok_X6_bits kM_X6_166 rfl rfl rfl ⟨Nat.le_of_ble_eq_true rfl, Nat.le_of_ble_eq_true rfl⟩ (Nat.le_of_ble_eq_true rfl) dX6_ownBy_128 rfl ?_
              refine J_goto (tgt := 135) C dX6_ownBy_131 (by decide) ?_
              refine J_sub [0, 1, 2, 4] rfl ?_
              exact hk135 _ h
        · refine J_sub [0, 1, 2, 3, 4] rfl ?_
          exact hk134 h
set_option maxHeartbeats 4000000 in
set_option maxRecDepth 100000 in
theorem c_X6_ownBy {l : Launch} {D : va_G} {cI cR : ClassId} {ad : Nat → Nat} (hap : apN 16 ad) {i1 : Int32} {i2 : Int32} {σ : Sg} {r : Int32}  (h : f_X6_ownBy i1 i2 σ = some r) : MI l D (tysC cI cR) 16 ad (celM cI ad) okM yX6_ownBy cX6_ownBy 9 .int 5 119 [.ref (ad 0), .int i1, .int i2] σ r σ := by
  unfold f_X6_ownBy at h
  refine entI "WokenYearsModel" hap (by decide +kernel) rfl (Nat.le_of_ble_eq_true rfl) (fun p e s m args below meth c C => ?_)
  refine J_sub (lv' := [(0, .ref (ad 0)), (1, .int i1), (2, .int i2)]) [0, 1, 2] rfl ?_
  refine J_iconst (v := 0 ) (q := 1) C dX6_ownBy_0 rfl rfl ?_
  refine J_istore_n (q := 2) C dX6_ownBy_1 rfl rfl (by decide) rfl ?_
  refine J_iconst (v := 0 ) (q := 3) C dX6_ownBy_2 rfl rfl ?_
  refine J_istore (q := 5) C dX6_ownBy_3 rfl (by decide) rfl ?_
  refine J_sub [2, 3, 4, 1, 0] rfl ?_
  refine cl_X6_ownBy_5 hap C r  (fun v3_142 h => ?_) FU _ _ h
  · refine J_iload_n (q := 143) C dX6_ownBy_142 rfl rfl 0 rfl ?_
    obtain rfl := Option.some.inj h
    exact J_iret C dX6_ownBy_143
set_option maxHeartbeats 4000000 in
set_option maxRecDepth 100000 in
theorem c_X6_duel {l : Launch} {D : va_G} {cI cR : ClassId} {ad : Nat → Nat} (hap : apN 16 ad) {i1 : Int32} {σ : Sg} {r : Int32} {σo : Sg}  (h : f_X6_duel i1 σ = some (r, σo)) : MI l D (tysC cI cR) 16 ad (celM cI ad) okM yX6_duel cX6_duel 2 .int 6 147 [.ref (ad 0), .int i1] σ r σo := by
  unfold f_X6_duel at h
  refine entI "WokenYearsModel" hap (by decide +kernel) rfl (Nat.le_of_ble_eq_true rfl) (fun p e s m args below meth c C => ?_)
  refine J_sub (lv' := [(0, .ref (ad 0)), (1, .int i1)]) [0, 1] rfl ?_
  refine J_iload_n (q := 1) C dX6_duel_0 rfl rfl 1 rfl ?_
  refine J_iconst (v := 0 ) (q := 2) C dX6_duel_1 rfl rfl ?_
  refine J_iconst (v := 3 ) (q := 3) C dX6_duel_2 rfl rfl ?_
  obtain ⟨r1, ec1, h⟩ := bnd_of h
  refine J_callIS (q := 6) (As := [.int i1, .int (0 : Int32), .int (3 : Int32)]) C (c_X6_in hap  ec1) ok_X6_in kM_X6_69 rfl rfl rfl ⟨Nat.le_of_ble_eq_true rfl, Nat.le_of_ble_eq_true rfl⟩ (Nat.le_of_ble_eq_true rfl) dX6_duel_3 rfl ?_
  refine J_ifne_b (tgt := 11) (q := 9) C dX6_duel_6 rfl (by decide) h (fun _ h => ?_) (fun _ h => ?_)
  · refine J_aload_n (q := 12) C dX6_duel_11 rfl rfl 0 rfl ?_
    refine JM_g_X6_houses (q := 15) C kF_X6_66 dX6_duel_12 rfl ?_
    refine J_if_ne (tgt := 23) (q := 18) C dX6_duel_15 rfl (by decide) h (fun _ h => ?_) (fun _ h => ?_)
    · refine J_bipush (v := -4) (q := 20) C dX6_duel_18 rfl rfl ?_
      refine J_goto (tgt := 40) C dX6_duel_20 (by decide) ?_
      obtain ⟨rfl, rfl⟩ := Prod.mk.inj (Option.some.inj h)
      exact J_iret C dX6_duel_40
    · refine J_aload_n (q := 24) C dX6_duel_23 rfl rfl 0 rfl ?_
      refine J_aload_n (q := 25) C dX6_duel_24 rfl rfl 0 rfl ?_
      refine J_iconst (v := 0 ) (q := 26) C dX6_duel_25 rfl rfl ?_
      refine J_iload_n (q := 27) C dX6_duel_26 rfl rfl 1 rfl ?_
      obtain ⟨r2, ec2, h⟩ := bnd_of h
      refine J_callIV (q := 30) (As := [.int (0 : Int32), .int i1]) C (c_X6_ownBy hap  ec2) ok_X6_ownBy kM_X6_236 (by decide) rfl rfl rfl rfl rfl rfl ⟨Nat.le_of_ble_eq_true rfl, Nat.le_of_ble_eq_true rfl⟩ (Nat.le_of_ble_eq_true rfl) dX6_duel_27 rfl ?_
      refine J_aload_n (q := 31) C dX6_duel_30 rfl rfl 0 rfl ?_
      refine J_iconst (v := 1 ) (q := 32) C dX6_duel_31 rfl rfl ?_
      refine J_iload_n (q := 33) C dX6_duel_32 rfl rfl 1 rfl ?_
      obtain ⟨r3, ec3, h⟩ := bnd_of h
      refine J_callIV (q := 36) (As := [.int (1 : Int32), .int i1]) C (c_X6_ownBy hap  ec3) ok_X6_ownBy kM_X6_236 (by decide) rfl rfl rfl rfl rfl rfl ⟨Nat.le_of_ble_eq_true rfl, Nat.le_of_ble_eq_true rfl⟩ (Nat.le_of_ble_eq_true rfl) dX6_duel_33 rfl ?_
      refine J_isub (q := 37) C dX6_duel_36 rfl ?_
      obtain ⟨r4, σ4, ec4, h⟩ := bnd2_of h
      refine J_callIV (q := 40) (As := [.int (r2 - r3)]) C (c_X6_tells hap  ec4) ok_X6_tells kM_X6_81 (by decide) rfl rfl rfl rfl rfl rfl ⟨Nat.le_of_ble_eq_true rfl, Nat.le_of_ble_eq_true rfl⟩ (Nat.le_of_ble_eq_true rfl) dX6_duel_37 rfl ?_
      obtain ⟨rfl, rfl⟩ := Prod.mk.inj (Option.some.inj h)
      exact J_iret C dX6_duel_40
  · refine J_iconst (v := -1 ) (q := 10) C dX6_duel_9 rfl rfl ?_
    obtain ⟨rfl, rfl⟩ := Prod.mk.inj (Option.some.inj h)
    exact J_iret C dX6_duel_10
set_option maxHeartbeats 4000000 in
set_option maxRecDepth 100000 in
theorem cl_X6_tellsPart_6 {p : Program} {l : Launch} {e : Env} {s : State} {m : MethodId} {args : Array Value} {below : List Frame} {meth : Method} {c : Code} {D : va_G} {cI cR : ClassId} {ad : Nat → Nat} (hap : apN 16 ad) (C : Cx p s m args meth c cX6_tellsPart 11 "WokenYearsModel" D (tysC cI cR) 16 ad (none)) {a1 : Int64} {a3 : Int64} {k31 : Int64 → Option Sg} {σ : Sg} (σo : Sg)  (hk31 : ∀ (u5 : Int64), k31 u5 = some σo → Jd p l e (rmF 1 30) s m args below meth c D 16 ad (celM cI ad) okM 11 (MQ below (QV D (tysC cI cR) 16 ad (celM cI ad) okM σo) args s 0 0 (inA 16 ad)) 31 [(0, .ref (ad 0)), (1, .long a1), (3, .long a3), (5, .long u5)] [] σ) : ∀ (n : Nat) (x5 : Int64) (x7 : Int64), l_X6_tellsPart_6 a1 a3 σ k31 n x5 x7 = some σo → Jd p l e (rmF 1 30) s m args below meth c D 16 ad (celM cI ad) okM 11 (MQ below (QV D (tysC cI cR) 16 ad (celM cI ad) okM σo) args s 0 0 (inA 16 ad)) 6 [(0, .ref (ad 0)), (1, .long a1), (3, .long a3), (5, .long x5), (7, .long x7)] [] σ := by
  intro n
  induction n with
  | zero => intro x5 x7 h; cases h
  | succ n ih =>
    intro x5 x7 h
    unfold l_X6_tellsPart_6 at h
    refine J_lload (q := 8) C dX6_tellsPart_6 rfl 4 rfl ?_
    refine J_lconst (v := 0) (q := 9) C dX6_tellsPart_8 rfl rfl ?_
    refine J_lcmp (q := 10) C dX6_tellsPart_9 rfl ?_
    refine J_if_le (tgt := 31) (q := 13) C dX6_tellsPart_10 rfl (by decide) h (fun _ h => ?_) (fun _ h => ?_)
    · refine J_sub [0, 1, 2, 3] rfl ?_
      exact hk31 _ h
    · refine J_lload (q := 15) C dX6_tellsPart_13 rfl 3 rfl ?_
      refine J_lload (q := 17) C dX6_tellsPart_15 rfl 4 rfl ?_
      obtain ⟨nz, h⟩ := ckn_of h
      refine J_lrem (q := 18) C dX6_tellsPart_17 rfl nz ?_
      refine J_nml h (fun y1 ey1 h => ?_)
      refine J_lstore (q := 20) C dX6_tellsPart_18 rfl (by decide) rfl ?_
      refine J_lload (q := 22) C dX6_tellsPart_20 rfl 5 rfl ?_
      refine J_lstore (q := 24) C dX6_tellsPart_22 rfl (by decide) rfl ?_
      refine J_lload (q := 26) C dX6_tellsPart_24 rfl 1 rfl ?_
      refine J_lstore (q := 28) C dX6_tellsPart_26 rfl (by decide) rfl ?_
      refine J_goto (tgt := 6) C dX6_tellsPart_28 (by decide) ?_
      refine J_sub [3, 4, 5, 1, 0] rfl ?_
      exact ih _ _ h
set_option maxHeartbeats 4000000 in
set_option maxRecDepth 100000 in
theorem c_X6_tellsPart {l : Launch} {D : va_G} {cI cR : ClassId} {ad : Nat → Nat} (hap : apN 16 ad) {l1 : Int64} {l3 : Int64} {σ : Sg} {σo : Sg}  (h : f_X6_tellsPart l1 l3 σ = some σo) : MV l D (tysC cI cR) 16 ad (celM cI ad) okM yX6_tellsPart cX6_tellsPart 11 1 30 [.ref (ad 0), .long l1, .long l3] σ σo := by
  unfold f_X6_tellsPart at h
  refine entV "WokenYearsModel" hap (by decide +kernel) rfl (Nat.le_of_ble_eq_true rfl) (fun p e s m args below meth c C => ?_)
  refine J_sub (lv' := [(0, .ref (ad 0)), (1, .long l1), (3, .long l3)]) [0, 1, 2] rfl ?_
  refine J_lload_n (q := 1) C dX6_tellsPart_0 rfl rfl 1 rfl ?_
  refine J_lstore (q := 3) C dX6_tellsPart_1 rfl (by decide) rfl ?_
  refine J_lload_n (q := 4) C dX6_tellsPart_3 rfl rfl 3 rfl ?_
  refine J_lstore (q := 6) C dX6_tellsPart_4 rfl (by decide) rfl ?_
  refine J_sub [2, 3, 4, 1, 0] rfl ?_
  refine cl_X6_tellsPart_6 hap C σo  (fun v5_31 h => ?_) FU _ _ h
  · refine J_aload_n (q := 32) C dX6_tellsPart_31 rfl rfl 0 rfl ?_
    refine J_lload_n (q := 33) C dX6_tellsPart_32 rfl rfl 1 rfl ?_
    refine J_lload (q := 35) C dX6_tellsPart_33 rfl 3 rfl ?_
    obtain ⟨nz, h⟩ := ckn_of h
    refine J_ldiv (q := 36) C dX6_tellsPart_35 rfl nz ?_
    refine JM_p_X6_upperNow (q := 39) C kF_X6_233 dX6_tellsPart_36 rfl ?_
    refine jn_elim h (fun σ2 eσ2 h => ?_)
    rw [← eσ2]
    refine J_aload_n (q := 40) C dX6_tellsPart_39 rfl rfl 0 rfl ?_
    refine J_lload_n (q := 41) C dX6_tellsPart_40 rfl rfl 2 rfl ?_
    refine J_lload (q := 43) C dX6_tellsPart_41 rfl 3 rfl ?_
    obtain ⟨nz, h⟩ := ckn_of h
    refine J_ldiv (q := 44) C dX6_tellsPart_43 rfl nz ?_
    refine JM_p_X6_lowerNow (q := 47) C kF_X6_25 dX6_tellsPart_44 rfl ?_
    refine jn_elim h (fun σ3 eσ3 h => ?_)
    rw [← eσ3]
    obtain rfl := Option.some.inj h
    exact J_vret C dX6_tellsPart_47
set_option maxHeartbeats 4000000 in
set_option maxRecDepth 100000 in
theorem cl_X6_waysOf_5 {p : Program} {l : Launch} {e : Env} {s : State} {m : MethodId} {args : Array Value} {below : List Frame} {meth : Method} {c : Code} {D : va_G} {cI cR : ClassId} {ad : Nat → Nat} (hap : apN 16 ad) (C : Cx p s m args meth c cX6_waysOf 6 "WokenYearsModel" D (tysC cI cR) 16 ad (some .long)) {a0 : Int32} {a1 : Int32} {a2 : Int32} {k31 : Int64 → Option Int64} {σ : Sg} (r : Int64)  (hk31 : ∀ (u3 : Int64), k31 u3 = some r → Jd p l e (rmF 1 30) s m args below meth c D 16 ad (celM cI ad) okM 6 (MQ below (QL D (tysC cI cR) 16 ad (celM cI ad) okM r σ) args s 0 0 (inA 16 ad)) 31 [(0, .int a0), (1, .int a1), (2, .int a2), (3, .long u3)] [] σ) : ∀ (n : Nat) (x3 : Int64) (x5 : Int32), l_X6_waysOf_5 a0 a1 a2 k31 n x3 x5 = some r → Jd p l e (rmF 1 30) s m args below meth c D 16 ad (celM cI ad) okM 6 (MQ below (QL D (tysC cI cR) 16 ad (celM cI ad) okM r σ) args s 0 0 (inA 16 ad)) 5 [(0, .int a0), (1, .int a1), (2, .int a2), (3, .long x3), (5, .int x5)] [] σ := by
  intro n
  induction n with
  | zero => intro x3 x5 h; cases h
  | succ n ih =>
    intro x3 x5 h
    unfold l_X6_waysOf_5 at h
    refine J_iload (q := 7) C dX6_waysOf_5 rfl 4 rfl ?_
    refine J_iload_n (q := 8) C dX6_waysOf_7 rfl rfl 1 rfl ?_
    refine J_icmp_ge (tgt := 31) (q := 11) C dX6_waysOf_8 rfl (by decide) h (fun _ h => ?_) (fun _ h => ?_)
    · refine J_sub [0, 1, 2, 3] rfl ?_
      exact hk31 _ h
    · refine J_lload_n (q := 12) C dX6_waysOf_11 rfl rfl 3 rfl ?_
      refine J_iload_n (q := 13) C dX6_waysOf_12 rfl rfl 0 rfl ?_
      refine J_iload (q := 15) C dX6_waysOf_13 rfl 4 rfl ?_
      refine J_isub (q := 16) C dX6_waysOf_15 rfl ?_
      refine J_i2l (q := 17) C dX6_waysOf_16 rfl ?_
      refine J_lmul (q := 18) C dX6_waysOf_17 rfl ?_
      refine J_iload (q := 20) C dX6_waysOf_18 rfl 4 rfl ?_
      refine J_iconst (v := 1 ) (q := 21) C dX6_waysOf_20 rfl rfl ?_
      refine J_iadd (q := 22) C dX6_waysOf_21 rfl ?_
      refine J_i2l (q := 23) C dX6_waysOf_22 rfl ?_
      obtain ⟨nz, h⟩ := ckn_of h
      refine J_ldiv (q := 24) C dX6_waysOf_23 rfl nz ?_
      refine J_nml h (fun y1 ey1 h => ?_)
      refine J_lstore_n (q := 25) C dX6_waysOf_24 rfl rfl (by decide) rfl ?_
      refine jn_elim h (fun y2 ey2 h => ?_)
      refine J_iinc (v := y2) (q := 28) C dX6_waysOf_25 rfl 4 rfl (by rw [ey2]; rfl) (by decide) rfl ?_
      refine J_goto (tgt := 5) C dX6_waysOf_28 (by decide) ?_
      refine J_sub [2, 3, 4, 1, 0] rfl ?_
      exact ih _ _ h
set_option maxHeartbeats 4000000 in
set_option maxRecDepth 100000 in
theorem cl_X6_waysOf_34 {p : Program} {l : Launch} {e : Env} {s : State} {m : MethodId} {args : Array Value} {below : List Frame} {meth : Method} {c : Code} {D : va_G} {cI cR : ClassId} {ad : Nat → Nat} (hap : apN 16 ad) (C : Cx p s m args meth c cX6_waysOf 6 "WokenYearsModel" D (tysC cI cR) 16 ad (some .long)) {a0 : Int32} {a1 : Int32} {a2 : Int32} {k65 : Int64 → Option Int64} {σ : Sg} (r : Int64)  (hk65 : ∀ (u3 : Int64), k65 u3 = some r → Jd p l e (rmF 1 30) s m args below meth c D 16 ad (celM cI ad) okM 6 (MQ below (QL D (tysC cI cR) 16 ad (celM cI ad) okM r σ) args s 0 0 (inA 16 ad)) 65 [(3, .long u3)] [] σ) : ∀ (n : Nat) (x3 : Int64) (x5 : Int32), l_X6_waysOf_34 a0 a1 a2 k65 n x3 x5 = some r → Jd p l e (rmF 1 30) s m args below meth c D 16 ad (celM cI ad) okM 6 (MQ below (QL D (tysC cI cR) 16 ad (celM cI ad) okM r σ) args s 0 0 (inA 16 ad)) 34 [(0, .int a0), (1, .int a1), (2, .int a2), (3, .long x3), (5, .int x5)] [] σ := by
  intro n
  induction n with
  | zero => intro x3 x5 h; cases h
  | succ n ih =>
    intro x3 x5 h
    unfold l_X6_waysOf_34 at h
    refine J_iload (q := 36) C dX6_waysOf_34 rfl 4 rfl ?_
    refine J_iload_n (q := 37) C dX6_waysOf_36 rfl rfl 0 rfl ?_
    refine J_icmp_ge (tgt := 65) (q := 40) C dX6_waysOf_37 rfl (by decide) h (fun _ h => ?_) (fun _ h => ?_)
    · refine J_sub [3] rfl ?_
      exact hk65 _ h
    · refine J_lload_n (q := 41) C dX6_waysOf_40 rfl rfl 3 rfl ?_
      refine J_iload (q := 43) C dX6_waysOf_41 rfl 4 rfl ?_
      refine J_iload_n (q := 44) C dX6_waysOf_43 rfl rfl 1 rfl ?_
      refine jn_elim h (fun k57 ek57 h => ?_)
      have hk57 : ∀ (t0_57 : Int64), k57 t0_57 = some r → Jd p l e (rmF 1 30) s m args below meth c D 16 ad (celM cI ad) okM 6 (MQ below (QL D (tysC cI cR) 16 ad (celM cI ad) okM r σ) args s 0 0 (inA 16 ad)) 57 [(0, .int a0), (1, .int a1), (2, .int a2), (5, .int x5)] [.long t0_57, .long x3] σ := by
        intro t0_57 h
        rw [ek57] at h
        refine J_lmul (q := 58) C dX6_waysOf_57 rfl ?_
        refine J_nml h (fun y3 ey3 h => ?_)
        refine J_lstore_n (q := 59) C dX6_waysOf_58 rfl rfl (by decide) rfl ?_
        refine jn_elim h (fun y4 ey4 h => ?_)
        refine J_iinc (v := y4) (q := 62) C dX6_waysOf_59 rfl 4 rfl (by rw [ey4]; rfl) (by decide) rfl ?_
        refine J_goto (tgt := 34) C dX6_waysOf_62 (by decide) ?_
        refine J_sub [2, 3, 4, 1, 0] rfl ?_
        exact ih _ _ h
      refine J_icmp_ge (tgt := 52) (q := 47) C dX6_waysOf_44 rfl (by decide) h (fun _ h => ?_) (fun _ h => ?_)
      · refine J_bipush (v := 12) (q := 54) C dX6_waysOf_52 rfl rfl ?_
        refine J_iload_n (q := 55) C dX6_waysOf_54 rfl rfl 2 rfl ?_
        refine J_isub (q := 56) C dX6_waysOf_55 rfl ?_
        refine J_i2l (q := 57) C dX6_waysOf_56 rfl ?_
        refine J_sub [0, 1, 2, 4] rfl ?_
        exact hk57 _ h
      · refine J_iload_n (q := 48) C dX6_waysOf_47 rfl rfl 2 rfl ?_
        refine J_i2l (q := 49) C dX6_waysOf_48 rfl ?_
        refine J_goto (tgt := 57) C dX6_waysOf_49 (by decide) ?_
        refine J_sub [0, 1, 2, 4] rfl ?_
        exact hk57 _ h
set_option maxHeartbeats 4000000 in
set_option maxRecDepth 100000 in
theorem c_X6_waysOf {l : Launch} {D : va_G} {cI cR : ClassId} {ad : Nat → Nat} (hap : apN 16 ad) {i0 : Int32} {i1 : Int32} {i2 : Int32} {σ : Sg} {r : Int64}  (h : f_X6_waysOf i0 i1 i2 = some r) : ML l D (tysC cI cR) 16 ad (celM cI ad) okM yX6_waysOf cX6_waysOf 6 1 30 [.int i0, .int i1, .int i2] σ r σ := by
  unfold f_X6_waysOf at h
  refine entL "WokenYearsModel" hap (by decide +kernel) rfl (Nat.le_of_ble_eq_true rfl) (fun p e s m args below meth c C => ?_)
  refine J_sub (lv' := [(0, .int i0), (1, .int i1), (2, .int i2)]) [0, 1, 2] rfl ?_
  refine J_lconst (v := 1) (q := 1) C dX6_waysOf_0 rfl rfl ?_
  refine J_lstore_n (q := 2) C dX6_waysOf_1 rfl rfl (by decide) rfl ?_
  refine J_iconst (v := 0 ) (q := 3) C dX6_waysOf_2 rfl rfl ?_
  refine J_istore (q := 5) C dX6_waysOf_3 rfl (by decide) rfl ?_
  refine J_sub [2, 3, 4, 1, 0] rfl ?_
  refine cl_X6_waysOf_5 hap C r  (fun v3_31 h => ?_) FU _ _ h
  · refine J_iconst (v := 0 ) (q := 32) C dX6_waysOf_31 rfl rfl ?_
    refine J_istore (q := 34) C dX6_waysOf_32 rfl (by decide) rfl ?_
    refine J_sub [1, 2, 3, 4, 0] rfl ?_
    refine cl_X6_waysOf_34 hap C r  (fun v3_65 h => ?_) FU _ _ h
    · refine J_lload_n (q := 66) C dX6_waysOf_65 rfl rfl 0 rfl ?_
      obtain rfl := Option.some.inj h
      exact J_lret C dX6_waysOf_66
set_option maxHeartbeats 4000000 in
set_option maxRecDepth 100000 in
theorem cl_X6_whole_4 {p : Program} {l : Launch} {e : Env} {s : State} {m : MethodId} {args : Array Value} {below : List Frame} {meth : Method} {c : Code} {D : va_G} {cI cR : ClassId} {ad : Nat → Nat} (hap : apN 16 ad) (C : Cx p s m args meth c cX6_whole 4 "WokenYearsModel" D (tysC cI cR) 16 ad (some .long)) {a0 : Int32} {k21 : Int64 → Option Int64} {σ : Sg} (r : Int64)  (hk21 : ∀ (u1 : Int64), k21 u1 = some r → Jd p l e (rmF 1 30) s m args below meth c D 16 ad (celM cI ad) okM 4 (MQ below (QL D (tysC cI cR) 16 ad (celM cI ad) okM r σ) args s 0 0 (inA 16 ad)) 21 [(1, .long u1)] [] σ) : ∀ (n : Nat) (x1 : Int64) (x3 : Int32), l_X6_whole_4 a0 k21 n x1 x3 = some r → Jd p l e (rmF 1 30) s m args below meth c D 16 ad (celM cI ad) okM 4 (MQ below (QL D (tysC cI cR) 16 ad (celM cI ad) okM r σ) args s 0 0 (inA 16 ad)) 4 [(0, .int a0), (1, .long x1), (3, .int x3)] [] σ := by
  intro n
  induction n with
  | zero => intro x1 x3 h; cases h
  | succ n ih =>
    intro x1 x3 h
    unfold l_X6_whole_4 at h
    refine J_iload_n (q := 5) C dX6_whole_4 rfl rfl 2 rfl ?_
    refine J_iload_n (q := 6) C dX6_whole_5 rfl rfl 0 rfl ?_
    refine J_icmp_ge (tgt := 21) (q := 9) C dX6_whole_6 rfl (by decide) h (fun _ h => ?_) (fun _ h => ?_)
    · refine J_sub [1] rfl ?_
      exact hk21 _ h
    · refine J_lload_n (q := 10) C dX6_whole_9 rfl rfl 1 rfl ?_
      refine J_ldc2 (q := 13) C kJ_X6_239 dX6_whole_10 rfl ?_
      refine J_lmul (q := 14) C dX6_whole_13 rfl ?_
      refine J_nml h (fun y1 ey1 h => ?_)
      refine J_lstore_n (q := 15) C dX6_whole_14 rfl rfl (by decide) rfl ?_
      refine jn_elim h (fun y2 ey2 h => ?_)
      refine J_iinc (v := y2) (q := 18) C dX6_whole_15 rfl 2 rfl (by rw [ey2]; rfl) (by decide) rfl ?_
      refine J_goto (tgt := 4) C dX6_whole_18 (by decide) ?_
      refine J_sub [2, 1, 0] rfl ?_
      exact ih _ _ h
set_option maxHeartbeats 4000000 in
set_option maxRecDepth 100000 in
theorem c_X6_whole {l : Launch} {D : va_G} {cI cR : ClassId} {ad : Nat → Nat} (hap : apN 16 ad) {i0 : Int32} {σ : Sg} {r : Int64}  (h : f_X6_whole i0 = some r) : ML l D (tysC cI cR) 16 ad (celM cI ad) okM yX6_whole cX6_whole 4 1 30 [.int i0] σ r σ := by
  unfold f_X6_whole at h
  refine entL "WokenYearsModel" hap (by decide +kernel) rfl (Nat.le_of_ble_eq_true rfl) (fun p e s m args below meth c C => ?_)
  refine J_sub (lv' := [(0, .int i0)]) [0] rfl ?_
  refine J_lconst (v := 1) (q := 1) C dX6_whole_0 rfl rfl ?_
  refine J_lstore_n (q := 2) C dX6_whole_1 rfl rfl (by decide) rfl ?_
  refine J_iconst (v := 0 ) (q := 3) C dX6_whole_2 rfl rfl ?_
  refine J_istore_n (q := 4) C dX6_whole_3 rfl rfl (by decide) rfl ?_
  refine J_sub [2, 1, 0] rfl ?_
  refine cl_X6_whole_4 hap C r  (fun v1_21 h => ?_) FU _ _ h
  · refine J_lload_n (q := 22) C dX6_whole_21 rfl rfl 0 rfl ?_
    obtain rfl := Option.some.inj h
    exact J_lret C dX6_whole_22
set_option maxHeartbeats 4000000 in
set_option maxRecDepth 100000 in
theorem cl_X6_odds_43 {p : Program} {l : Launch} {e : Env} {s : State} {m : MethodId} {args : Array Value} {below : List Frame} {meth : Method} {c : Code} {D : va_G} {cI cR : ClassId} {ad : Nat → Nat} (hap : apN 16 ad) (C : Cx p s m args meth c cX6_odds 8 "WokenYearsModel" D (tysC cI cR) 16 ad (some .int)) {a2 : Int32} {a3 : Int32} {a4 : Int32} {k85 : Int64 → Option (Int32 × Sg)} {σ : Sg} (r : Int32) (σo : Sg)  (hk85 : ∀ (u5 : Int64), k85 u5 = some (r, σo) → Jd p l e (rmF 5 119) s m args below meth c D 16 ad (celM cI ad) okM 8 (MQ below (QI D (tysC cI cR) 16 ad (celM cI ad) okM r σo) args s 0 0 (inA 16 ad)) 85 [(0, .ref (ad 0)), (2, .int a2), (5, .long u5)] [] σ) : ∀ (n : Nat) (x5 : Int64) (x7 : Int32), l_X6_odds_43 a2 a3 a4 σ k85 n x5 x7 = some (r, σo) → Jd p l e (rmF 5 119) s m args below meth c D 16 ad (celM cI ad) okM 8 (MQ below (QI D (tysC cI cR) 16 ad (celM cI ad) okM r σo) args s 0 0 (inA 16 ad)) 43 [(0, .ref (ad 0)), (2, .int a2), (3, .int a3), (4, .int a4), (5, .long x5), (7, .int x7)] [] σ := by
  intro n
  induction n with
  | zero => intro x5 x7 h; cases h
  | succ n ih =>
    intro x5 x7 h
    unfold l_X6_odds_43 at h
    refine J_iload (q := 45) C dX6_odds_43 rfl 5 rfl ?_
    refine J_iload_n (q := 46) C dX6_odds_45 rfl rfl 1 rfl ?_
    refine J_icmp_gt (tgt := 85) (q := 49) C dX6_odds_46 rfl (by decide) h (fun _ h => ?_) (fun _ h => ?_)
    · refine J_sub [0, 1, 4] rfl ?_
      exact hk85 _ h
    · refine J_lload (q := 51) C dX6_odds_49 rfl 4 rfl ?_
      refine J_iload (q := 53) C dX6_odds_51 rfl 3 rfl ?_
      refine J_bipush (v := -9) (q := 55) C dX6_odds_53 rfl rfl ?_
      refine jn_elim h (fun k76 ek76 h => ?_)
      have hk76 : ∀ (t0_76 : Int64), k76 t0_76 = some (r, σo) → Jd p l e (rmF 5 119) s m args below meth c D 16 ad (celM cI ad) okM 8 (MQ below (QI D (tysC cI cR) 16 ad (celM cI ad) okM r σo) args s 0 0 (inA 16 ad)) 76 [(0, .ref (ad 0)), (2, .int a2), (3, .int a3), (4, .int a4), (7, .int x7)] [.long t0_76, .long x5] σ := by
        intro t0_76 h
        rw [ek76] at h
        refine J_ladd (q := 77) C dX6_odds_76 rfl ?_
        refine J_nml h (fun y5 ey5 h => ?_)
        refine J_lstore (q := 79) C dX6_odds_77 rfl (by decide) rfl ?_
        refine jn_elim h (fun y6 ey6 h => ?_)
        refine J_iinc (v := y6) (q := 82) C dX6_odds_79 rfl 5 rfl (by rw [ey6]; rfl) (by decide) rfl ?_
        refine J_goto (tgt := 43) C dX6_odds_82 (by decide) ?_
        refine J_sub [2, 3, 4, 5, 1, 0] rfl ?_
        exact ih _ _ h
      refine jn_elim h (fun k75 ek75 h => ?_)
      have hk75 : k75 = some (r, σo) → Jd p l e (rmF 5 119) s m args below meth c D 16 ad (celM cI ad) okM 8 (MQ below (QI D (tysC cI cR) 16 ad (celM cI ad) okM r σo) args s 0 0 (inA 16 ad)) 75 [(0, .ref (ad 0)), (2, .int a2), (3, .int a3), (4, .int a4), (7, .int x7)] [.long x5] σ := by
        intro  h
        rw [ek75] at h
        refine J_lconst (v := 0) (q := 76) C dX6_odds_75 rfl rfl ?_
        exact hk76 _ h
      refine J_icmp_eq (tgt := 75) (q := 58) C dX6_odds_55 rfl (by decide) h (fun _ h => ?_) (fun _ h => ?_)
      · refine J_sub [0, 1, 2, 3, 5] rfl ?_
        exact hk75 h
      · refine J_iload (q := 60) C dX6_odds_58 rfl 5 rfl ?_
        refine J_iload (q := 62) C dX6_odds_60 rfl 3 rfl ?_
        refine J_icmp_lt (tgt := 75) (q := 65) C dX6_odds_62 rfl (by decide) h (fun _ h => ?_) (fun _ h => ?_)
        · refine J_sub [0, 1, 2, 3, 5] rfl ?_
          exact hk75 h
        · refine J_iload_n (q := 66) C dX6_odds_65 rfl rfl 1 rfl ?_
          refine J_iload (q := 68) C dX6_odds_66 rfl 5 rfl ?_
          refine J_iload_n (q := 69) C dX6_odds_68 rfl rfl 2 rfl ?_
          obtain ⟨r7, ec7, h⟩ := bnd_of h
          refine J_callLS (q := 72) (As := [.int a2, .int x7, .int a3]) C (c_X6_waysOf hap  ec7) ok_X6_waysOf kM_X6_241 rfl rfl rfl ⟨Nat.le_of_ble_eq_true rfl, Nat.le_of_ble_eq_true rfl⟩ (Nat.le_of_ble_eq_true rfl) dX6_odds_69 rfl ?_
          refine J_goto (tgt := 76) C dX6_odds_72 (by decide) ?_
          refine J_sub [0, 1, 2, 3, 5] rfl ?_
          exact hk76 _ h
set_option maxHeartbeats 4000000 in
set_option maxRecDepth 100000 in
theorem c_X6_odds {l : Launch} {D : va_G} {cI cR : ClassId} {ad : Nat → Nat} (hap : apN 16 ad) {i1 : Int32} {i2 : Int32} {i3 : Int32} {σ : Sg} {r : Int32} {σo : Sg}  (h : f_X6_odds i1 i2 i3 σ = some (r, σo)) : MI l D (tysC cI cR) 16 ad (celM cI ad) okM yX6_odds cX6_odds 8 .int 5 119 [.ref (ad 0), .int i1, .int i2, .int i3] σ r σo := by
  unfold f_X6_odds at h
  refine entI "WokenYearsModel" hap (by decide +kernel) rfl (Nat.le_of_ble_eq_true rfl) (fun p e s m args below meth c C => ?_)
  refine J_sub (lv' := [(0, .ref (ad 0)), (1, .int i1), (2, .int i2), (3, .int i3)]) [0, 1, 2, 3] rfl ?_
  refine J_aload_n (q := 1) C dX6_odds_0 rfl rfl 0 rfl ?_
  refine J_iload_n (q := 2) C dX6_odds_1 rfl rfl 1 rfl ?_
  obtain ⟨r1, ec1, h⟩ := bnd_of h
  refine J_callIV (q := 5) (As := [.int i1]) C (c_X6_isOne hap  ec1) ok_X6_isOne kM_X6_150 (by decide) rfl rfl rfl rfl rfl rfl ⟨Nat.le_of_ble_eq_true rfl, Nat.le_of_ble_eq_true rfl⟩ (Nat.le_of_ble_eq_true rfl) dX6_odds_2 rfl ?_
  refine J_ifeq_b (tgt := 28) (q := 8) C dX6_odds_5 rfl (by decide) h (fun _ h => ?_) (fun _ h => ?_)
  · refine J_iload_n (q := 9) C dX6_odds_8 rfl rfl 2 rfl ?_
    refine J_iconst (v := 0 ) (q := 10) C dX6_odds_9 rfl rfl ?_
    refine J_bipush (v := 8) (q := 12) C dX6_odds_10 rfl rfl ?_
    obtain ⟨r2, ec2, h⟩ := bnd_of h
    refine J_callIS (q := 15) (As := [.int i2, .int (0 : Int32), .int (8 : Int32)]) C (c_X6_in hap  ec2) ok_X6_in kM_X6_69 rfl rfl rfl ⟨Nat.le_of_ble_eq_true rfl, Nat.le_of_ble_eq_true rfl⟩ (Nat.le_of_ble_eq_true rfl) dX6_odds_12 rfl ?_
    refine J_ifeq_b (tgt := 28) (q := 18) C dX6_odds_15 rfl (by decide) h (fun _ h => ?_) (fun _ h => ?_)
    · refine J_iload_n (q := 19) C dX6_odds_18 rfl rfl 3 rfl ?_
      refine J_iconst (v := 0 ) (q := 20) C dX6_odds_19 rfl rfl ?_
      refine J_bipush (v := 12) (q := 22) C dX6_odds_20 rfl rfl ?_
      obtain ⟨r3, ec3, h⟩ := bnd_of h
      refine J_callIS (q := 25) (As := [.int i3, .int (0 : Int32), .int (12 : Int32)]) C (c_X6_in hap  ec3) ok_X6_in kM_X6_69 rfl rfl rfl ⟨Nat.le_of_ble_eq_true rfl, Nat.le_of_ble_eq_true rfl⟩ (Nat.le_of_ble_eq_true rfl) dX6_odds_22 rfl ?_
      refine J_ifne_b (tgt := 30) (q := 28) C dX6_odds_25 rfl (by decide) h (fun _ h => ?_) (fun _ h => ?_)
      · refine J_aload_n (q := 31) C dX6_odds_30 rfl rfl 0 rfl ?_
        refine J_iload_n (q := 32) C dX6_odds_31 rfl rfl 1 rfl ?_
        obtain ⟨r4, ec4, h⟩ := bnd_of h
        refine J_callIV (q := 35) (As := [.int i1]) C (c_X6_moreOf hap  ec4) ok_X6_moreOf kM_X6_147 (by decide) rfl rfl rfl rfl rfl rfl ⟨Nat.le_of_ble_eq_true rfl, Nat.le_of_ble_eq_true rfl⟩ (Nat.le_of_ble_eq_true rfl) dX6_odds_32 rfl ?_
        refine J_istore (q := 37) C dX6_odds_35 rfl (by decide) rfl ?_
        refine J_lconst (v := 0) (q := 38) C dX6_odds_37 rfl rfl ?_
        refine J_lstore (q := 40) C dX6_odds_38 rfl (by decide) rfl ?_
        refine J_iconst (v := 0 ) (q := 41) C dX6_odds_40 rfl rfl ?_
        refine J_istore (q := 43) C dX6_odds_41 rfl (by decide) rfl ?_
        refine J_sub [3, 5, 6, 2, 1, 0] rfl ?_
        refine cl_X6_odds_43 hap C r σo  (fun v5_85 h => ?_) FU _ _ h
        · refine J_aload_n (q := 86) C dX6_odds_85 rfl rfl 0 rfl ?_
          refine J_lload (q := 88) C dX6_odds_86 rfl 2 rfl ?_
          refine J_iload_n (q := 89) C dX6_odds_88 rfl rfl 1 rfl ?_
          obtain ⟨r8, ec8, h⟩ := bnd_of h
          refine J_callLS (q := 92) (As := [.int i2]) C (c_X6_whole hap  ec8) ok_X6_whole kM_X6_245 rfl rfl rfl ⟨Nat.le_of_ble_eq_true rfl, Nat.le_of_ble_eq_true rfl⟩ (Nat.le_of_ble_eq_true rfl) dX6_odds_89 rfl ?_
          obtain ⟨σ9, ec9, h⟩ := bnd_of h
          refine J_callXV (q := 95) (As := [.long v5_85, .long r8]) C (c_X6_tellsPart hap  ec9) ok_X6_tellsPart kM_X6_249 (by decide) rfl rfl rfl rfl rfl rfl ⟨Nat.le_of_ble_eq_true rfl, Nat.le_of_ble_eq_true rfl⟩ (Nat.le_of_ble_eq_true rfl) dX6_odds_92 rfl ?_
          refine J_iconst (v := 1 ) (q := 96) C dX6_odds_95 rfl rfl ?_
          obtain ⟨rfl, rfl⟩ := Prod.mk.inj (Option.some.inj h)
          exact J_iret C dX6_odds_96
      · refine J_iconst (v := -1 ) (q := 29) C dX6_odds_28 rfl rfl ?_
        obtain ⟨rfl, rfl⟩ := Prod.mk.inj (Option.some.inj h)
        exact J_iret C dX6_odds_29
    · refine J_iconst (v := -1 ) (q := 29) C dX6_odds_28 rfl rfl ?_
      obtain ⟨rfl, rfl⟩ := Prod.mk.inj (Option.some.inj h)
      exact J_iret C dX6_odds_29
  · refine J_iconst (v := -1 ) (q := 29) C dX6_odds_28 rfl rfl ?_
    obtain ⟨rfl, rfl⟩ := Prod.mk.inj (Option.some.inj h)
    exact J_iret C dX6_odds_29
set_option maxHeartbeats 4000000 in
set_option maxRecDepth 100000 in
theorem cl_X6_mid_56 {p : Program} {l : Launch} {e : Env} {s : State} {m : MethodId} {args : Array Value} {below : List Frame} {meth : Method} {c : Code} {D : va_G} {cI cR : ClassId} {ad : Nat → Nat} (hap : apN 16 ad) (C : Cx p s m args meth c cX6_mid 8 "WokenYearsModel" D (tysC cI cR) 16 ad (some .int)) {a2 : Int32} {a3 : Int32} {a4 : Int32} {k98 : Int64 → Option (Int32 × Sg)} {σ : Sg} (r : Int32) (σo : Sg)  (hk98 : ∀ (u5 : Int64), k98 u5 = some (r, σo) → Jd p l e (rmF 5 119) s m args below meth c D 16 ad (celM cI ad) okM 8 (MQ below (QI D (tysC cI cR) 16 ad (celM cI ad) okM r σo) args s 0 0 (inA 16 ad)) 98 [(0, .ref (ad 0)), (2, .int a2), (5, .long u5)] [] σ) : ∀ (n : Nat) (x5 : Int64) (x7 : Int32), l_X6_mid_56 a2 a3 a4 σ k98 n x5 x7 = some (r, σo) → Jd p l e (rmF 5 119) s m args below meth c D 16 ad (celM cI ad) okM 8 (MQ below (QI D (tysC cI cR) 16 ad (celM cI ad) okM r σo) args s 0 0 (inA 16 ad)) 56 [(0, .ref (ad 0)), (2, .int a2), (3, .int a3), (4, .int a4), (5, .long x5), (7, .int x7)] [] σ := by
  intro n
  induction n with
  | zero => intro x5 x7 h; cases h
  | succ n ih =>
    intro x5 x7 h
    unfold l_X6_mid_56 at h
    refine J_iload (q := 58) C dX6_mid_56 rfl 5 rfl ?_
    refine J_iload_n (q := 59) C dX6_mid_58 rfl rfl 1 rfl ?_
    refine J_icmp_gt (tgt := 98) (q := 62) C dX6_mid_59 rfl (by decide) h (fun _ h => ?_) (fun _ h => ?_)
    · refine J_sub [0, 1, 4] rfl ?_
      exact hk98 _ h
    · refine J_lload (q := 64) C dX6_mid_62 rfl 4 rfl ?_
      refine J_iload (q := 66) C dX6_mid_64 rfl 5 rfl ?_
      refine J_iload (q := 68) C dX6_mid_66 rfl 3 rfl ?_
      refine jn_elim h (fun k89 ek89 h => ?_)
      have hk89 : ∀ (t0_89 : Int64), k89 t0_89 = some (r, σo) → Jd p l e (rmF 5 119) s m args below meth c D 16 ad (celM cI ad) okM 8 (MQ below (QI D (tysC cI cR) 16 ad (celM cI ad) okM r σo) args s 0 0 (inA 16 ad)) 89 [(0, .ref (ad 0)), (2, .int a2), (3, .int a3), (4, .int a4), (7, .int x7)] [.long t0_89, .long x5] σ := by
        intro t0_89 h
        rw [ek89] at h
        refine J_ladd (q := 90) C dX6_mid_89 rfl ?_
        refine J_nml h (fun y6 ey6 h => ?_)
        refine J_lstore (q := 92) C dX6_mid_90 rfl (by decide) rfl ?_
        refine jn_elim h (fun y7 ey7 h => ?_)
        refine J_iinc (v := y7) (q := 95) C dX6_mid_92 rfl 5 rfl (by rw [ey7]; rfl) (by decide) rfl ?_
        refine J_goto (tgt := 56) C dX6_mid_95 (by decide) ?_
        refine J_sub [2, 3, 4, 5, 1, 0] rfl ?_
        exact ih _ _ h
      refine J_icmp_ge (tgt := 88) (q := 71) C dX6_mid_68 rfl (by decide) h (fun _ h => ?_) (fun _ h => ?_)
      · refine J_lconst (v := 0) (q := 89) C dX6_mid_88 rfl rfl ?_
        refine J_sub [0, 1, 2, 3, 5] rfl ?_
        exact hk89 _ h
      · refine J_iload_n (q := 72) C dX6_mid_71 rfl rfl 1 rfl ?_
        refine J_iload (q := 74) C dX6_mid_72 rfl 5 rfl ?_
        refine J_iload_n (q := 75) C dX6_mid_74 rfl rfl 2 rfl ?_
        obtain ⟨r8, ec8, h⟩ := bnd_of h
        refine J_callLS (q := 78) (As := [.int a2, .int x7, .int a3]) C (c_X6_waysOf hap  ec8) ok_X6_waysOf kM_X6_241 rfl rfl rfl ⟨Nat.le_of_ble_eq_true rfl, Nat.le_of_ble_eq_true rfl⟩ (Nat.le_of_ble_eq_true rfl) dX6_mid_75 rfl ?_
        refine J_iload (q := 80) C dX6_mid_78 rfl 3 rfl ?_
        refine J_iload (q := 82) C dX6_mid_80 rfl 5 rfl ?_
        refine J_isub (q := 83) C dX6_mid_82 rfl ?_
        refine J_i2l (q := 84) C dX6_mid_83 rfl ?_
        refine J_lmul (q := 85) C dX6_mid_84 rfl ?_
        refine J_goto (tgt := 89) C dX6_mid_85 (by decide) ?_
        refine J_sub [0, 1, 2, 3, 5] rfl ?_
        exact hk89 _ h
set_option maxHeartbeats 4000000 in
set_option maxRecDepth 100000 in
theorem c_X6_mid {l : Launch} {D : va_G} {cI cR : ClassId} {ad : Nat → Nat} (hap : apN 16 ad) {i1 : Int32} {i2 : Int32} {i3 : Int32} {σ : Sg} {r : Int32} {σo : Sg}  (h : f_X6_mid i1 i2 i3 σ = some (r, σo)) : MI l D (tysC cI cR) 16 ad (celM cI ad) okM yX6_mid cX6_mid 8 .int 5 119 [.ref (ad 0), .int i1, .int i2, .int i3] σ r σo := by
  unfold f_X6_mid at h
  refine entI "WokenYearsModel" hap (by decide +kernel) rfl (Nat.le_of_ble_eq_true rfl) (fun p e s m args below meth c C => ?_)
  refine J_sub (lv' := [(0, .ref (ad 0)), (1, .int i1), (2, .int i2), (3, .int i3)]) [0, 1, 2, 3] rfl ?_
  refine J_aload_n (q := 1) C dX6_mid_0 rfl rfl 0 rfl ?_
  refine J_iload_n (q := 2) C dX6_mid_1 rfl rfl 1 rfl ?_
  obtain ⟨r1, ec1, h⟩ := bnd_of h
  refine J_callIV (q := 5) (As := [.int i1]) C (c_X6_isOne hap  ec1) ok_X6_isOne kM_X6_150 (by decide) rfl rfl rfl rfl rfl rfl ⟨Nat.le_of_ble_eq_true rfl, Nat.le_of_ble_eq_true rfl⟩ (Nat.le_of_ble_eq_true rfl) dX6_mid_2 rfl ?_
  refine J_ifeq_b (tgt := 28) (q := 8) C dX6_mid_5 rfl (by decide) h (fun _ h => ?_) (fun _ h => ?_)
  · refine J_iload_n (q := 9) C dX6_mid_8 rfl rfl 2 rfl ?_
    refine J_iconst (v := 0 ) (q := 10) C dX6_mid_9 rfl rfl ?_
    refine J_bipush (v := 8) (q := 12) C dX6_mid_10 rfl rfl ?_
    obtain ⟨r2, ec2, h⟩ := bnd_of h
    refine J_callIS (q := 15) (As := [.int i2, .int (0 : Int32), .int (8 : Int32)]) C (c_X6_in hap  ec2) ok_X6_in kM_X6_69 rfl rfl rfl ⟨Nat.le_of_ble_eq_true rfl, Nat.le_of_ble_eq_true rfl⟩ (Nat.le_of_ble_eq_true rfl) dX6_mid_12 rfl ?_
    refine J_ifeq_b (tgt := 28) (q := 18) C dX6_mid_15 rfl (by decide) h (fun _ h => ?_) (fun _ h => ?_)
    · refine J_iload_n (q := 19) C dX6_mid_18 rfl rfl 3 rfl ?_
      refine J_iconst (v := 0 ) (q := 20) C dX6_mid_19 rfl rfl ?_
      refine J_bipush (v := 12) (q := 22) C dX6_mid_20 rfl rfl ?_
      obtain ⟨r3, ec3, h⟩ := bnd_of h
      refine J_callIS (q := 25) (As := [.int i3, .int (0 : Int32), .int (12 : Int32)]) C (c_X6_in hap  ec3) ok_X6_in kM_X6_69 rfl rfl rfl ⟨Nat.le_of_ble_eq_true rfl, Nat.le_of_ble_eq_true rfl⟩ (Nat.le_of_ble_eq_true rfl) dX6_mid_22 rfl ?_
      refine J_ifne_b (tgt := 30) (q := 28) C dX6_mid_25 rfl (by decide) h (fun _ h => ?_) (fun _ h => ?_)
      · refine J_aload_n (q := 31) C dX6_mid_30 rfl rfl 0 rfl ?_
        refine J_iload_n (q := 32) C dX6_mid_31 rfl rfl 1 rfl ?_
        obtain ⟨r4, ec4, h⟩ := bnd_of h
        refine J_callIV (q := 35) (As := [.int i1]) C (c_X6_moreOf hap  ec4) ok_X6_moreOf kM_X6_147 (by decide) rfl rfl rfl rfl rfl rfl ⟨Nat.le_of_ble_eq_true rfl, Nat.le_of_ble_eq_true rfl⟩ (Nat.le_of_ble_eq_true rfl) dX6_mid_32 rfl ?_
        refine J_istore (q := 37) C dX6_mid_35 rfl (by decide) rfl ?_
        refine J_iload (q := 39) C dX6_mid_37 rfl 0 rfl ?_
        refine J_bipush (v := -9) (q := 41) C dX6_mid_39 rfl rfl ?_
        refine J_icmp_ne (tgt := 50) (q := 44) C dX6_mid_41 rfl (by decide) h (fun _ h => ?_) (fun _ h => ?_)
        · refine J_aload_n (q := 45) C dX6_mid_44 rfl rfl 1 rfl ?_
          refine J_iconst (v := 4 ) (q := 46) C dX6_mid_45 rfl rfl ?_
          obtain ⟨r5, σ5, ec5, h⟩ := bnd2_of h
          refine J_callIV (q := 49) (As := [.int (4 : Int32)]) C (c_X6_finds hap  ec5) ok_X6_finds kM_X6_73 (by decide) rfl rfl rfl rfl rfl rfl ⟨Nat.le_of_ble_eq_true rfl, Nat.le_of_ble_eq_true rfl⟩ (Nat.le_of_ble_eq_true rfl) dX6_mid_46 rfl ?_
          obtain ⟨rfl, rfl⟩ := Prod.mk.inj (Option.some.inj h)
          exact J_iret C dX6_mid_49
        · refine J_lconst (v := 0) (q := 51) C dX6_mid_50 rfl rfl ?_
          refine J_lstore (q := 53) C dX6_mid_51 rfl (by decide) rfl ?_
          refine J_iconst (v := 0 ) (q := 54) C dX6_mid_53 rfl rfl ?_
          refine J_istore (q := 56) C dX6_mid_54 rfl (by decide) rfl ?_
          refine J_sub [3, 5, 6, 2, 1, 0] rfl ?_
          refine cl_X6_mid_56 hap C r σo  (fun v5_98 h => ?_) FU _ _ h
          · refine J_aload_n (q := 99) C dX6_mid_98 rfl rfl 0 rfl ?_
            refine J_lload (q := 101) C dX6_mid_99 rfl 2 rfl ?_
            refine J_iload_n (q := 102) C dX6_mid_101 rfl rfl 1 rfl ?_
            obtain ⟨r9, ec9, h⟩ := bnd_of h
            refine J_callLS (q := 105) (As := [.int i2]) C (c_X6_whole hap  ec9) ok_X6_whole kM_X6_245 rfl rfl rfl ⟨Nat.le_of_ble_eq_true rfl, Nat.le_of_ble_eq_true rfl⟩ (Nat.le_of_ble_eq_true rfl) dX6_mid_102 rfl ?_
            obtain ⟨σ10, ec10, h⟩ := bnd_of h
            refine J_callXV (q := 108) (As := [.long v5_98, .long r9]) C (c_X6_tellsPart hap  ec10) ok_X6_tellsPart kM_X6_249 (by decide) rfl rfl rfl rfl rfl rfl ⟨Nat.le_of_ble_eq_true rfl, Nat.le_of_ble_eq_true rfl⟩ (Nat.le_of_ble_eq_true rfl) dX6_mid_105 rfl ?_
            refine J_iconst (v := 1 ) (q := 109) C dX6_mid_108 rfl rfl ?_
            obtain ⟨rfl, rfl⟩ := Prod.mk.inj (Option.some.inj h)
            exact J_iret C dX6_mid_109
      · refine J_iconst (v := -1 ) (q := 29) C dX6_mid_28 rfl rfl ?_
        obtain ⟨rfl, rfl⟩ := Prod.mk.inj (Option.some.inj h)
        exact J_iret C dX6_mid_29
    · refine J_iconst (v := -1 ) (q := 29) C dX6_mid_28 rfl rfl ?_
      obtain ⟨rfl, rfl⟩ := Prod.mk.inj (Option.some.inj h)
      exact J_iret C dX6_mid_29
  · refine J_iconst (v := -1 ) (q := 29) C dX6_mid_28 rfl rfl ?_
    obtain ⟨rfl, rfl⟩ := Prod.mk.inj (Option.some.inj h)
    exact J_iret C dX6_mid_29
set_option maxHeartbeats 4000000 in
set_option maxRecDepth 100000 in
theorem cl_X6_lots_52 {p : Program} {l : Launch} {e : Env} {s : State} {m : MethodId} {args : Array Value} {below : List Frame} {meth : Method} {c : Code} {D : va_G} {cI cR : ClassId} {ad : Nat → Nat} (hap : apN 16 ad) (C : Cx p s m args meth c cX6_lots 8 "WokenYearsModel" D (tysC cI cR) 16 ad (some .int)) {a1 : Int32} {k169 : Sg → Option (Int32 × Sg)} (r : Int32) (σo : Sg)  (hk169 : ∀ (σ1 : Sg), k169 σ1 = some (r, σo) → Jd p l e (rmF 5 120) s m args below meth c D 16 ad (celM cI ad) okM 8 (MQ below (QI D (tysC cI cR) 16 ad (celM cI ad) okM r σo) args s 0 0 (inA 16 ad)) 169 [(0, .ref (ad 0))] [] σ1) : ∀ (n : Nat) (x3 : Int64) (x5 : Int32) (σx : Sg), l_X6_lots_52 a1 k169 n x3 x5 σx = some (r, σo) → Jd p l e (rmF 5 120) s m args below meth c D 16 ad (celM cI ad) okM 8 (MQ below (QI D (tysC cI cR) 16 ad (celM cI ad) okM r σo) args s 0 0 (inA 16 ad)) 52 [(0, .ref (ad 0)), (1, .int a1), (3, .long x3), (5, .int x5)] [] σx := by
  intro n
  induction n with
  | zero => intro x3 x5 σx h; cases h
  | succ n ih =>
    intro x3 x5 σx h
    unfold l_X6_lots_52 at h
    refine J_iload (q := 54) C dX6_lots_52 rfl 3 rfl ?_
    refine J_iload_n (q := 55) C dX6_lots_54 rfl rfl 1 rfl ?_
    refine J_icmp_ge (tgt := 169) (q := 58) C dX6_lots_55 rfl (by decide) h (fun _ h => ?_) (fun _ h => ?_)
    · refine J_sub [0] rfl ?_
      exact hk169 _ h
    · refine J_lload_n (q := 59) C dX6_lots_58 rfl rfl 2 rfl ?_
      refine J_ldc2 (q := 62) C kJ_X6_254 dX6_lots_59 rfl ?_
      refine J_lmul (q := 63) C dX6_lots_62 rfl ?_
      refine J_ldc2 (q := 66) C kJ_X6_256 dX6_lots_63 rfl ?_
      refine J_lrem (q := 67) C dX6_lots_66 rfl (by decide) ?_
      refine J_nml h (fun y4 ey4 h => ?_)
      refine J_lstore_n (q := 68) C dX6_lots_67 rfl rfl (by decide) rfl ?_
      refine J_lload_n (q := 69) C dX6_lots_68 rfl rfl 0 rfl ?_
      refine J_ldc2 (q := 72) C kJ_X6_258 dX6_lots_69 rfl ?_
      refine J_ldiv (q := 73) C dX6_lots_72 rfl (by decide) ?_
      refine J_ldc2 (q := 76) C kJ_X6_258 dX6_lots_73 rfl ?_
      refine J_lrem (q := 77) C dX6_lots_76 rfl (by decide) ?_
      refine J_l2i (q := 78) C dX6_lots_77 rfl ?_
      refine J_nmi h (fun y5 ey5 h => ?_)
      refine J_istore (q := 80) C dX6_lots_78 rfl (by decide) rfl ?_
      refine J_lload_n (q := 81) C dX6_lots_80 rfl rfl 1 rfl ?_
      refine J_aload_n (q := 82) C dX6_lots_81 rfl rfl 2 rfl ?_
      refine JM_g_X6_houses (q := 85) C kF_X6_66 dX6_lots_82 rfl ?_
      refine J_i2l (q := 86) C dX6_lots_85 rfl ?_
      obtain ⟨nz, h⟩ := ckn_of h
      refine J_lrem (q := 87) C dX6_lots_86 rfl nz ?_
      refine J_l2i (q := 88) C dX6_lots_87 rfl ?_
      refine J_nmi h (fun y6 ey6 h => ?_)
      refine J_istore (q := 90) C dX6_lots_88 rfl (by decide) rfl ?_
      refine J_aload_n (q := 91) C dX6_lots_90 rfl rfl 3 rfl ?_
      obtain ⟨σ7, ec7, h⟩ := bnd_of h
      refine J_callXV (q := 94) (As := []) C (c_X6_note hap  ec7) ok_X6_note kM_X6_179 (by decide) rfl rfl rfl rfl rfl rfl ⟨Nat.le_of_ble_eq_true rfl, Nat.le_of_ble_eq_true rfl⟩ (Nat.le_of_ble_eq_true rfl) dX6_lots_91 rfl ?_
      refine J_iload (q := 96) C dX6_lots_94 rfl 1 rfl ?_
      refine J_iconst (v := 2 ) (q := 97) C dX6_lots_96 rfl rfl ?_
      refine jn_elim h (fun k163 ek163 h => ?_)
      have hk163 : ∀ (σj163 : Sg), k163 σj163 = some (r, σo) → Jd p l e (rmF 5 120) s m args below meth c D 16 ad (celM cI ad) okM 8 (MQ below (QI D (tysC cI cR) 16 ad (celM cI ad) okM r σo) args s 0 0 (inA 16 ad)) 163 [(0, .ref (ad 0)), (1, .int a1), (3, .long y4), (5, .int x5)] [] σj163 := by
        intro σj163 h
        rw [ek163] at h
        refine jn_elim h (fun y8 ey8 h => ?_)
        refine J_iinc (v := y8) (q := 166) C dX6_lots_163 rfl 3 rfl (by rw [ey8]; rfl) (by decide) rfl ?_
        refine J_goto (tgt := 52) C dX6_lots_166 (by decide) ?_
        refine J_sub [1, 2, 3, 0] rfl ?_
        exact ih _ _ _ h
      refine J_icmp_ge (tgt := 109) (q := 100) C dX6_lots_97 rfl (by decide) h (fun _ h => ?_) (fun _ h => ?_)
      · refine J_iload (q := 111) C dX6_lots_109 rfl 1 rfl ?_
        refine J_bipush (v := 6) (q := 113) C dX6_lots_111 rfl rfl ?_
        refine J_icmp_ge (tgt := 123) (q := 116) C dX6_lots_113 rfl (by decide) h (fun _ h => ?_) (fun _ h => ?_)
        · refine J_iload (q := 125) C dX6_lots_123 rfl 1 rfl ?_
          refine J_bipush (v := 6) (q := 127) C dX6_lots_125 rfl rfl ?_
          refine J_icmp_ne (tgt := 149) (q := 130) C dX6_lots_127 rfl (by decide) h (fun _ h => ?_) (fun _ h => ?_)
          · refine J_aload_n (q := 131) C dX6_lots_130 rfl rfl 3 rfl ?_
            refine J_iload (q := 133) C dX6_lots_131 rfl 0 rfl ?_
            refine J_lload_n (q := 134) C dX6_lots_133 rfl rfl 2 rfl ?_
            refine J_ldc2 (q := 137) C kJ_X6_260 dX6_lots_134 rfl ?_
            refine J_ldiv (q := 138) C dX6_lots_137 rfl (by decide) ?_
            refine J_ldc2 (q := 141) C kJ_X6_262 dX6_lots_138 rfl ?_
            refine J_lrem (q := 142) C dX6_lots_141 rfl (by decide) ?_
            refine J_l2i (q := 143) C dX6_lots_142 rfl ?_
            obtain ⟨σ9, ec9, h⟩ := bnd_of h
            refine J_callXV (q := 146) (As := [.int y6, .int (((y4 / (64 : Int64)) - (y4 / (64 : Int64)) / (100 : Int64) * (100 : Int64)).toInt32)]) C (c_X6_changes hap  ec9) ok_X6_changes kM_X6_189 (by decide) rfl rfl rfl rfl rfl rfl ⟨Nat.le_of_ble_eq_true rfl, Nat.le_of_ble_eq_true rfl⟩ (Nat.le_of_ble_eq_true rfl) dX6_lots_143 rfl ?_
            refine J_goto (tgt := 163) C dX6_lots_146 (by decide) ?_
            refine J_sub [3, 4, 2, 5] rfl ?_
            exact hk163 _ h
          · refine J_aload_n (q := 150) C dX6_lots_149 rfl rfl 3 rfl ?_
            refine JM_g_X6_now (q := 153) C kF_X6_38 dX6_lots_150 rfl ?_
            refine J_iconst (v := 3 ) (q := 154) C dX6_lots_153 rfl rfl ?_
            refine J_iconst (v := 1 ) (q := 155) C dX6_lots_154 rfl rfl ?_
            refine J_aload_n (q := 156) C dX6_lots_155 rfl rfl 3 rfl ?_
            refine JM_g_X6_now (q := 159) C kF_X6_38 dX6_lots_156 rfl ?_
            refine J_iconst (v := 3 ) (q := 160) C dX6_lots_159 rfl rfl ?_
            refine JM_iald (q := 161) C isMA_9 h dX6_lots_160 rfl (fun h => ?_)
            refine J_isub (q := 162) C dX6_lots_161 rfl ?_
            refine JM_iast (q := 163) C isMA_9 h dX6_lots_162 rfl (fun h => ?_)
            refine jn_elim h (fun σ10 eσ10 h => ?_)
            rw [← eσ10]
            refine J_sub [3, 4, 2, 5] rfl ?_
            exact hk163 _ h
        · refine J_aload_n (q := 117) C dX6_lots_116 rfl rfl 3 rfl ?_
          obtain ⟨σ11, ec11, h⟩ := bnd_of h
          refine J_callXV (q := 120) (As := []) C (c_X6_taps hap  ec11) ok_X6_taps kM_X6_186 (by decide) rfl rfl rfl rfl rfl rfl ⟨Nat.le_of_ble_eq_true rfl, Nat.le_of_ble_eq_true rfl⟩ (Nat.le_of_ble_eq_true rfl) dX6_lots_117 rfl ?_
          refine J_goto (tgt := 163) C dX6_lots_120 (by decide) ?_
          refine J_sub [3, 4, 2, 5] rfl ?_
          exact hk163 _ h
      · refine J_aload_n (q := 101) C dX6_lots_100 rfl rfl 3 rfl ?_
        refine J_iload (q := 103) C dX6_lots_101 rfl 0 rfl ?_
        obtain ⟨σ12, ec12, h⟩ := bnd_of h
        refine J_callXV (q := 106) (As := [.int y6]) C (c_X6_goes hap  ec12) ok_X6_goes kM_X6_182 (by decide) rfl rfl rfl rfl rfl rfl ⟨Nat.le_of_ble_eq_true rfl, Nat.le_of_ble_eq_true rfl⟩ (Nat.le_of_ble_eq_true rfl) dX6_lots_103 rfl ?_
        refine J_goto (tgt := 163) C dX6_lots_106 (by decide) ?_
        refine J_sub [3, 4, 2, 5] rfl ?_
        exact hk163 _ h
set_option maxHeartbeats 4000000 in
set_option maxRecDepth 100000 in
theorem c_X6_lots {l : Launch} {D : va_G} {cI cR : ClassId} {ad : Nat → Nat} (hap : apN 16 ad) {i1 : Int32} {i2 : Int32} {σ : Sg} {r : Int32} {σo : Sg}  (h : f_X6_lots i1 i2 σ = some (r, σo)) : MI l D (tysC cI cR) 16 ad (celM cI ad) okM yX6_lots cX6_lots 8 .int 5 120 [.ref (ad 0), .int i1, .int i2] σ r σo := by
  unfold f_X6_lots at h
  refine entI "WokenYearsModel" hap (by decide +kernel) rfl (Nat.le_of_ble_eq_true rfl) (fun p e s m args below meth c C => ?_)
  refine J_sub (lv' := [(0, .ref (ad 0)), (1, .int i1), (2, .int i2)]) [0, 1, 2] rfl ?_
  refine J_iload_n (q := 1) C dX6_lots_0 rfl rfl 1 rfl ?_
  refine J_iconst (v := 1 ) (q := 2) C dX6_lots_1 rfl rfl ?_
  refine J_bipush (v := 20) (q := 4) C dX6_lots_2 rfl rfl ?_
  obtain ⟨r1, ec1, h⟩ := bnd_of h
  refine J_callIS (q := 7) (As := [.int i1, .int (1 : Int32), .int (20 : Int32)]) C (c_X6_in hap  ec1) ok_X6_in kM_X6_69 rfl rfl rfl ⟨Nat.le_of_ble_eq_true rfl, Nat.le_of_ble_eq_true rfl⟩ (Nat.le_of_ble_eq_true rfl) dX6_lots_4 rfl ?_
  refine J_ifeq_b (tgt := 20) (q := 10) C dX6_lots_7 rfl (by decide) h (fun _ h => ?_) (fun _ h => ?_)
  · refine J_iload_n (q := 11) C dX6_lots_10 rfl rfl 2 rfl ?_
    refine J_iconst (v := 1 ) (q := 12) C dX6_lots_11 rfl rfl ?_
    refine J_ldc (q := 14) C kK_X6_253 dX6_lots_12 rfl ?_
    obtain ⟨r2, ec2, h⟩ := bnd_of h
    refine J_callIS (q := 17) (As := [.int i2, .int (1 : Int32), .int (2147483646 : Int32)]) C (c_X6_in hap  ec2) ok_X6_in kM_X6_69 rfl rfl rfl ⟨Nat.le_of_ble_eq_true rfl, Nat.le_of_ble_eq_true rfl⟩ (Nat.le_of_ble_eq_true rfl) dX6_lots_14 rfl ?_
    refine J_ifne_b (tgt := 22) (q := 20) C dX6_lots_17 rfl (by decide) h (fun _ h => ?_) (fun _ h => ?_)
    · refine J_aload_n (q := 23) C dX6_lots_22 rfl rfl 0 rfl ?_
      refine JM_g_X6_houses (q := 26) C kF_X6_66 dX6_lots_23 rfl ?_
      refine J_if_ne (tgt := 32) (q := 29) C dX6_lots_26 rfl (by decide) h (fun _ h => ?_) (fun _ h => ?_)
      · refine J_bipush (v := -4) (q := 31) C dX6_lots_29 rfl rfl ?_
        obtain ⟨rfl, rfl⟩ := Prod.mk.inj (Option.some.inj h)
        exact J_iret C dX6_lots_31
      · refine J_aload_n (q := 33) C dX6_lots_32 rfl rfl 0 rfl ?_
        refine JM_g_X6_deeds (q := 36) C kF_X6_134 dX6_lots_33 rfl ?_
        refine J_iload_n (q := 37) C dX6_lots_36 rfl rfl 1 rfl ?_
        refine J_iadd (q := 38) C dX6_lots_37 rfl ?_
        refine J_bipush (v := 40) (q := 40) C dX6_lots_38 rfl rfl ?_
        refine J_icmp_le (tgt := 46) (q := 43) C dX6_lots_40 rfl (by decide) h (fun _ h => ?_) (fun _ h => ?_)
        · refine J_iload_n (q := 47) C dX6_lots_46 rfl rfl 2 rfl ?_
          refine J_i2l (q := 48) C dX6_lots_47 rfl ?_
          refine J_nml h (fun y3 ey3 h => ?_)
          refine J_lstore_n (q := 49) C dX6_lots_48 rfl rfl (by decide) rfl ?_
          refine J_iconst (v := 0 ) (q := 50) C dX6_lots_49 rfl rfl ?_
          refine J_istore (q := 52) C dX6_lots_50 rfl (by decide) rfl ?_
          refine J_sub [2, 3, 1, 0] rfl ?_
          refine cl_X6_lots_52 hap C r σo  (fun σv169 h => ?_) FU _ _ _ h
          · refine J_aload_n (q := 170) C dX6_lots_169 rfl rfl 0 rfl ?_
            obtain ⟨r13, ec13, h⟩ := bnd_of h
            refine J_callIV (q := 173) (As := []) C (c_X6_awakeOnes hap  ec13) ok_X6_awakeOnes kM_X6_163 (by decide) rfl rfl rfl rfl rfl rfl ⟨Nat.le_of_ble_eq_true rfl, Nat.le_of_ble_eq_true rfl⟩ (Nat.le_of_ble_eq_true rfl) dX6_lots_170 rfl ?_
            obtain ⟨r14, ec14, h⟩ := bnd_of h
            refine J_callIS (q := 176) (As := [.int r13]) C (c_X6_bits hap  ec14) ok_X6_bits kM_X6_166 rfl rfl rfl ⟨Nat.le_of_ble_eq_true rfl, Nat.le_of_ble_eq_true rfl⟩ (Nat.le_of_ble_eq_true rfl) dX6_lots_173 rfl ?_
            obtain ⟨rfl, rfl⟩ := Prod.mk.inj (Option.some.inj h)
            exact J_iret C dX6_lots_176
        · refine J_bipush (v := -2) (q := 45) C dX6_lots_43 rfl rfl ?_
          obtain ⟨rfl, rfl⟩ := Prod.mk.inj (Option.some.inj h)
          exact J_iret C dX6_lots_45
    · refine J_iconst (v := -1 ) (q := 21) C dX6_lots_20 rfl rfl ?_
      obtain ⟨rfl, rfl⟩ := Prod.mk.inj (Option.some.inj h)
      exact J_iret C dX6_lots_21
  · refine J_iconst (v := -1 ) (q := 21) C dX6_lots_20 rfl rfl ?_
    obtain ⟨rfl, rfl⟩ := Prod.mk.inj (Option.some.inj h)
    exact J_iret C dX6_lots_21
set_option maxHeartbeats 4000000 in
set_option maxRecDepth 100000 in
theorem c_X6_asked {l : Launch} {D : va_G} {cI cR : ClassId} {ad : Nat → Nat} (hap : apN 16 ad)  {σ : Sg} {r : Int32}  (h : f_X6_asked σ = some r) : MI l D (tysC cI cR) 16 ad (celM cI ad) okM yX6_asked cX6_asked 1 .int 1 30 [.ref (ad 0)] σ r σ := by
  unfold f_X6_asked at h
  refine entI "WokenYearsModel" hap (by decide +kernel) rfl (Nat.le_of_ble_eq_true rfl) (fun p e s m args below meth c C => ?_)
  refine J_sub (lv' := [(0, .ref (ad 0))]) [0] rfl ?_
  refine J_aload_n (q := 1) C dX6_asked_0 rfl rfl 0 rfl ?_
  refine JM_g_X6_askedNow (q := 4) C kF_X6_63 dX6_asked_1 rfl ?_
  obtain rfl := Option.some.inj h
  exact J_iret C dX6_asked_4
set_option maxHeartbeats 4000000 in
set_option maxRecDepth 100000 in
theorem c_X6_upper {l : Launch} {D : va_G} {cI cR : ClassId} {ad : Nat → Nat} (hap : apN 16 ad)  {σ : Sg} {r : Int64}  (h : f_X6_upper σ = some r) : ML l D (tysC cI cR) 16 ad (celM cI ad) okM yX6_upper cX6_upper 1 1 30 [.ref (ad 0)] σ r σ := by
  unfold f_X6_upper at h
  refine entL "WokenYearsModel" hap (by decide +kernel) rfl (Nat.le_of_ble_eq_true rfl) (fun p e s m args below meth c C => ?_)
  refine J_sub (lv' := [(0, .ref (ad 0))]) [0] rfl ?_
  refine J_aload_n (q := 1) C dX6_upper_0 rfl rfl 0 rfl ?_
  refine JM_g_X6_upperNow (q := 4) C kF_X6_233 dX6_upper_1 rfl ?_
  obtain rfl := Option.some.inj h
  exact J_lret C dX6_upper_4
set_option maxHeartbeats 4000000 in
set_option maxRecDepth 100000 in
theorem c_X6_lower {l : Launch} {D : va_G} {cI cR : ClassId} {ad : Nat → Nat} (hap : apN 16 ad)  {σ : Sg} {r : Int64}  (h : f_X6_lower σ = some r) : ML l D (tysC cI cR) 16 ad (celM cI ad) okM yX6_lower cX6_lower 1 1 30 [.ref (ad 0)] σ r σ := by
  unfold f_X6_lower at h
  refine entL "WokenYearsModel" hap (by decide +kernel) rfl (Nat.le_of_ble_eq_true rfl) (fun p e s m args below meth c C => ?_)
  refine J_sub (lv' := [(0, .ref (ad 0))]) [0] rfl ?_
  refine J_aload_n (q := 1) C dX6_lower_0 rfl rfl 0 rfl ?_
  refine JM_g_X6_lowerNow (q := 4) C kF_X6_25 dX6_lower_1 rfl ?_
  obtain rfl := Option.some.inj h
  exact J_lret C dX6_lower_4
set_option maxHeartbeats 4000000 in
set_option maxRecDepth 100000 in
theorem cl_X6_thereOf_10 {p : Program} {l : Launch} {e : Env} {s : State} {m : MethodId} {args : Array Value} {below : List Frame} {meth : Method} {c : Code} {D : va_G} {cI cR : ClassId} {ad : Nat → Nat} (hap : apN 16 ad) (C : Cx p s m args meth c cX6_thereOf 6 "WokenYearsModel" D (tysC cI cR) 16 ad (some .int)) {b2 : Nat} {a3 : Int32} (hb2 : isMA b2) {k41 : Int32 → Option Int32} {σ : Sg} (r : Int32)  (hk41 : ∀ (u1 : Int32), k41 u1 = some r → Jd p l e (rmF 1 30) s m args below meth c D 16 ad (celM cI ad) okM 6 (MQ below (QI D (tysC cI cR) 16 ad (celM cI ad) okM r σ) args s 0 0 (inA 16 ad)) 41 [(1, .int u1)] [] σ) : ∀ (n : Nat) (x1 : Int32) (x4 : Int32), l_X6_thereOf_10 b2 a3 σ k41 n x1 x4 = some r → Jd p l e (rmF 1 30) s m args below meth c D 16 ad (celM cI ad) okM 6 (MQ below (QI D (tysC cI cR) 16 ad (celM cI ad) okM r σ) args s 0 0 (inA 16 ad)) 10 [(1, .int x1), (2, .ref (ad b2)), (3, .int a3), (4, .int x4)] [] σ := by
  intro n
  induction n with
  | zero => intro x1 x4 h; cases h
  | succ n ih =>
    intro x1 x4 h
    unfold l_X6_thereOf_10 at h
    refine J_iload (q := 12) C dX6_thereOf_10 rfl 3 rfl ?_
    refine J_iload_n (q := 13) C dX6_thereOf_12 rfl rfl 2 rfl ?_
    refine J_icmp_ge (tgt := 41) (q := 16) C dX6_thereOf_13 rfl (by decide) h (fun _ h => ?_) (fun _ h => ?_)
    · refine J_sub [0] rfl ?_
      exact hk41 _ h
    · refine J_aload_n (q := 17) C dX6_thereOf_16 rfl rfl 1 rfl ?_
      refine J_iload (q := 19) C dX6_thereOf_17 rfl 3 rfl ?_
      refine JM_iald (q := 20) C hb2 h dX6_thereOf_19 rfl (fun h => ?_)
      refine J_nmi h (fun y2 ey2 h => ?_)
      refine J_istore (q := 22) C dX6_thereOf_20 rfl (by decide) rfl ?_
      refine J_iload_n (q := 23) C dX6_thereOf_22 rfl rfl 1 rfl ?_
      refine J_iload (q := 25) C dX6_thereOf_23 rfl 0 rfl ?_
      refine jn_elim h (fun k33 ek33 h => ?_)
      have hk33 : ∀ (t0_33 : Bool), k33 t0_33 = some r → Jd p l e (rmF 1 30) s m args below meth c D 16 ad (celM cI ad) okM 6 (MQ below (QI D (tysC cI cR) 16 ad (celM cI ad) okM r σ) args s 0 0 (inA 16 ad)) 33 [(2, .ref (ad b2)), (3, .int a3), (4, .int x4)] [.int (b2i t0_33), .int x1] σ := by
        intro t0_33 h
        rw [ek33] at h
        refine J_iadd (q := 34) C dX6_thereOf_33 rfl ?_
        refine J_nmi h (fun y3 ey3 h => ?_)
        refine J_istore_n (q := 35) C dX6_thereOf_34 rfl rfl (by decide) rfl ?_
        refine jn_elim h (fun y4 ey4 h => ?_)
        refine J_iinc (v := y4) (q := 38) C dX6_thereOf_35 rfl 3 rfl (by rw [ey4]; rfl) (by decide) rfl ?_
        refine J_goto (tgt := 10) C dX6_thereOf_38 (by decide) ?_
        refine J_sub [1, 2, 3, 0] rfl ?_
        exact ih _ _ h
      refine J_if_ge (tgt := 32) (q := 28) C dX6_thereOf_25 rfl (by decide) h (fun _ h => ?_) (fun _ h => ?_)
      · refine J_iconst (v := 1 ) (q := 33) C dX6_thereOf_32 rfl rfl ?_
        refine J_sub [2, 3, 4] rfl ?_
        exact hk33 _ h
      · refine J_iconst (v := 0 ) (q := 29) C dX6_thereOf_28 rfl rfl ?_
        refine J_goto (tgt := 33) C dX6_thereOf_29 (by decide) ?_
        refine J_sub [2, 3, 4] rfl ?_
        exact hk33 _ h
set_option maxHeartbeats 4000000 in
set_option maxRecDepth 100000 in
theorem c_X6_thereOf {l : Launch} {D : va_G} {cI cR : ClassId} {ad : Nat → Nat} (hap : apN 16 ad) {g0 : Nat} {σ : Sg} {r : Int32} (ho0 : isMA g0) (h : f_X6_thereOf g0 σ = some r) : MI l D (tysC cI cR) 16 ad (celM cI ad) okM yX6_thereOf cX6_thereOf 6 .int 1 30 [.ref (ad g0)] σ r σ := by
  unfold f_X6_thereOf at h
  refine entI "WokenYearsModel" hap (by decide +kernel) rfl (Nat.le_of_ble_eq_true rfl) (fun p e s m args below meth c C => ?_)
  refine J_sub (lv' := [(0, .ref (ad g0))]) [0] rfl ?_
  refine J_iconst (v := 0 ) (q := 1) C dX6_thereOf_0 rfl rfl ?_
  refine J_istore_n (q := 2) C dX6_thereOf_1 rfl rfl (by decide) rfl ?_
  refine J_aload_n (q := 3) C dX6_thereOf_2 rfl rfl 1 rfl ?_
  refine J_astore_n (q := 4) C dX6_thereOf_3 rfl rfl (by decide) rfl ?_
  refine J_aload_n (q := 5) C dX6_thereOf_4 rfl rfl 0 rfl ?_
  refine JM_alen (q := 6) C ho0 dX6_thereOf_5 rfl ?_
  refine J_nmi h (fun y1 ey1 h => ?_)
  refine J_istore_n (q := 7) C dX6_thereOf_6 rfl rfl (by decide) rfl ?_
  refine J_iconst (v := 0 ) (q := 8) C dX6_thereOf_7 rfl rfl ?_
  refine J_istore (q := 10) C dX6_thereOf_8 rfl (by decide) rfl ?_
  refine J_sub [3, 2, 1, 0] rfl ?_
  refine cl_X6_thereOf_10 hap C ho0 r  (fun v1_41 h => ?_) FU _ _ h
  · refine J_iload_n (q := 42) C dX6_thereOf_41 rfl rfl 0 rfl ?_
    obtain rfl := Option.some.inj h
    exact J_iret C dX6_thereOf_42
set_option maxHeartbeats 4000000 in
set_option maxRecDepth 100000 in
theorem cl_X6_kindMany_4 {p : Program} {l : Launch} {e : Env} {s : State} {m : MethodId} {args : Array Value} {below : List Frame} {meth : Method} {c : Code} {D : va_G} {cI cR : ClassId} {ad : Nat → Nat} (hap : apN 16 ad) (C : Cx p s m args meth c cX6_kindMany 4 "WokenYearsModel" D (tysC cI cR) 16 ad (some .int)) {a1 : Int32} {k39 : Int32 → Option Int32} {σ : Sg} (r : Int32)  (hk39 : ∀ (u2 : Int32), k39 u2 = some r → Jd p l e (rmF 2 51) s m args below meth c D 16 ad (celM cI ad) okM 4 (MQ below (QI D (tysC cI cR) 16 ad (celM cI ad) okM r σ) args s 0 0 (inA 16 ad)) 39 [(2, .int u2)] [] σ) : ∀ (n : Nat) (x2 : Int32) (x3 : Int32), l_X6_kindMany_4 a1 σ k39 n x2 x3 = some r → Jd p l e (rmF 2 51) s m args below meth c D 16 ad (celM cI ad) okM 4 (MQ below (QI D (tysC cI cR) 16 ad (celM cI ad) okM r σ) args s 0 0 (inA 16 ad)) 4 [(0, .ref (ad 0)), (1, .int a1), (2, .int x2), (3, .int x3)] [] σ := by
  intro n
  induction n with
  | zero => intro x2 x3 h; cases h
  | succ n ih =>
    intro x2 x3 h
    unfold l_X6_kindMany_4 at h
    refine J_iload_n (q := 5) C dX6_kindMany_4 rfl rfl 3 rfl ?_
    refine J_aload_n (q := 6) C dX6_kindMany_5 rfl rfl 0 rfl ?_
    refine JM_g_X6_houses (q := 9) C kF_X6_66 dX6_kindMany_6 rfl ?_
    refine J_icmp_ge (tgt := 39) (q := 12) C dX6_kindMany_9 rfl (by decide) h (fun _ h => ?_) (fun _ h => ?_)
    · refine J_sub [2] rfl ?_
      exact hk39 _ h
    · refine J_iload_n (q := 13) C dX6_kindMany_12 rfl rfl 2 rfl ?_
      refine J_aload_n (q := 14) C dX6_kindMany_13 rfl rfl 0 rfl ?_
      refine JM_g_X6_sort (q := 17) C kF_X6_32 dX6_kindMany_14 rfl ?_
      refine J_iload_n (q := 18) C dX6_kindMany_17 rfl rfl 3 rfl ?_
      refine JM_iald (q := 19) C isMA_7 h dX6_kindMany_18 rfl (fun h => ?_)
      refine J_iload_n (q := 20) C dX6_kindMany_19 rfl rfl 1 rfl ?_
      obtain ⟨r1, ec1, h⟩ := bnd_of h
      refine J_callIS (q := 23) (As := [.int (gA σ 7 x3.toNatClampNeg), .int a1]) C (c_X6_is hap  ec1) ok_X6_is kM_X6_156 rfl rfl rfl ⟨Nat.le_of_ble_eq_true rfl, Nat.le_of_ble_eq_true rfl⟩ (Nat.le_of_ble_eq_true rfl) dX6_kindMany_20 rfl ?_
      refine jn_elim h (fun k31 ek31 h => ?_)
      have hk31 : ∀ (t0_31 : Bool), k31 t0_31 = some r → Jd p l e (rmF 2 51) s m args below meth c D 16 ad (celM cI ad) okM 4 (MQ below (QI D (tysC cI cR) 16 ad (celM cI ad) okM r σ) args s 0 0 (inA 16 ad)) 31 [(0, .ref (ad 0)), (1, .int a1), (3, .int x3)] [.int (b2i t0_31), .int x2] σ := by
        intro t0_31 h
        rw [ek31] at h
        refine J_iadd (q := 32) C dX6_kindMany_31 rfl ?_
        refine J_nmi h (fun y2 ey2 h => ?_)
        refine J_istore_n (q := 33) C dX6_kindMany_32 rfl rfl (by decide) rfl ?_
        refine jn_elim h (fun y3 ey3 h => ?_)
        refine J_iinc (v := y3) (q := 36) C dX6_kindMany_33 rfl 3 rfl (by rw [ey3]; rfl) (by decide) rfl ?_
        refine J_goto (tgt := 4) C dX6_kindMany_36 (by decide) ?_
        refine J_sub [2, 3, 1, 0] rfl ?_
        exact ih _ _ h
      refine J_ifeq_b (tgt := 30) (q := 26) C dX6_kindMany_23 rfl (by decide) h (fun _ h => ?_) (fun _ h => ?_)
      · refine J_iconst (v := 1 ) (q := 27) C dX6_kindMany_26 rfl rfl ?_
        refine J_goto (tgt := 31) C dX6_kindMany_27 (by decide) ?_
        refine J_sub [0, 1, 3] rfl ?_
        exact hk31 _ h
      · refine J_iconst (v := 0 ) (q := 31) C dX6_kindMany_30 rfl rfl ?_
        refine J_sub [0, 1, 3] rfl ?_
        exact hk31 _ h
set_option maxHeartbeats 4000000 in
set_option maxRecDepth 100000 in
theorem c_X6_kindMany {l : Launch} {D : va_G} {cI cR : ClassId} {ad : Nat → Nat} (hap : apN 16 ad) {i1 : Int32} {σ : Sg} {r : Int32}  (h : f_X6_kindMany i1 σ = some r) : MI l D (tysC cI cR) 16 ad (celM cI ad) okM yX6_kindMany cX6_kindMany 4 .int 2 51 [.ref (ad 0), .int i1] σ r σ := by
  unfold f_X6_kindMany at h
  refine entI "WokenYearsModel" hap (by decide +kernel) rfl (Nat.le_of_ble_eq_true rfl) (fun p e s m args below meth c C => ?_)
  refine J_sub (lv' := [(0, .ref (ad 0)), (1, .int i1)]) [0, 1] rfl ?_
  refine J_iconst (v := 0 ) (q := 1) C dX6_kindMany_0 rfl rfl ?_
  refine J_istore_n (q := 2) C dX6_kindMany_1 rfl rfl (by decide) rfl ?_
  refine J_iconst (v := 0 ) (q := 3) C dX6_kindMany_2 rfl rfl ?_
  refine J_istore_n (q := 4) C dX6_kindMany_3 rfl rfl (by decide) rfl ?_
  refine J_sub [2, 3, 1, 0] rfl ?_
  refine cl_X6_kindMany_4 hap C r  (fun v2_39 h => ?_) FU _ _ h
  · refine J_iload_n (q := 40) C dX6_kindMany_39 rfl rfl 0 rfl ?_
    obtain rfl := Option.some.inj h
    exact J_iret C dX6_kindMany_40
set_option maxHeartbeats 4000000 in
set_option maxRecDepth 100000 in
theorem c_X6_count {l : Launch} {D : va_G} {cI cR : ClassId} {ad : Nat → Nat} (hap : apN 16 ad) {i1 : Int32} {σ : Sg} {r : Int32}  (h : f_X6_count i1 σ = some r) : MI l D (tysC cI cR) 16 ad (celM cI ad) okM yX6_count cX6_count 2 .int 3 74 [.ref (ad 0), .int i1] σ r σ := by
  unfold f_X6_count at h
  refine entI "WokenYearsModel" hap (by decide +kernel) rfl (Nat.le_of_ble_eq_true rfl) (fun p e s m args below meth c C => ?_)
  refine J_sub (lv' := [(0, .ref (ad 0)), (1, .int i1)]) [0, 1] rfl ?_
  refine J_iload_n (q := 1) C dX6_count_0 rfl rfl 1 rfl ?_
  by_cases z0 : i1 = (0 : Int32)
  · have h := itp h z0
    refine J_tsIn (off := 71) (tgt := 72) C (0 : Int32) z0 dX6_count_1 (by decide) (by decide) (by decide) (by decide) ?_
    refine J_aload_n (q := 73) C dX6_count_72 rfl rfl 0 rfl ?_
    refine JM_g_X6_houses (q := 76) C kF_X6_66 dX6_count_73 rfl ?_
    obtain rfl := Option.some.inj h
    exact J_iret C dX6_count_76
  have h := itn h z0
  by_cases z1 : i1 = (1 : Int32)
  · have h := itp h z1
    refine J_tsIn (off := 76) (tgt := 77) C (1 : Int32) z1 dX6_count_1 (by decide) (by decide) (by decide) (by decide) ?_
    refine J_aload_n (q := 78) C dX6_count_77 rfl rfl 0 rfl ?_
    refine JM_g_X6_now (q := 81) C kF_X6_38 dX6_count_78 rfl ?_
    refine J_iconst (v := 0 ) (q := 82) C dX6_count_81 rfl rfl ?_
    refine JM_iald (q := 83) C isMA_9 h dX6_count_82 rfl (fun h => ?_)
    obtain rfl := Option.some.inj h
    exact J_iret C dX6_count_83
  have h := itn h z1
  by_cases z2 : i1 = (2 : Int32)
  · have h := itp h z2
    refine J_tsIn (off := 83) (tgt := 84) C (2 : Int32) z2 dX6_count_1 (by decide) (by decide) (by decide) (by decide) ?_
    refine J_aload_n (q := 85) C dX6_count_84 rfl rfl 0 rfl ?_
    refine JM_g_X6_now (q := 88) C kF_X6_38 dX6_count_85 rfl ?_
    refine J_iconst (v := 1 ) (q := 89) C dX6_count_88 rfl rfl ?_
    refine JM_iald (q := 90) C isMA_9 h dX6_count_89 rfl (fun h => ?_)
    obtain rfl := Option.some.inj h
    exact J_iret C dX6_count_90
  have h := itn h z2
  by_cases z3 : i1 = (3 : Int32)
  · have h := itp h z3
    refine J_tsIn (off := 90) (tgt := 91) C (3 : Int32) z3 dX6_count_1 (by decide) (by decide) (by decide) (by decide) ?_
    refine J_aload_n (q := 92) C dX6_count_91 rfl rfl 0 rfl ?_
    refine JM_g_X6_deeds (q := 95) C kF_X6_134 dX6_count_92 rfl ?_
    obtain rfl := Option.some.inj h
    exact J_iret C dX6_count_95
  have h := itn h z3
  by_cases z4 : i1 = (4 : Int32)
  · have h := itp h z4
    refine J_tsIn (off := 95) (tgt := 96) C (4 : Int32) z4 dX6_count_1 (by decide) (by decide) (by decide) (by decide) ?_
    refine J_aload_n (q := 97) C dX6_count_96 rfl rfl 0 rfl ?_
    refine JM_g_X6_now (q := 100) C kF_X6_38 dX6_count_97 rfl ?_
    refine J_iconst (v := 2 ) (q := 101) C dX6_count_100 rfl rfl ?_
    refine JM_iald (q := 102) C isMA_9 h dX6_count_101 rfl (fun h => ?_)
    obtain rfl := Option.some.inj h
    exact J_iret C dX6_count_102
  have h := itn h z4
  by_cases z5 : i1 = (5 : Int32)
  · have h := itp h z5
    refine J_tsIn (off := 102) (tgt := 103) C (5 : Int32) z5 dX6_count_1 (by decide) (by decide) (by decide) (by decide) ?_
    refine J_aload_n (q := 104) C dX6_count_103 rfl rfl 0 rfl ?_
    refine JM_g_X6_now (q := 107) C kF_X6_38 dX6_count_104 rfl ?_
    refine J_iconst (v := 3 ) (q := 108) C dX6_count_107 rfl rfl ?_
    refine JM_iald (q := 109) C isMA_9 h dX6_count_108 rfl (fun h => ?_)
    obtain rfl := Option.some.inj h
    exact J_iret C dX6_count_109
  have h := itn h z5
  by_cases z6 : i1 = (6 : Int32)
  · have h := itp h z6
    refine J_tsIn (off := 109) (tgt := 110) C (6 : Int32) z6 dX6_count_1 (by decide) (by decide) (by decide) (by decide) ?_
    refine J_aload_n (q := 111) C dX6_count_110 rfl rfl 0 rfl ?_
    obtain ⟨r1, ec1, h⟩ := bnd_of h
    refine J_callIV (q := 114) (As := []) C (c_X6_awakeOnes hap  ec1) ok_X6_awakeOnes kM_X6_163 (by decide) rfl rfl rfl rfl rfl rfl ⟨Nat.le_of_ble_eq_true rfl, Nat.le_of_ble_eq_true rfl⟩ (Nat.le_of_ble_eq_true rfl) dX6_count_111 rfl ?_
    obtain rfl := Option.some.inj h
    exact J_iret C dX6_count_114
  have h := itn h z6
  by_cases z7 : i1 = (7 : Int32)
  · have h := itp h z7
    refine J_tsIn (off := 114) (tgt := 115) C (7 : Int32) z7 dX6_count_1 (by decide) (by decide) (by decide) (by decide) ?_
    refine J_aload_n (q := 116) C dX6_count_115 rfl rfl 0 rfl ?_
    refine JM_g_X6_now (q := 119) C kF_X6_38 dX6_count_116 rfl ?_
    refine J_iconst (v := 4 ) (q := 120) C dX6_count_119 rfl rfl ?_
    refine JM_iald (q := 121) C isMA_9 h dX6_count_120 rfl (fun h => ?_)
    obtain rfl := Option.some.inj h
    exact J_iret C dX6_count_121
  have h := itn h z7
  by_cases z8 : i1 = (8 : Int32)
  · have h := itp h z8
    refine J_tsIn (off := 121) (tgt := 122) C (8 : Int32) z8 dX6_count_1 (by decide) (by decide) (by decide) (by decide) ?_
    refine J_aload_n (q := 123) C dX6_count_122 rfl rfl 0 rfl ?_
    refine J_iconst (v := 1 ) (q := 124) C dX6_count_123 rfl rfl ?_
    obtain ⟨r2, ec2, h⟩ := bnd_of h
    refine J_callIV (q := 127) (As := [.int (1 : Int32)]) C (c_X6_kindMany hap  ec2) ok_X6_kindMany kM_X6_264 (by decide) rfl rfl rfl rfl rfl rfl ⟨Nat.le_of_ble_eq_true rfl, Nat.le_of_ble_eq_true rfl⟩ (Nat.le_of_ble_eq_true rfl) dX6_count_124 rfl ?_
    obtain rfl := Option.some.inj h
    exact J_iret C dX6_count_127
  have h := itn h z8
  by_cases z9 : i1 = (9 : Int32)
  · have h := itp h z9
    refine J_tsIn (off := 127) (tgt := 128) C (9 : Int32) z9 dX6_count_1 (by decide) (by decide) (by decide) (by decide) ?_
    refine J_aload_n (q := 129) C dX6_count_128 rfl rfl 0 rfl ?_
    refine J_iconst (v := 2 ) (q := 130) C dX6_count_129 rfl rfl ?_
    obtain ⟨r3, ec3, h⟩ := bnd_of h
    refine J_callIV (q := 133) (As := [.int (2 : Int32)]) C (c_X6_kindMany hap  ec3) ok_X6_kindMany kM_X6_264 (by decide) rfl rfl rfl rfl rfl rfl ⟨Nat.le_of_ble_eq_true rfl, Nat.le_of_ble_eq_true rfl⟩ (Nat.le_of_ble_eq_true rfl) dX6_count_130 rfl ?_
    obtain rfl := Option.some.inj h
    exact J_iret C dX6_count_133
  have h := itn h z9
  by_cases z10 : i1 = (10 : Int32)
  · have h := itp h z10
    refine J_tsIn (off := 133) (tgt := 134) C (10 : Int32) z10 dX6_count_1 (by decide) (by decide) (by decide) (by decide) ?_
    refine J_aload_n (q := 135) C dX6_count_134 rfl rfl 0 rfl ?_
    refine JM_g_X6_rowSize (q := 138) C kF_X6_7 dX6_count_135 rfl ?_
    obtain ⟨r4, ec4, h⟩ := bnd_of h
    refine J_callIS (q := 141) (As := [.ref (ad 1)]) C (c_X6_thereOf hap isMA_1 ec4) ok_X6_thereOf kM_X6_267 rfl rfl rfl ⟨Nat.le_of_ble_eq_true rfl, Nat.le_of_ble_eq_true rfl⟩ (Nat.le_of_ble_eq_true rfl) dX6_count_138 rfl ?_
    obtain rfl := Option.some.inj h
    exact J_iret C dX6_count_141
  have h := itn h z10
  by_cases z11 : i1 = (11 : Int32)
  · have h := itp h z11
    refine J_tsIn (off := 141) (tgt := 142) C (11 : Int32) z11 dX6_count_1 (by decide) (by decide) (by decide) (by decide) ?_
    refine J_aload_n (q := 143) C dX6_count_142 rfl rfl 0 rfl ?_
    refine JM_g_X6_textSize (q := 146) C kF_X6_16 dX6_count_143 rfl ?_
    obtain ⟨r5, ec5, h⟩ := bnd_of h
    refine J_callIS (q := 149) (As := [.ref (ad 3)]) C (c_X6_thereOf hap isMA_3 ec5) ok_X6_thereOf kM_X6_267 rfl rfl rfl ⟨Nat.le_of_ble_eq_true rfl, Nat.le_of_ble_eq_true rfl⟩ (Nat.le_of_ble_eq_true rfl) dX6_count_146 rfl ?_
    obtain rfl := Option.some.inj h
    exact J_iret C dX6_count_149
  have h := itn h z11
  by_cases z12 : i1 = (12 : Int32)
  · have h := itp h z12
    refine J_tsIn (off := 149) (tgt := 150) C (12 : Int32) z12 dX6_count_1 (by decide) (by decide) (by decide) (by decide) ?_
    refine J_aload_n (q := 151) C dX6_count_150 rfl rfl 0 rfl ?_
    refine JM_g_X6_keptMany (q := 154) C kF_X6_50 dX6_count_151 rfl ?_
    obtain ⟨r6, ec6, h⟩ := bnd_of h
    refine J_callIS (q := 157) (As := [.ref (ad 13)]) C (c_X6_thereOf hap isMA_13 ec6) ok_X6_thereOf kM_X6_267 rfl rfl rfl ⟨Nat.le_of_ble_eq_true rfl, Nat.le_of_ble_eq_true rfl⟩ (Nat.le_of_ble_eq_true rfl) dX6_count_154 rfl ?_
    obtain rfl := Option.some.inj h
    exact J_iret C dX6_count_157
  have h := itn h z12
  by_cases z13 : i1 = (13 : Int32)
  · have h := itp h z13
    refine J_tsIn (off := 157) (tgt := 158) C (13 : Int32) z13 dX6_count_1 (by decide) (by decide) (by decide) (by decide) ?_
    refine J_aload_n (q := 159) C dX6_count_158 rfl rfl 0 rfl ?_
    refine JM_g_X6_quarrel (q := 162) C kF_X6_131 dX6_count_159 rfl ?_
    obtain rfl := Option.some.inj h
    exact J_iret C dX6_count_162
  have h := itn h z13
  have w0 : i1.toInt ≠ 0 := fun e => z0 (Int32.toInt_inj.mp (e.trans (by decide)))
  have w1 : i1.toInt ≠ 1 := fun e => z1 (Int32.toInt_inj.mp (e.trans (by decide)))
  have w2 : i1.toInt ≠ 2 := fun e => z2 (Int32.toInt_inj.mp (e.trans (by decide)))
  have w3 : i1.toInt ≠ 3 := fun e => z3 (Int32.toInt_inj.mp (e.trans (by decide)))
  have w4 : i1.toInt ≠ 4 := fun e => z4 (Int32.toInt_inj.mp (e.trans (by decide)))
  have w5 : i1.toInt ≠ 5 := fun e => z5 (Int32.toInt_inj.mp (e.trans (by decide)))
  have w6 : i1.toInt ≠ 6 := fun e => z6 (Int32.toInt_inj.mp (e.trans (by decide)))
  have w7 : i1.toInt ≠ 7 := fun e => z7 (Int32.toInt_inj.mp (e.trans (by decide)))
  have w8 : i1.toInt ≠ 8 := fun e => z8 (Int32.toInt_inj.mp (e.trans (by decide)))
  have w9 : i1.toInt ≠ 9 := fun e => z9 (Int32.toInt_inj.mp (e.trans (by decide)))
  have w10 : i1.toInt ≠ 10 := fun e => z10 (Int32.toInt_inj.mp (e.trans (by decide)))
  have w11 : i1.toInt ≠ 11 := fun e => z11 (Int32.toInt_inj.mp (e.trans (by decide)))
  have w12 : i1.toInt ≠ 12 := fun e => z12 (Int32.toInt_inj.mp (e.trans (by decide)))
  have w13 : i1.toInt ≠ 13 := fun e => z13 (Int32.toInt_inj.mp (e.trans (by decide)))
  refine J_tsOut (tgt := 163) C dX6_count_1 (by omega) (by decide) ?_
  refine J_iconst (v := -1 ) (q := 164) C dX6_count_163 rfl rfl ?_
  obtain rfl := Option.some.inj h
  exact J_iret C dX6_count_164
set_option maxHeartbeats 4000000 in
set_option maxRecDepth 100000 in
theorem c_X6_finding {l : Launch} {D : va_G} {cI cR : ClassId} {ad : Nat → Nat} (hap : apN 16 ad)  {σ : Sg} {r : Int32}  (h : f_X6_finding σ = some r) : MI l D (tysC cI cR) 16 ad (celM cI ad) okM yX6_finding cX6_finding 1 .int 1 30 [.ref (ad 0)] σ r σ := by
  unfold f_X6_finding at h
  refine entI "WokenYearsModel" hap (by decide +kernel) rfl (Nat.le_of_ble_eq_true rfl) (fun p e s m args below meth c C => ?_)
  refine J_sub (lv' := [(0, .ref (ad 0))]) [0] rfl ?_
  refine J_aload_n (q := 1) C dX6_finding_0 rfl rfl 0 rfl ?_
  refine JM_g_X6_findingNow (q := 4) C kF_X6_59 dX6_finding_1 rfl ?_
  obtain rfl := Option.some.inj h
  exact J_iret C dX6_finding_4
set_option maxHeartbeats 4000000 in
set_option maxRecDepth 100000 in
theorem c_X6_findings {l : Launch} {D : va_G} {cI cR : ClassId} {ad : Nat → Nat} (hap : apN 16 ad) {i1 : Int32} {σ : Sg} {r : Int32}  (h : f_X6_findings i1 σ = some r) : MI l D (tysC cI cR) 16 ad (celM cI ad) okM yX6_findings cX6_findings 2 .int 2 52 [.ref (ad 0), .int i1] σ r σ := by
  unfold f_X6_findings at h
  refine entI "WokenYearsModel" hap (by decide +kernel) rfl (Nat.le_of_ble_eq_true rfl) (fun p e s m args below meth c C => ?_)
  refine J_sub (lv' := [(0, .ref (ad 0)), (1, .int i1)]) [0, 1] rfl ?_
  refine J_iload_n (q := 1) C dX6_findings_0 rfl rfl 1 rfl ?_
  refine J_iconst (v := 1 ) (q := 2) C dX6_findings_1 rfl rfl ?_
  refine J_iconst (v := 5 ) (q := 3) C dX6_findings_2 rfl rfl ?_
  obtain ⟨r1, ec1, h⟩ := bnd_of h
  refine J_callIS (q := 6) (As := [.int i1, .int (1 : Int32), .int (5 : Int32)]) C (c_X6_in hap  ec1) ok_X6_in kM_X6_69 rfl rfl rfl ⟨Nat.le_of_ble_eq_true rfl, Nat.le_of_ble_eq_true rfl⟩ (Nat.le_of_ble_eq_true rfl) dX6_findings_3 rfl ?_
  refine J_ifeq_b (tgt := 18) (q := 9) C dX6_findings_6 rfl (by decide) h (fun _ h => ?_) (fun _ h => ?_)
  · refine J_aload_n (q := 10) C dX6_findings_9 rfl rfl 0 rfl ?_
    refine JM_g_X6_findingMany (q := 13) C kF_X6_22 dX6_findings_10 rfl ?_
    refine J_iload_n (q := 14) C dX6_findings_13 rfl rfl 1 rfl ?_
    refine JM_iald (q := 15) C isMA_5 h dX6_findings_14 rfl (fun h => ?_)
    refine J_goto (tgt := 19) C dX6_findings_15 (by decide) ?_
    obtain rfl := Option.some.inj h
    exact J_iret C dX6_findings_19
  · refine J_iconst (v := -1 ) (q := 19) C dX6_findings_18 rfl rfl ?_
    obtain rfl := Option.some.inj h
    exact J_iret C dX6_findings_19
set_option maxHeartbeats 4000000 in
set_option maxRecDepth 100000 in
theorem cl_X6_digest_6 {p : Program} {l : Launch} {e : Env} {s : State} {m : MethodId} {args : Array Value} {below : List Frame} {meth : Method} {c : Code} {D : va_G} {cI cR : ClassId} {ad : Nat → Nat} (hap : apN 16 ad) (C : Cx p s m args meth c cX6_digest 5 "WokenYearsModel" D (tysC cI cR) 16 ad (some .long)) {k31 : Int64 → Option Int64} {σ : Sg} (r : Int64)  (hk31 : ∀ (u1 : Int64), k31 u1 = some r → Jd p l e (rmF 6 141) s m args below meth c D 16 ad (celM cI ad) okM 5 (MQ below (QL D (tysC cI cR) 16 ad (celM cI ad) okM r σ) args s 0 0 (inA 16 ad)) 31 [(0, .ref (ad 0)), (1, .long u1)] [] σ) : ∀ (n : Nat) (x1 : Int64) (x3 : Int32), l_X6_digest_6 σ k31 n x1 x3 = some r → Jd p l e (rmF 6 141) s m args below meth c D 16 ad (celM cI ad) okM 5 (MQ below (QL D (tysC cI cR) 16 ad (celM cI ad) okM r σ) args s 0 0 (inA 16 ad)) 6 [(0, .ref (ad 0)), (1, .long x1), (3, .int x3)] [] σ := by
  intro n
  induction n with
  | zero => intro x1 x3 h; cases h
  | succ n ih =>
    intro x1 x3 h
    unfold l_X6_digest_6 at h
    refine J_iload_n (q := 7) C dX6_digest_6 rfl rfl 2 rfl ?_
    refine J_bipush (v := 14) (q := 9) C dX6_digest_7 rfl rfl ?_
    refine J_icmp_ge (tgt := 31) (q := 12) C dX6_digest_9 rfl (by decide) h (fun _ h => ?_) (fun _ h => ?_)
    · refine J_sub [0, 1] rfl ?_
      exact hk31 _ h
    · refine J_ldc2 (q := 15) C kJ_X6_273 dX6_digest_12 rfl ?_
      refine J_lload_n (q := 16) C dX6_digest_15 rfl rfl 1 rfl ?_
      refine J_lmul (q := 17) C dX6_digest_16 rfl ?_
      refine J_aload_n (q := 18) C dX6_digest_17 rfl rfl 0 rfl ?_
      refine J_iload_n (q := 19) C dX6_digest_18 rfl rfl 2 rfl ?_
      obtain ⟨r1, ec1, h⟩ := bnd_of h
      refine J_callIV (q := 22) (As := [.int x3]) C (c_X6_count hap  ec1) ok_X6_count kM_X6_275 (by decide) rfl rfl rfl rfl rfl rfl ⟨Nat.le_of_ble_eq_true rfl, Nat.le_of_ble_eq_true rfl⟩ (Nat.le_of_ble_eq_true rfl) dX6_digest_19 rfl ?_
      refine J_i2l (q := 23) C dX6_digest_22 rfl ?_
      refine J_ladd (q := 24) C dX6_digest_23 rfl ?_
      refine J_nml h (fun y2 ey2 h => ?_)
      refine J_lstore_n (q := 25) C dX6_digest_24 rfl rfl (by decide) rfl ?_
      refine jn_elim h (fun y3 ey3 h => ?_)
      refine J_iinc (v := y3) (q := 28) C dX6_digest_25 rfl 2 rfl (by rw [ey3]; rfl) (by decide) rfl ?_
      refine J_goto (tgt := 6) C dX6_digest_28 (by decide) ?_
      refine J_sub [2, 1, 0] rfl ?_
      exact ih _ _ h
set_option maxHeartbeats 4000000 in
set_option maxRecDepth 100000 in
theorem cl_X6_digest_44 {p : Program} {l : Launch} {e : Env} {s : State} {m : MethodId} {args : Array Value} {below : List Frame} {meth : Method} {c : Code} {D : va_G} {cI cR : ClassId} {ad : Nat → Nat} (hap : apN 16 ad) (C : Cx p s m args meth c cX6_digest 5 "WokenYearsModel" D (tysC cI cR) 16 ad (some .long)) {a3 : Int32} {k72 : Int64 → Option Int64} {σ : Sg} (r : Int64)  (hk72 : ∀ (u1 : Int64), k72 u1 = some r → Jd p l e (rmF 6 141) s m args below meth c D 16 ad (celM cI ad) okM 5 (MQ below (QL D (tysC cI cR) 16 ad (celM cI ad) okM r σ) args s 0 0 (inA 16 ad)) 72 [(0, .ref (ad 0)), (1, .long u1), (3, .int a3)] [] σ) : ∀ (n : Nat) (x1 : Int64) (x4 : Int32), l_X6_digest_44 a3 σ k72 n x1 x4 = some r → Jd p l e (rmF 6 141) s m args below meth c D 16 ad (celM cI ad) okM 5 (MQ below (QL D (tysC cI cR) 16 ad (celM cI ad) okM r σ) args s 0 0 (inA 16 ad)) 44 [(0, .ref (ad 0)), (1, .long x1), (3, .int a3), (4, .int x4)] [] σ := by
  intro n
  induction n with
  | zero => intro x1 x4 h; cases h
  | succ n ih =>
    intro x1 x4 h
    unfold l_X6_digest_44 at h
    refine J_iload (q := 46) C dX6_digest_44 rfl 3 rfl ?_
    refine J_bipush (v := 6) (q := 48) C dX6_digest_46 rfl rfl ?_
    refine J_icmp_ge (tgt := 72) (q := 51) C dX6_digest_48 rfl (by decide) h (fun _ h => ?_) (fun _ h => ?_)
    · refine J_sub [0, 1, 2] rfl ?_
      exact hk72 _ h
    · refine J_ldc2 (q := 54) C kJ_X6_273 dX6_digest_51 rfl ?_
      refine J_lload_n (q := 55) C dX6_digest_54 rfl rfl 1 rfl ?_
      refine J_lmul (q := 56) C dX6_digest_55 rfl ?_
      refine J_aload_n (q := 57) C dX6_digest_56 rfl rfl 0 rfl ?_
      refine J_iload_n (q := 58) C dX6_digest_57 rfl rfl 2 rfl ?_
      refine J_iload (q := 60) C dX6_digest_58 rfl 3 rfl ?_
      obtain ⟨r4, ec4, h⟩ := bnd_of h
      refine J_callIV (q := 63) (As := [.int a3, .int x4]) C (c_X6_houseTells hap  ec4) ok_X6_houseTells kM_X6_153 (by decide) rfl rfl rfl rfl rfl rfl ⟨Nat.le_of_ble_eq_true rfl, Nat.le_of_ble_eq_true rfl⟩ (Nat.le_of_ble_eq_true rfl) dX6_digest_60 rfl ?_
      refine J_i2l (q := 64) C dX6_digest_63 rfl ?_
      refine J_ladd (q := 65) C dX6_digest_64 rfl ?_
      refine J_nml h (fun y5 ey5 h => ?_)
      refine J_lstore_n (q := 66) C dX6_digest_65 rfl rfl (by decide) rfl ?_
      refine jn_elim h (fun y6 ey6 h => ?_)
      refine J_iinc (v := y6) (q := 69) C dX6_digest_66 rfl 3 rfl (by rw [ey6]; rfl) (by decide) rfl ?_
      refine J_goto (tgt := 44) C dX6_digest_69 (by decide) ?_
      refine J_sub [2, 1, 3, 0] rfl ?_
      exact ih _ _ h
set_option maxHeartbeats 4000000 in
set_option maxRecDepth 100000 in
theorem cl_X6_digest_33 {p : Program} {l : Launch} {e : Env} {s : State} {m : MethodId} {args : Array Value} {below : List Frame} {meth : Method} {c : Code} {D : va_G} {cI cR : ClassId} {ad : Nat → Nat} (hap : apN 16 ad) (C : Cx p s m args meth c cX6_digest 5 "WokenYearsModel" D (tysC cI cR) 16 ad (some .long)) {k78 : Int64 → Option Int64} {σ : Sg} (r : Int64)  (hk78 : ∀ (u1 : Int64), k78 u1 = some r → Jd p l e (rmF 6 141) s m args below meth c D 16 ad (celM cI ad) okM 5 (MQ below (QL D (tysC cI cR) 16 ad (celM cI ad) okM r σ) args s 0 0 (inA 16 ad)) 78 [(0, .ref (ad 0)), (1, .long u1)] [] σ) : ∀ (n : Nat) (x1 : Int64) (x3 : Int32), l_X6_digest_33 σ k78 n x1 x3 = some r → Jd p l e (rmF 6 141) s m args below meth c D 16 ad (celM cI ad) okM 5 (MQ below (QL D (tysC cI cR) 16 ad (celM cI ad) okM r σ) args s 0 0 (inA 16 ad)) 33 [(0, .ref (ad 0)), (1, .long x1), (3, .int x3)] [] σ := by
  intro n
  induction n with
  | zero => intro x1 x3 h; cases h
  | succ n ih =>
    intro x1 x3 h
    unfold l_X6_digest_33 at h
    refine J_iload_n (q := 34) C dX6_digest_33 rfl rfl 2 rfl ?_
    refine J_aload_n (q := 35) C dX6_digest_34 rfl rfl 0 rfl ?_
    refine JM_g_X6_houses (q := 38) C kF_X6_66 dX6_digest_35 rfl ?_
    refine J_icmp_ge (tgt := 78) (q := 41) C dX6_digest_38 rfl (by decide) h (fun _ h => ?_) (fun _ h => ?_)
    · refine J_sub [0, 1] rfl ?_
      exact hk78 _ h
    · refine J_iconst (v := 0 ) (q := 42) C dX6_digest_41 rfl rfl ?_
      refine J_istore (q := 44) C dX6_digest_42 rfl (by decide) rfl ?_
      refine J_sub [1, 2, 3, 0] rfl ?_
      refine cl_X6_digest_44 hap C r  (fun v1_72 h => ?_) FU _ _ h
      · refine jn_elim h (fun y7 ey7 h => ?_)
        refine J_iinc (v := y7) (q := 75) C dX6_digest_72 rfl 2 rfl (by rw [ey7]; rfl) (by decide) rfl ?_
        refine J_goto (tgt := 33) C dX6_digest_75 (by decide) ?_
        refine J_sub [1, 2, 0] rfl ?_
        exact ih _ _ h
set_option maxHeartbeats 4000000 in
set_option maxRecDepth 100000 in
theorem cl_X6_digest_80 {p : Program} {l : Launch} {e : Env} {s : State} {m : MethodId} {args : Array Value} {below : List Frame} {meth : Method} {c : Code} {D : va_G} {cI cR : ClassId} {ad : Nat → Nat} (hap : apN 16 ad) (C : Cx p s m args meth c cX6_digest 5 "WokenYearsModel" D (tysC cI cR) 16 ad (some .long)) {k105 : Int64 → Option Int64} {σ : Sg} (r : Int64)  (hk105 : ∀ (u1 : Int64), k105 u1 = some r → Jd p l e (rmF 6 141) s m args below meth c D 16 ad (celM cI ad) okM 5 (MQ below (QL D (tysC cI cR) 16 ad (celM cI ad) okM r σ) args s 0 0 (inA 16 ad)) 105 [(0, .ref (ad 0)), (1, .long u1)] [] σ) : ∀ (n : Nat) (x1 : Int64) (x3 : Int32), l_X6_digest_80 σ k105 n x1 x3 = some r → Jd p l e (rmF 6 141) s m args below meth c D 16 ad (celM cI ad) okM 5 (MQ below (QL D (tysC cI cR) 16 ad (celM cI ad) okM r σ) args s 0 0 (inA 16 ad)) 80 [(0, .ref (ad 0)), (1, .long x1), (3, .int x3)] [] σ := by
  intro n
  induction n with
  | zero => intro x1 x3 h; cases h
  | succ n ih =>
    intro x1 x3 h
    unfold l_X6_digest_80 at h
    refine J_iload_n (q := 81) C dX6_digest_80 rfl rfl 2 rfl ?_
    refine J_iconst (v := 3 ) (q := 82) C dX6_digest_81 rfl rfl ?_
    refine J_icmp_ge (tgt := 105) (q := 85) C dX6_digest_82 rfl (by decide) h (fun _ h => ?_) (fun _ h => ?_)
    · refine J_sub [0, 1] rfl ?_
      exact hk105 _ h
    · refine J_ldc2 (q := 88) C kJ_X6_273 dX6_digest_85 rfl ?_
      refine J_lload_n (q := 89) C dX6_digest_88 rfl rfl 1 rfl ?_
      refine J_lmul (q := 90) C dX6_digest_89 rfl ?_
      refine J_aload_n (q := 91) C dX6_digest_90 rfl rfl 0 rfl ?_
      refine JM_g_X6_keptMany (q := 94) C kF_X6_50 dX6_digest_91 rfl ?_
      refine J_iload_n (q := 95) C dX6_digest_94 rfl rfl 2 rfl ?_
      refine JM_iald (q := 96) C isMA_13 h dX6_digest_95 rfl (fun h => ?_)
      refine J_i2l (q := 97) C dX6_digest_96 rfl ?_
      refine J_ladd (q := 98) C dX6_digest_97 rfl ?_
      refine J_nml h (fun y8 ey8 h => ?_)
      refine J_lstore_n (q := 99) C dX6_digest_98 rfl rfl (by decide) rfl ?_
      refine jn_elim h (fun y9 ey9 h => ?_)
      refine J_iinc (v := y9) (q := 102) C dX6_digest_99 rfl 2 rfl (by rw [ey9]; rfl) (by decide) rfl ?_
      refine J_goto (tgt := 80) C dX6_digest_102 (by decide) ?_
      refine J_sub [2, 1, 0] rfl ?_
      exact ih _ _ h
set_option maxHeartbeats 4000000 in
set_option maxRecDepth 100000 in
theorem cl_X6_digest_130 {p : Program} {l : Launch} {e : Env} {s : State} {m : MethodId} {args : Array Value} {below : List Frame} {meth : Method} {c : Code} {D : va_G} {cI cR : ClassId} {ad : Nat → Nat} (hap : apN 16 ad) (C : Cx p s m args meth c cX6_digest 5 "WokenYearsModel" D (tysC cI cR) 16 ad (some .long)) {a3 : Int32} {k167 : Int64 → Option Int64} {σ : Sg} (r : Int64)  (hk167 : ∀ (u1 : Int64), k167 u1 = some r → Jd p l e (rmF 6 141) s m args below meth c D 16 ad (celM cI ad) okM 5 (MQ below (QL D (tysC cI cR) 16 ad (celM cI ad) okM r σ) args s 0 0 (inA 16 ad)) 167 [(0, .ref (ad 0)), (1, .long u1), (3, .int a3)] [] σ) : ∀ (n : Nat) (x1 : Int64) (x4 : Int32), l_X6_digest_130 a3 σ k167 n x1 x4 = some r → Jd p l e (rmF 6 141) s m args below meth c D 16 ad (celM cI ad) okM 5 (MQ below (QL D (tysC cI cR) 16 ad (celM cI ad) okM r σ) args s 0 0 (inA 16 ad)) 130 [(0, .ref (ad 0)), (1, .long x1), (3, .int a3), (4, .int x4)] [] σ := by
  intro n
  induction n with
  | zero => intro x1 x4 h; cases h
  | succ n ih =>
    intro x1 x4 h
    unfold l_X6_digest_130 at h
    refine J_iload (q := 132) C dX6_digest_130 rfl 3 rfl ?_
    refine J_aload_n (q := 133) C dX6_digest_132 rfl rfl 0 rfl ?_
    refine JM_g_X6_rowSize (q := 136) C kF_X6_7 dX6_digest_133 rfl ?_
    refine J_iload_n (q := 137) C dX6_digest_136 rfl rfl 2 rfl ?_
    refine JM_iald (q := 138) C isMA_1 h dX6_digest_137 rfl (fun h => ?_)
    refine J_icmp_ge (tgt := 167) (q := 141) C dX6_digest_138 rfl (by decide) h (fun _ h => ?_) (fun _ h => ?_)
    · refine J_sub [0, 1, 2] rfl ?_
      exact hk167 _ h
    · refine J_ldc2 (q := 144) C kJ_X6_273 dX6_digest_141 rfl ?_
      refine J_lload_n (q := 145) C dX6_digest_144 rfl rfl 1 rfl ?_
      refine J_lmul (q := 146) C dX6_digest_145 rfl ?_
      refine J_aload_n (q := 147) C dX6_digest_146 rfl rfl 0 rfl ?_
      refine JM_g_X6_rowItem (q := 150) C kF_X6_13 dX6_digest_147 rfl ?_
      refine J_bipush (v := 40) (q := 152) C dX6_digest_150 rfl rfl ?_
      refine J_iload_n (q := 153) C dX6_digest_152 rfl rfl 2 rfl ?_
      refine J_imul (q := 154) C dX6_digest_153 rfl ?_
      refine J_iload (q := 156) C dX6_digest_154 rfl 3 rfl ?_
      refine J_iadd (q := 157) C dX6_digest_156 rfl ?_
      refine JM_iald (q := 158) C isMA_2 h dX6_digest_157 rfl (fun h => ?_)
      refine J_i2l (q := 159) C dX6_digest_158 rfl ?_
      refine J_ladd (q := 160) C dX6_digest_159 rfl ?_
      refine J_nml h (fun y11 ey11 h => ?_)
      refine J_lstore_n (q := 161) C dX6_digest_160 rfl rfl (by decide) rfl ?_
      refine jn_elim h (fun y12 ey12 h => ?_)
      refine J_iinc (v := y12) (q := 164) C dX6_digest_161 rfl 3 rfl (by rw [ey12]; rfl) (by decide) rfl ?_
      refine J_goto (tgt := 130) C dX6_digest_164 (by decide) ?_
      refine J_sub [2, 1, 3, 0] rfl ?_
      exact ih _ _ h
set_option maxHeartbeats 4000000 in
set_option maxRecDepth 100000 in
theorem cl_X6_digest_107 {p : Program} {l : Launch} {e : Env} {s : State} {m : MethodId} {args : Array Value} {below : List Frame} {meth : Method} {c : Code} {D : va_G} {cI cR : ClassId} {ad : Nat → Nat} (hap : apN 16 ad) (C : Cx p s m args meth c cX6_digest 5 "WokenYearsModel" D (tysC cI cR) 16 ad (some .long)) {k173 : Int64 → Option Int64} {σ : Sg} (r : Int64)  (hk173 : ∀ (u1 : Int64), k173 u1 = some r → Jd p l e (rmF 6 141) s m args below meth c D 16 ad (celM cI ad) okM 5 (MQ below (QL D (tysC cI cR) 16 ad (celM cI ad) okM r σ) args s 0 0 (inA 16 ad)) 173 [(0, .ref (ad 0)), (1, .long u1)] [] σ) : ∀ (n : Nat) (x1 : Int64) (x3 : Int32), l_X6_digest_107 σ k173 n x1 x3 = some r → Jd p l e (rmF 6 141) s m args below meth c D 16 ad (celM cI ad) okM 5 (MQ below (QL D (tysC cI cR) 16 ad (celM cI ad) okM r σ) args s 0 0 (inA 16 ad)) 107 [(0, .ref (ad 0)), (1, .long x1), (3, .int x3)] [] σ := by
  intro n
  induction n with
  | zero => intro x1 x3 h; cases h
  | succ n ih =>
    intro x1 x3 h
    unfold l_X6_digest_107 at h
    refine J_iload_n (q := 108) C dX6_digest_107 rfl rfl 2 rfl ?_
    refine J_bipush (v := 6) (q := 110) C dX6_digest_108 rfl rfl ?_
    refine J_icmp_ge (tgt := 173) (q := 113) C dX6_digest_110 rfl (by decide) h (fun _ h => ?_) (fun _ h => ?_)
    · refine J_sub [0, 1] rfl ?_
      exact hk173 _ h
    · refine J_ldc2 (q := 116) C kJ_X6_273 dX6_digest_113 rfl ?_
      refine J_lload_n (q := 117) C dX6_digest_116 rfl rfl 1 rfl ?_
      refine J_lmul (q := 118) C dX6_digest_117 rfl ?_
      refine J_aload_n (q := 119) C dX6_digest_118 rfl rfl 0 rfl ?_
      refine JM_g_X6_rowSize (q := 122) C kF_X6_7 dX6_digest_119 rfl ?_
      refine J_iload_n (q := 123) C dX6_digest_122 rfl rfl 2 rfl ?_
      refine JM_iald (q := 124) C isMA_1 h dX6_digest_123 rfl (fun h => ?_)
      refine J_i2l (q := 125) C dX6_digest_124 rfl ?_
      refine J_ladd (q := 126) C dX6_digest_125 rfl ?_
      refine J_nml h (fun y10 ey10 h => ?_)
      refine J_lstore_n (q := 127) C dX6_digest_126 rfl rfl (by decide) rfl ?_
      refine J_iconst (v := 0 ) (q := 128) C dX6_digest_127 rfl rfl ?_
      refine J_istore (q := 130) C dX6_digest_128 rfl (by decide) rfl ?_
      refine J_sub [2, 1, 3, 0] rfl ?_
      refine cl_X6_digest_130 hap C r  (fun v1_167 h => ?_) FU _ _ h
      · refine jn_elim h (fun y13 ey13 h => ?_)
        refine J_iinc (v := y13) (q := 170) C dX6_digest_167 rfl 2 rfl (by rw [ey13]; rfl) (by decide) rfl ?_
        refine J_goto (tgt := 107) C dX6_digest_170 (by decide) ?_
        refine J_sub [1, 2, 0] rfl ?_
        exact ih _ _ h
set_option maxHeartbeats 4000000 in
set_option maxRecDepth 100000 in
theorem cl_X6_digest_197 {p : Program} {l : Launch} {e : Env} {s : State} {m : MethodId} {args : Array Value} {below : List Frame} {meth : Method} {c : Code} {D : va_G} {cI cR : ClassId} {ad : Nat → Nat} (hap : apN 16 ad) (C : Cx p s m args meth c cX6_digest 5 "WokenYearsModel" D (tysC cI cR) 16 ad (some .long)) {a3 : Int32} {k234 : Int64 → Option Int64} {σ : Sg} (r : Int64)  (hk234 : ∀ (u1 : Int64), k234 u1 = some r → Jd p l e (rmF 6 141) s m args below meth c D 16 ad (celM cI ad) okM 5 (MQ below (QL D (tysC cI cR) 16 ad (celM cI ad) okM r σ) args s 0 0 (inA 16 ad)) 234 [(0, .ref (ad 0)), (1, .long u1), (3, .int a3)] [] σ) : ∀ (n : Nat) (x1 : Int64) (x4 : Int32), l_X6_digest_197 a3 σ k234 n x1 x4 = some r → Jd p l e (rmF 6 141) s m args below meth c D 16 ad (celM cI ad) okM 5 (MQ below (QL D (tysC cI cR) 16 ad (celM cI ad) okM r σ) args s 0 0 (inA 16 ad)) 197 [(0, .ref (ad 0)), (1, .long x1), (3, .int a3), (4, .int x4)] [] σ := by
  intro n
  induction n with
  | zero => intro x1 x4 h; cases h
  | succ n ih =>
    intro x1 x4 h
    unfold l_X6_digest_197 at h
    refine J_iload (q := 199) C dX6_digest_197 rfl 3 rfl ?_
    refine J_aload_n (q := 200) C dX6_digest_199 rfl rfl 0 rfl ?_
    refine JM_g_X6_textSize (q := 203) C kF_X6_16 dX6_digest_200 rfl ?_
    refine J_iload_n (q := 204) C dX6_digest_203 rfl rfl 2 rfl ?_
    refine JM_iald (q := 205) C isMA_3 h dX6_digest_204 rfl (fun h => ?_)
    refine J_icmp_ge (tgt := 234) (q := 208) C dX6_digest_205 rfl (by decide) h (fun _ h => ?_) (fun _ h => ?_)
    · refine J_sub [0, 1, 2] rfl ?_
      exact hk234 _ h
    · refine J_ldc2 (q := 211) C kJ_X6_273 dX6_digest_208 rfl ?_
      refine J_lload_n (q := 212) C dX6_digest_211 rfl rfl 1 rfl ?_
      refine J_lmul (q := 213) C dX6_digest_212 rfl ?_
      refine J_aload_n (q := 214) C dX6_digest_213 rfl rfl 0 rfl ?_
      refine JM_g_X6_textItem (q := 217) C kF_X6_19 dX6_digest_214 rfl ?_
      refine J_bipush (v := 60) (q := 219) C dX6_digest_217 rfl rfl ?_
      refine J_iload_n (q := 220) C dX6_digest_219 rfl rfl 2 rfl ?_
      refine J_imul (q := 221) C dX6_digest_220 rfl ?_
      refine J_iload (q := 223) C dX6_digest_221 rfl 3 rfl ?_
      refine J_iadd (q := 224) C dX6_digest_223 rfl ?_
      refine JM_iald (q := 225) C isMA_4 h dX6_digest_224 rfl (fun h => ?_)
      refine J_i2l (q := 226) C dX6_digest_225 rfl ?_
      refine J_ladd (q := 227) C dX6_digest_226 rfl ?_
      refine J_nml h (fun y15 ey15 h => ?_)
      refine J_lstore_n (q := 228) C dX6_digest_227 rfl rfl (by decide) rfl ?_
      refine jn_elim h (fun y16 ey16 h => ?_)
      refine J_iinc (v := y16) (q := 231) C dX6_digest_228 rfl 3 rfl (by rw [ey16]; rfl) (by decide) rfl ?_
      refine J_goto (tgt := 197) C dX6_digest_231 (by decide) ?_
      refine J_sub [2, 1, 3, 0] rfl ?_
      exact ih _ _ h
set_option maxHeartbeats 4000000 in
set_option maxRecDepth 100000 in
theorem cl_X6_digest_175 {p : Program} {l : Launch} {e : Env} {s : State} {m : MethodId} {args : Array Value} {below : List Frame} {meth : Method} {c : Code} {D : va_G} {cI cR : ClassId} {ad : Nat → Nat} (hap : apN 16 ad) (C : Cx p s m args meth c cX6_digest 5 "WokenYearsModel" D (tysC cI cR) 16 ad (some .long)) {k240 : Int64 → Option Int64} {σ : Sg} (r : Int64)  (hk240 : ∀ (u1 : Int64), k240 u1 = some r → Jd p l e (rmF 6 141) s m args below meth c D 16 ad (celM cI ad) okM 5 (MQ below (QL D (tysC cI cR) 16 ad (celM cI ad) okM r σ) args s 0 0 (inA 16 ad)) 240 [(1, .long u1)] [] σ) : ∀ (n : Nat) (x1 : Int64) (x3 : Int32), l_X6_digest_175 σ k240 n x1 x3 = some r → Jd p l e (rmF 6 141) s m args below meth c D 16 ad (celM cI ad) okM 5 (MQ below (QL D (tysC cI cR) 16 ad (celM cI ad) okM r σ) args s 0 0 (inA 16 ad)) 175 [(0, .ref (ad 0)), (1, .long x1), (3, .int x3)] [] σ := by
  intro n
  induction n with
  | zero => intro x1 x3 h; cases h
  | succ n ih =>
    intro x1 x3 h
    unfold l_X6_digest_175 at h
    refine J_iload_n (q := 176) C dX6_digest_175 rfl rfl 2 rfl ?_
    refine J_iconst (v := 4 ) (q := 177) C dX6_digest_176 rfl rfl ?_
    refine J_icmp_ge (tgt := 240) (q := 180) C dX6_digest_177 rfl (by decide) h (fun _ h => ?_) (fun _ h => ?_)
    · refine J_sub [1] rfl ?_
      exact hk240 _ h
    · refine J_ldc2 (q := 183) C kJ_X6_273 dX6_digest_180 rfl ?_
      refine J_lload_n (q := 184) C dX6_digest_183 rfl rfl 1 rfl ?_
      refine J_lmul (q := 185) C dX6_digest_184 rfl ?_
      refine J_aload_n (q := 186) C dX6_digest_185 rfl rfl 0 rfl ?_
      refine JM_g_X6_textSize (q := 189) C kF_X6_16 dX6_digest_186 rfl ?_
      refine J_iload_n (q := 190) C dX6_digest_189 rfl rfl 2 rfl ?_
      refine JM_iald (q := 191) C isMA_3 h dX6_digest_190 rfl (fun h => ?_)
      refine J_i2l (q := 192) C dX6_digest_191 rfl ?_
      refine J_ladd (q := 193) C dX6_digest_192 rfl ?_
      refine J_nml h (fun y14 ey14 h => ?_)
      refine J_lstore_n (q := 194) C dX6_digest_193 rfl rfl (by decide) rfl ?_
      refine J_iconst (v := 0 ) (q := 195) C dX6_digest_194 rfl rfl ?_
      refine J_istore (q := 197) C dX6_digest_195 rfl (by decide) rfl ?_
      refine J_sub [2, 1, 3, 0] rfl ?_
      refine cl_X6_digest_197 hap C r  (fun v1_234 h => ?_) FU _ _ h
      · refine jn_elim h (fun y17 ey17 h => ?_)
        refine J_iinc (v := y17) (q := 237) C dX6_digest_234 rfl 2 rfl (by rw [ey17]; rfl) (by decide) rfl ?_
        refine J_goto (tgt := 175) C dX6_digest_237 (by decide) ?_
        refine J_sub [1, 2, 0] rfl ?_
        exact ih _ _ h
set_option maxHeartbeats 4000000 in
set_option maxRecDepth 100000 in
theorem c_X6_digest {l : Launch} {D : va_G} {cI cR : ClassId} {ad : Nat → Nat} (hap : apN 16 ad)  {σ : Sg} {r : Int64}  (h : f_X6_digest σ = some r) : ML l D (tysC cI cR) 16 ad (celM cI ad) okM yX6_digest cX6_digest 5 6 141 [.ref (ad 0)] σ r σ := by
  unfold f_X6_digest at h
  refine entL "WokenYearsModel" hap (by decide +kernel) rfl (Nat.le_of_ble_eq_true rfl) (fun p e s m args below meth c C => ?_)
  refine J_sub (lv' := [(0, .ref (ad 0))]) [0] rfl ?_
  refine J_ldc2 (q := 3) C kJ_X6_271 dX6_digest_0 rfl ?_
  refine J_lstore_n (q := 4) C dX6_digest_3 rfl rfl (by decide) rfl ?_
  refine J_iconst (v := 0 ) (q := 5) C dX6_digest_4 rfl rfl ?_
  refine J_istore_n (q := 6) C dX6_digest_5 rfl rfl (by decide) rfl ?_
  refine J_sub [2, 1, 0] rfl ?_
  refine cl_X6_digest_6 hap C r  (fun v1_31 h => ?_) FU _ _ h
  · refine J_iconst (v := 0 ) (q := 32) C dX6_digest_31 rfl rfl ?_
    refine J_istore_n (q := 33) C dX6_digest_32 rfl rfl (by decide) rfl ?_
    refine J_sub [1, 2, 0] rfl ?_
    refine cl_X6_digest_33 hap C r  (fun v1_78 h => ?_) FU _ _ h
    · refine J_iconst (v := 0 ) (q := 79) C dX6_digest_78 rfl rfl ?_
      refine J_istore_n (q := 80) C dX6_digest_79 rfl rfl (by decide) rfl ?_
      refine J_sub [1, 2, 0] rfl ?_
      refine cl_X6_digest_80 hap C r  (fun v1_105 h => ?_) FU _ _ h
      · refine J_iconst (v := 0 ) (q := 106) C dX6_digest_105 rfl rfl ?_
        refine J_istore_n (q := 107) C dX6_digest_106 rfl rfl (by decide) rfl ?_
        refine J_sub [1, 2, 0] rfl ?_
        refine cl_X6_digest_107 hap C r  (fun v1_173 h => ?_) FU _ _ h
        · refine J_iconst (v := 0 ) (q := 174) C dX6_digest_173 rfl rfl ?_
          refine J_istore_n (q := 175) C dX6_digest_174 rfl rfl (by decide) rfl ?_
          refine J_sub [1, 2, 0] rfl ?_
          refine cl_X6_digest_175 hap C r  (fun v1_240 h => ?_) FU _ _ h
          · refine J_lload_n (q := 241) C dX6_digest_240 rfl rfl 0 rfl ?_
            obtain rfl := Option.some.inj h
            exact J_lret C dX6_digest_241
