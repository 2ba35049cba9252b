set_option maxHeartbeats 4000000 in
set_option maxRecDepth 100000 in
theorem c_L_cell {l : Launch} {D : va_G} {cI cR : ClassId} {ad : Nat → Nat} {b : Nat} (hap : apN 77 ad) {L : Nat} {xs : Nat → Int32} {i1 : Int32} {σ : Sg} {r : Int32} (hbA : ¬ inA 77 ad b) (h : f_L_cell L xs i1 σ = some r) : MIs l D (tysC cI cR) 77 ad (celC cI cR ad) okC b L xs yL_cell cL_cell 2 .int 1 30 [.ref b, .int i1] σ r σ := by
  unfold f_L_cell at h
  refine entIs "WokenYearsLaw" hap (by decide +kernel) rfl (Nat.le_of_ble_eq_true rfl) (fun p e s m args below meth c C hX hbl => ?_)
  refine J_sub (lv' := [(0, .ref b), (1, .int i1)]) [0, 1] rfl ?_
  refine J_aload_n (q := 1) C dL_cell_0 rfl rfl 0 rfl ?_
  refine JS_alen (q := 2) C hX hbl hbA dL_cell_1 rfl ?_
  refine J_if_ne (tgt := 9) (q := 5) C dL_cell_2 rfl (by decide) h (fun _ h => ?_) (fun _ h => ?_)
  · refine J_iconst (v := 0 ) (q := 6) C dL_cell_5 rfl rfl ?_
    refine J_goto (tgt := 15) C dL_cell_6 (by decide) ?_
    obtain rfl := Option.some.inj h
    exact J_iret C dL_cell_15
  · refine J_aload_n (q := 10) C dL_cell_9 rfl rfl 0 rfl ?_
    refine J_iload_n (q := 11) C dL_cell_10 rfl rfl 1 rfl ?_
    refine J_aload_n (q := 12) C dL_cell_11 rfl rfl 0 rfl ?_
    refine JS_alen (q := 13) C hX hbl hbA dL_cell_12 rfl ?_
    obtain ⟨nz, h⟩ := ckn_of h
    refine J_irem (q := 14) C dL_cell_13 rfl nz ?_
    refine JS_iald (q := 15) C hX hbl hbA h dL_cell_14 rfl (fun h => ?_)
    obtain rfl := Option.some.inj h
    exact J_iret C dL_cell_15
set_option maxHeartbeats 4000000 in
set_option maxRecDepth 100000 in
theorem c_L_low {l : Launch} {D : va_G} {cI cR : ClassId} {ad : Nat → Nat} (hap : apN 77 ad) {i0 : Int32} {i1 : Int32} {σ : Sg} {r : Int32}  (h : f_L_low i0 i1 = some r) : MI l D (tysC cI cR) 77 ad (celC cI cR ad) okC yL_low cL_low 2 .int 1 30 [.int i0, .int i1] σ r σ := by
  unfold f_L_low at h
  refine entI "WokenYearsLaw" hap (by decide +kernel) rfl (Nat.le_of_ble_eq_true rfl) (fun p e s m args below meth c C => ?_)
  refine J_sub (lv' := [(0, .int i0), (1, .int i1)]) [0, 1] rfl ?_
  refine J_iload_n (q := 1) C dL_low_0 rfl rfl 0 rfl ?_
  refine J_iconst (v := 1 ) (q := 2) C dL_low_1 rfl rfl ?_
  refine J_iushr (q := 3) C dL_low_2 rfl ?_
  refine J_iload_n (q := 4) C dL_low_3 rfl rfl 1 rfl ?_
  obtain ⟨nz, h⟩ := ckn_of h
  refine J_irem (q := 5) C dL_low_4 rfl nz ?_
  obtain rfl := Option.some.inj h
  exact J_iret C dL_low_5
set_option maxHeartbeats 4000000 in
set_option maxRecDepth 100000 in
theorem c_L_letter {l : Launch} {D : va_G} {cI cR : ClassId} {ad : Nat → Nat} (hap : apN 77 ad) {i0 : Int32} {σ : Sg} {r : Int32}  (h : f_L_letter i0 = some r) : MI l D (tysC cI cR) 77 ad (celC cI cR ad) okC yL_letter cL_letter 1 .int 1 30 [.int i0] σ r σ := by
  unfold f_L_letter at h
  refine entI "WokenYearsLaw" hap (by decide +kernel) rfl (Nat.le_of_ble_eq_true rfl) (fun p e s m args below meth c C => ?_)
  refine J_sub (lv' := [(0, .int i0)]) [0] rfl ?_
  refine J_iload_n (q := 1) C dL_letter_0 rfl rfl 0 rfl ?_
  refine J_if_ne (tgt := 9) (q := 4) C dL_letter_1 rfl (by decide) h (fun _ h => ?_) (fun _ h => ?_)
  · refine J_bipush (v := 104) (q := 6) C dL_letter_4 rfl rfl ?_
    refine J_goto (tgt := 51) C dL_letter_6 (by decide) ?_
    obtain rfl := Option.some.inj h
    exact J_iret C dL_letter_51
  · refine J_iload_n (q := 10) C dL_letter_9 rfl rfl 0 rfl ?_
    refine J_iconst (v := 1 ) (q := 11) C dL_letter_10 rfl rfl ?_
    refine J_icmp_ne (tgt := 19) (q := 14) C dL_letter_11 rfl (by decide) h (fun _ h => ?_) (fun _ h => ?_)
    · refine J_bipush (v := 118) (q := 16) C dL_letter_14 rfl rfl ?_
      refine J_goto (tgt := 51) C dL_letter_16 (by decide) ?_
      obtain rfl := Option.some.inj h
      exact J_iret C dL_letter_51
    · refine J_iload_n (q := 20) C dL_letter_19 rfl rfl 0 rfl ?_
      refine J_iconst (v := 2 ) (q := 21) C dL_letter_20 rfl rfl ?_
      refine J_icmp_ne (tgt := 29) (q := 24) C dL_letter_21 rfl (by decide) h (fun _ h => ?_) (fun _ h => ?_)
      · refine J_bipush (v := 114) (q := 26) C dL_letter_24 rfl rfl ?_
        refine J_goto (tgt := 51) C dL_letter_26 (by decide) ?_
        obtain rfl := Option.some.inj h
        exact J_iret C dL_letter_51
      · refine J_iload_n (q := 30) C dL_letter_29 rfl rfl 0 rfl ?_
        refine J_iconst (v := 3 ) (q := 31) C dL_letter_30 rfl rfl ?_
        refine J_icmp_ne (tgt := 39) (q := 34) C dL_letter_31 rfl (by decide) h (fun _ h => ?_) (fun _ h => ?_)
        · refine J_bipush (v := 100) (q := 36) C dL_letter_34 rfl rfl ?_
          refine J_goto (tgt := 51) C dL_letter_36 (by decide) ?_
          obtain rfl := Option.some.inj h
          exact J_iret C dL_letter_51
        · refine J_iload_n (q := 40) C dL_letter_39 rfl rfl 0 rfl ?_
          refine J_iconst (v := 4 ) (q := 41) C dL_letter_40 rfl rfl ?_
          refine J_icmp_ne (tgt := 49) (q := 44) C dL_letter_41 rfl (by decide) h (fun _ h => ?_) (fun _ h => ?_)
          · refine J_bipush (v := 105) (q := 46) C dL_letter_44 rfl rfl ?_
            refine J_goto (tgt := 51) C dL_letter_46 (by decide) ?_
            obtain rfl := Option.some.inj h
            exact J_iret C dL_letter_51
          · refine J_bipush (v := 109) (q := 51) C dL_letter_49 rfl rfl ?_
            obtain rfl := Option.some.inj h
            exact J_iret C dL_letter_51
set_option maxHeartbeats 4000000 in
set_option maxRecDepth 100000 in
theorem c_L_figures {l : Launch} {D : va_G} {cI cR : ClassId} {ad : Nat → Nat} (hap : apN 77 ad) {i1 : Int32} {i2 : Int32} {i3 : Int32} {σ : Sg} {r : Bool} {σo : Sg}  (h : f_L_figures i1 i2 i3 σ = some (r, σo)) : MI l D (tysC cI cR) 77 ad (celC cI cR ad) okC yL_figures cL_figures 4 .boolean 6 143 [.ref (ad 0), .int i1, .int i2, .int i3] σ (b2i r) σo := by
  unfold f_L_figures at h
  refine entI "WokenYearsLaw" hap (by decide +kernel) rfl (Nat.le_of_ble_eq_true rfl) (fun p e s m args below meth c C => ?_)
  refine J_sub (lv' := [(0, .ref (ad 0)), (1, .int i1), (2, .int i2), (3, .int i3)]) [0, 1, 2, 3] rfl ?_
  refine J_aload_n (q := 1) C dL_figures_0 rfl rfl 0 rfl ?_
  refine J_iload_n (q := 2) C dL_figures_1 rfl rfl 1 rfl ?_
  refine J_iload_n (q := 3) C dL_figures_2 rfl rfl 2 rfl ?_
  refine J_bipush (v := 48) (q := 5) C dL_figures_3 rfl rfl ?_
  refine J_iload_n (q := 6) C dL_figures_5 rfl rfl 3 rfl ?_
  refine J_bipush (v := 10) (q := 8) C dL_figures_6 rfl rfl ?_
  refine J_idiv (q := 9) C dL_figures_8 rfl (by decide) ?_
  refine J_iadd (q := 10) C dL_figures_9 rfl ?_
  obtain ⟨r1, σ1, ec1, h⟩ := bnd2_of h
  refine J_callIV (q := 13) (As := [.int i1, .int i2, .int ((48 : Int32) + (i3 / (10 : Int32)))]) C (c_X5_put hap  ec1) ok_X5_put kM_L_9 (by decide) rfl rfl rfl rfl rfl rfl ⟨Nat.le_of_ble_eq_true rfl, Nat.le_of_ble_eq_true rfl⟩ (Nat.le_of_ble_eq_true rfl) dL_figures_10 rfl ?_
  refine J_sipush (v := 1032) (q := 16) C dL_figures_13 rfl rfl ?_
  refine J_icmp_ne (tgt := 44) (q := 19) C dL_figures_16 rfl (by decide) h (fun _ h => ?_) (fun _ h => ?_)
  · refine J_aload_n (q := 20) C dL_figures_19 rfl rfl 0 rfl ?_
    refine J_iload_n (q := 21) C dL_figures_20 rfl rfl 1 rfl ?_
    refine J_iload_n (q := 22) C dL_figures_21 rfl rfl 2 rfl ?_
    refine J_iconst (v := 1 ) (q := 23) C dL_figures_22 rfl rfl ?_
    refine J_iadd (q := 24) C dL_figures_23 rfl ?_
    refine J_bipush (v := 48) (q := 26) C dL_figures_24 rfl rfl ?_
    refine J_iload_n (q := 27) C dL_figures_26 rfl rfl 3 rfl ?_
    refine J_bipush (v := 10) (q := 29) C dL_figures_27 rfl rfl ?_
    refine J_irem (q := 30) C dL_figures_29 rfl (by decide) ?_
    refine J_iadd (q := 31) C dL_figures_30 rfl ?_
    obtain ⟨r2, σ2, ec2, h⟩ := bnd2_of h
    refine J_callIV (q := 34) (As := [.int i1, .int (i2 + (1 : Int32)), .int ((48 : Int32) + (i3 - i3 / (10 : Int32) * (10 : Int32)))]) C (c_X5_put hap  ec2) ok_X5_put kM_L_9 (by decide) rfl rfl rfl rfl rfl rfl ⟨Nat.le_of_ble_eq_true rfl, Nat.le_of_ble_eq_true rfl⟩ (Nat.le_of_ble_eq_true rfl) dL_figures_31 rfl ?_
    refine J_sipush (v := 1032) (q := 37) C dL_figures_34 rfl rfl ?_
    refine J_icmp_ne (tgt := 44) (q := 40) C dL_figures_37 rfl (by decide) h (fun _ h => ?_) (fun _ h => ?_)
    · refine J_iconst (v := 1 ) (q := 41) C dL_figures_40 rfl rfl ?_
      refine J_goto (tgt := 45) C dL_figures_41 (by decide) ?_
      obtain ⟨rfl, rfl⟩ := Prod.mk.inj (Option.some.inj h)
      exact J_zret (b := true) C dL_figures_45
    · refine J_iconst (v := 0 ) (q := 45) C dL_figures_44 rfl rfl ?_
      obtain ⟨rfl, rfl⟩ := Prod.mk.inj (Option.some.inj h)
      exact J_zret (b := false) C dL_figures_45
  · refine J_iconst (v := 0 ) (q := 45) C dL_figures_44 rfl rfl ?_
    obtain ⟨rfl, rfl⟩ := Prod.mk.inj (Option.some.inj h)
    exact J_zret (b := false) C dL_figures_45
set_option maxHeartbeats 4000000 in
set_option maxRecDepth 100000 in
theorem cl_L_built_10 {p : Program} {l : Launch} {e : Env} {s : State} {m : MethodId} {args : Array Value} {below : List Frame} {meth : Method} {c : Code} {D : va_G} {cI cR : ClassId} {ad : Nat → Nat} (hap : apN 77 ad) (C : Cx p s m args meth c cL_built 11 "WokenYearsLaw" D (tysC cI cR) 77 ad (some .boolean)) {b L : Nat} {xs : Nat → Int32} (hX : va_X b L xs s s.heap) (hbl : b < s.heap.size) (hbA : ¬ inA 77 ad b) {a2 : Int32} {a3 : Int32} {b4 : Nat} {b5 : Nat} {a6 : Int32} (hb4 : isLA b4) (hb5 : isLA b5) {k41 : Sg → Option (Bool × Sg)} (r : Bool) (σo : Sg)  (hk41 : ∀ (σ1 : Sg), k41 σ1 = some (r, σo) → Jd p l e (rmF 8 189) s m args below meth c D 77 ad (celC cI cR ad) okC 11 (MQ below (QI D (tysC cI cR) 77 ad (celC cI cR ad) okC (b2i r) σo) args s 0 0 (inA 77 ad)) 41 [(0, .ref (ad 0)), (1, .ref b), (2, .int a2), (3, .int a3), (4, .ref (ad (b4 + 33))), (5, .ref (ad (b5 + 33))), (6, .int a6)] [] σ1) : ∀ (n : Nat) (x7 : Int32) (σx : Sg), l_L_built_10 L xs a2 a3 b4 b5 a6 k41 n x7 σx = some (r, σo) → Jd p l e (rmF 8 189) s m args below meth c D 77 ad (celC cI cR ad) okC 11 (MQ below (QI D (tysC cI cR) 77 ad (celC cI cR ad) okC (b2i r) σo) args s 0 0 (inA 77 ad)) 10 [(0, .ref (ad 0)), (1, .ref b), (2, .int a2), (3, .int a3), (4, .ref (ad (b4 + 33))), (5, .ref (ad (b5 + 33))), (6, .int a6), (7, .int x7)] [] σx := by
  intro n
  induction n with
  | zero => intro x7 σx h; cases h
  | succ n ih =>
    intro x7 σx h
    unfold l_L_built_10 at h
    refine J_iload (q := 12) C dL_built_10 rfl 7 rfl ?_
    refine J_bipush (v := 23) (q := 14) C dL_built_12 rfl rfl ?_
    refine J_icmp_ge (tgt := 41) (q := 17) C dL_built_14 rfl (by decide) h (fun _ h => ?_) (fun _ h => ?_)
    · refine J_sub [0, 1, 2, 3, 4, 5, 6] rfl ?_
      exact hk41 _ h
    · refine J_aload (q := 19) C dL_built_17 rfl 5 rfl ?_
      refine J_iload (q := 21) C dL_built_19 rfl 7 rfl ?_
      refine J_iload (q := 23) C dL_built_21 rfl 7 rfl ?_
      refine J_bipush (v := 17) (q := 25) C dL_built_23 rfl rfl ?_
      refine jn_elim h (fun k34 ek34 h => ?_)
      have hk34 : ∀ (t0_34 : Int32), k34 t0_34 = some (r, σo) → Jd p l e (rmF 8 189) s m args below meth c D 77 ad (celC cI cR ad) okC 11 (MQ below (QI D (tysC cI cR) 77 ad (celC cI cR ad) okC (b2i r) σo) args s 0 0 (inA 77 ad)) 34 [(0, .ref (ad 0)), (1, .ref b), (2, .int a2), (3, .int a3), (4, .ref (ad (b4 + 33))), (5, .ref (ad (b5 + 33))), (6, .int a6), (7, .int x7)] [.int t0_34, .int x7, .ref (ad (b5 + 33))] σx := by
        intro t0_34 h
        rw [ek34] at h
        refine JL_iast (q := 35) C hb5 h dL_built_34 rfl (fun h => ?_)
        refine jn_elim h (fun σ2 eσ2 h => ?_)
        rw [← eσ2]
        refine jn_elim h (fun y3 ey3 h => ?_)
        refine J_iinc (v := y3) (q := 38) C dL_built_35 rfl 7 rfl (by rw [ey3]; rfl) (by decide) rfl ?_
        refine J_goto (tgt := 10) C dL_built_38 (by decide) ?_
        refine J_sub [1, 2, 3, 4, 5, 6, 7, 0] rfl ?_
        exact ih _ _ h
      refine J_icmp_ge (tgt := 32) (q := 28) C dL_built_25 rfl (by decide) h (fun _ h => ?_) (fun _ h => ?_)
      · refine J_bipush (v := -9) (q := 34) C dL_built_32 rfl rfl ?_
        exact hk34 _ h
      · refine J_iconst (v := 0 ) (q := 29) C dL_built_28 rfl rfl ?_
        refine J_goto (tgt := 34) C dL_built_29 (by decide) ?_
        exact hk34 _ h
set_option maxHeartbeats 4000000 in
set_option maxRecDepth 100000 in
theorem cl_L_built_198 {p : Program} {l : Launch} {e : Env} {s : State} {m : MethodId} {args : Array Value} {below : List Frame} {meth : Method} {c : Code} {D : va_G} {cI cR : ClassId} {ad : Nat → Nat} (hap : apN 77 ad) (C : Cx p s m args meth c cL_built 11 "WokenYearsLaw" D (tysC cI cR) 77 ad (some .boolean)) {b L : Nat} {xs : Nat → Int32} (hX : va_X b L xs s s.heap) (hbl : b < s.heap.size) (hbA : ¬ inA 77 ad b) {a2 : Int32} {b4 : Nat} {b5 : Nat} (hb4 : isLA b4) (hb5 : isLA b5) {k407 : Bool → Sg → Option (Bool × Sg)} (r : Bool) (σo : Sg)  (hk407 : ∀ (u7 : Bool) (σ1 : Sg), k407 u7 σ1 = some (r, σo) → Jd p l e (rmF 8 189) s m args below meth c D 77 ad (celC cI cR ad) okC 11 (MQ below (QI D (tysC cI cR) 77 ad (celC cI cR ad) okC (b2i r) σo) args s 0 0 (inA 77 ad)) 407 [(0, .ref (ad 0)), (4, .ref (ad (b4 + 33))), (7, .int (b2i u7))] [] σ1) : ∀ (n : Nat) (x7 : Bool) (x8 : Int32) (x9 : Int32) (σx : Sg), l_L_built_198 L xs a2 b4 b5 k407 n x7 x8 x9 σx = some (r, σo) → Jd p l e (rmF 8 189) s m args below meth c D 77 ad (celC cI cR ad) okC 11 (MQ below (QI D (tysC cI cR) 77 ad (celC cI cR ad) okC (b2i r) σo) args s 0 0 (inA 77 ad)) 198 [(0, .ref (ad 0)), (1, .ref b), (2, .int a2), (4, .ref (ad (b4 + 33))), (5, .ref (ad (b5 + 33))), (7, .int (b2i x7)), (8, .int x8), (9, .int x9)] [] σx := by
  intro n
  induction n with
  | zero => intro x7 x8 x9 σx h; cases h
  | succ n ih =>
    intro x7 x8 x9 σx h
    unfold l_L_built_198 at h
    refine J_iload (q := 200) C dL_built_198 rfl 7 rfl ?_
    refine J_aload (q := 202) C dL_built_200 rfl 3 rfl ?_
    refine J_iconst (v := 1 ) (q := 203) C dL_built_202 rfl rfl ?_
    refine JL_iald (q := 204) C hb4 h dL_built_203 rfl (fun h => ?_)
    refine J_icmp_ge (tgt := 407) (q := 207) C dL_built_204 rfl (by decide) h (fun _ h => ?_) (fun _ h => ?_)
    · refine J_sub [0, 3, 5] rfl ?_
      exact hk407 _ _ h
    · refine J_aload_n (q := 208) C dL_built_207 rfl rfl 1 rfl ?_
      refine J_iload_n (q := 209) C dL_built_208 rfl rfl 2 rfl ?_
      refine J_iconst (v := 1 ) (q := 210) C dL_built_209 rfl rfl ?_
      refine J_iadd (q := 211) C dL_built_210 rfl ?_
      refine J_iload (q := 213) C dL_built_211 rfl 7 rfl ?_
      refine J_iadd (q := 214) C dL_built_213 rfl ?_
      obtain ⟨r14, ec14, h⟩ := bnd_of h
      refine JS_callIS (q := 217) (As := [.ref b, .int ((a2 + (1 : Int32)) + x9)]) C hX hbl hbA (c_L_cell hap hbA ec14) ok_L_cell kM_L_15 rfl rfl rfl ⟨Nat.le_of_ble_eq_true rfl, Nat.le_of_ble_eq_true rfl⟩ (Nat.le_of_ble_eq_true rfl) dL_built_214 rfl ?_
      refine J_istore (q := 219) C dL_built_217 rfl (by decide) rfl ?_
      refine J_aload (q := 221) C dL_built_219 rfl 4 rfl ?_
      refine J_iconst (v := 2 ) (q := 222) C dL_built_221 rfl rfl ?_
      refine J_iload (q := 224) C dL_built_222 rfl 8 rfl ?_
      refine J_iadd (q := 225) C dL_built_224 rfl ?_
      refine J_iload (q := 227) C dL_built_225 rfl 0 rfl ?_
      refine J_bipush (v := 6) (q := 229) C dL_built_227 rfl rfl ?_
      obtain ⟨r15, ec15, h⟩ := bnd_of h
      refine J_callIS (q := 232) (As := [.int r14, .int (6 : Int32)]) C (c_L_low hap  ec15) ok_L_low kM_L_21 rfl rfl rfl ⟨Nat.le_of_ble_eq_true rfl, Nat.le_of_ble_eq_true rfl⟩ (Nat.le_of_ble_eq_true rfl) dL_built_229 rfl ?_
      refine JL_iast (q := 233) C hb4 h dL_built_232 rfl (fun h => ?_)
      refine jn_elim h (fun σ16 eσ16 h => ?_)
      rw [← eσ16]
      refine J_aload (q := 235) C dL_built_233 rfl 5 rfl ?_
      refine J_iconst (v := 5 ) (q := 236) C dL_built_235 rfl rfl ?_
      refine J_iload (q := 238) C dL_built_236 rfl 8 rfl ?_
      refine J_iadd (q := 239) C dL_built_238 rfl ?_
      refine J_iload (q := 241) C dL_built_239 rfl 0 rfl ?_
      refine J_iconst (v := 3 ) (q := 242) C dL_built_241 rfl rfl ?_
      refine J_ishr (q := 243) C dL_built_242 rfl ?_
      refine J_iconst (v := 3 ) (q := 244) C dL_built_243 rfl rfl ?_
      obtain ⟨r17, ec17, h⟩ := bnd_of h
      refine J_callIS (q := 247) (As := [.int (r14 >>> ((3 : Int32) &&& 31)), .int (3 : Int32)]) C (c_L_low hap  ec17) ok_L_low kM_L_21 rfl rfl rfl ⟨Nat.le_of_ble_eq_true rfl, Nat.le_of_ble_eq_true rfl⟩ (Nat.le_of_ble_eq_true rfl) dL_built_244 rfl ?_
      refine jn_elim h (fun k274 ek274 h => ?_)
      have hk274 : ∀ (t0_274 : Int32), k274 t0_274 = some (r, σo) → Jd p l e (rmF 8 189) s m args below meth c D 77 ad (celC cI cR ad) okC 11 (MQ below (QI D (tysC cI cR) 77 ad (celC cI cR ad) okC (b2i r) σo) args s 0 0 (inA 77 ad)) 274 [(0, .ref (ad 0)), (1, .ref b), (2, .int a2), (4, .ref (ad (b4 + 33))), (5, .ref (ad (b5 + 33))), (7, .int (b2i x7)), (8, .int x8), (9, .int x9), (10, .int r14)] [.int t0_274, .int ((5 : Int32) + x9), .ref (ad (b5 + 33))] σ16 := by
        intro t0_274 h
        rw [ek274] at h
        refine JL_iast (q := 275) C hb5 h dL_built_274 rfl (fun h => ?_)
        refine jn_elim h (fun σ18 eσ18 h => ?_)
        rw [← eσ18]
        refine J_aload (q := 277) C dL_built_275 rfl 3 rfl ?_
        refine J_bipush (v := 8) (q := 279) C dL_built_277 rfl rfl ?_
        refine J_iload (q := 281) C dL_built_279 rfl 7 rfl ?_
        refine J_iadd (q := 282) C dL_built_281 rfl ?_
        refine J_iload (q := 284) C dL_built_282 rfl 8 rfl ?_
        refine J_bipush (v := 12) (q := 286) C dL_built_284 rfl rfl ?_
        refine J_ishr (q := 287) C dL_built_286 rfl ?_
        refine J_iload (q := 289) C dL_built_287 rfl 8 rfl ?_
        refine J_bipush (v := 20) (q := 291) C dL_built_289 rfl rfl ?_
        refine J_ishr (q := 292) C dL_built_291 rfl ?_
        refine J_iconst (v := 2 ) (q := 293) C dL_built_292 rfl rfl ?_
        obtain ⟨r19, ec19, h⟩ := bnd_of h
        refine J_callIS (q := 296) (As := [.int (r14 >>> ((20 : Int32) &&& 31)), .int (2 : Int32)]) C (c_L_low hap  ec19) ok_L_low kM_L_21 rfl rfl rfl ⟨Nat.le_of_ble_eq_true rfl, Nat.le_of_ble_eq_true rfl⟩ (Nat.le_of_ble_eq_true rfl) dL_built_293 rfl ?_
        refine jn_elim h (fun k306 ek306 h => ?_)
        have hk306 : ∀ (t0_306 : Int32), k306 t0_306 = some (r, σo) → Jd p l e (rmF 8 189) s m args below meth c D 77 ad (celC cI cR ad) okC 11 (MQ below (QI D (tysC cI cR) 77 ad (celC cI cR ad) okC (b2i r) σo) args s 0 0 (inA 77 ad)) 306 [(0, .ref (ad 0)), (1, .ref b), (2, .int a2), (4, .ref (ad (b4 + 33))), (5, .ref (ad (b5 + 33))), (7, .int (b2i x7)), (8, .int x8), (9, .int x9), (10, .int r14)] [.int t0_306, .int (r14 >>> ((12 : Int32) &&& 31)), .int ((8 : Int32) + x9), .ref (ad (b4 + 33))] σ18 := by
          intro t0_306 h
          rw [ek306] at h
          obtain ⟨r20, ec20, h⟩ := bnd_of h
          refine J_callIS (q := 309) (As := [.int (r14 >>> ((12 : Int32) &&& 31)), .int t0_306]) C (c_L_low hap  ec20) ok_L_low kM_L_21 rfl rfl rfl ⟨Nat.le_of_ble_eq_true rfl, Nat.le_of_ble_eq_true rfl⟩ (Nat.le_of_ble_eq_true rfl) dL_built_306 rfl ?_
          refine JL_iast (q := 310) C hb4 h dL_built_309 rfl (fun h => ?_)
          refine jn_elim h (fun σ21 eσ21 h => ?_)
          rw [← eσ21]
          refine J_iload (q := 312) C dL_built_310 rfl 6 rfl ?_
          refine J_iload (q := 314) C dL_built_312 rfl 8 rfl ?_
          refine J_bipush (v := 22) (q := 316) C dL_built_314 rfl rfl ?_
          refine J_ishr (q := 317) C dL_built_316 rfl ?_
          refine J_iconst (v := 3 ) (q := 318) C dL_built_317 rfl rfl ?_
          obtain ⟨r22, ec22, h⟩ := bnd_of h
          refine J_callIS (q := 321) (As := [.int (r14 >>> ((22 : Int32) &&& 31)), .int (3 : Int32)]) C (c_L_low hap  ec22) ok_L_low kM_L_21 rfl rfl rfl ⟨Nat.le_of_ble_eq_true rfl, Nat.le_of_ble_eq_true rfl⟩ (Nat.le_of_ble_eq_true rfl) dL_built_318 rfl ?_
          refine J_iadd (q := 322) C dL_built_321 rfl ?_
          refine J_nmi h (fun y23 ey23 h => ?_)
          refine J_istore (q := 324) C dL_built_322 rfl (by decide) rfl ?_
          refine J_iload (q := 326) C dL_built_324 rfl 6 rfl ?_
          refine jn_elim h (fun k396 ek396 h => ?_)
          have hk396 : ∀ (t0_396 : Bool) (σj396 : Sg), k396 t0_396 σj396 = some (r, σo) → Jd p l e (rmF 8 189) s m args below meth c D 77 ad (celC cI cR ad) okC 11 (MQ below (QI D (tysC cI cR) 77 ad (celC cI cR ad) okC (b2i r) σo) args s 0 0 (inA 77 ad)) 396 [(0, .ref (ad 0)), (1, .ref b), (2, .int a2), (4, .ref (ad (b4 + 33))), (5, .ref (ad (b5 + 33))), (8, .int y23), (9, .int x9)] [.int (b2i t0_396)] σj396 := by
            intro t0_396 σj396 h
            rw [ek396] at h
            refine J_istore (q := 398) C dL_built_396 rfl (by decide) rfl ?_
            refine jn_elim h (fun y24 ey24 h => ?_)
            refine J_iinc (v := y24) (q := 401) C dL_built_398 rfl 6 rfl (by rw [ey24]; rfl) (by decide) rfl ?_
            refine jn_elim h (fun y25 ey25 h => ?_)
            refine J_iinc (v := y25) (q := 404) C dL_built_401 rfl 7 rfl (by rw [ey25]; rfl) (by decide) rfl ?_
            refine J_goto (tgt := 198) C dL_built_404 (by decide) ?_
            refine J_sub [3, 4, 5, 6, 7, 2, 1, 0] rfl ?_
            exact ih _ _ _ _ h
          refine jn_elim h (fun k395 ek395 h => ?_)
          have hk395 : ∀ (σj395 : Sg), k395 σj395 = some (r, σo) → Jd p l e (rmF 8 189) s m args below meth c D 77 ad (celC cI cR ad) okC 11 (MQ below (QI D (tysC cI cR) 77 ad (celC cI cR ad) okC (b2i r) σo) args s 0 0 (inA 77 ad)) 395 [(0, .ref (ad 0)), (1, .ref b), (2, .int a2), (4, .ref (ad (b4 + 33))), (5, .ref (ad (b5 + 33))), (8, .int y23), (9, .int x9)] [] σj395 := by
            intro σj395 h
            rw [ek395] at h
            refine J_iconst (v := 0 ) (q := 396) C dL_built_395 rfl rfl ?_
            exact hk396 _ _ h
          refine J_ifeq_b (tgt := 395) (q := 329) C dL_built_326 rfl (by decide) h (fun _ h => ?_) (fun _ h => ?_)
          · refine J_aload_n (q := 330) C dL_built_329 rfl rfl 1 rfl ?_
            refine J_iconst (v := 3 ) (q := 331) C dL_built_330 rfl rfl ?_
            refine J_iload (q := 333) C dL_built_331 rfl 0 rfl ?_
            refine J_aload (q := 335) C dL_built_333 rfl 4 rfl ?_
            refine J_iconst (v := 2 ) (q := 336) C dL_built_335 rfl rfl ?_
            refine J_iload (q := 338) C dL_built_336 rfl 7 rfl ?_
            refine J_iadd (q := 339) C dL_built_338 rfl ?_
            refine JL_iald (q := 340) C hb4 h dL_built_339 rfl (fun h => ?_)
            obtain ⟨r26, ec26, h⟩ := bnd_of h
            refine J_callIS (q := 343) (As := [.int (gA σ21 b4 ((2 : Int32) + x9).toNatClampNeg)]) C (c_L_letter hap  ec26) ok_L_letter kM_L_32 rfl rfl rfl ⟨Nat.le_of_ble_eq_true rfl, Nat.le_of_ble_eq_true rfl⟩ (Nat.le_of_ble_eq_true rfl) dL_built_340 rfl ?_
            obtain ⟨r27, σ27, ec27, h⟩ := bnd2_of h
            refine J_callIV (q := 346) (As := [.int (3 : Int32), .int y23, .int r26]) C (c_X5_put hap  ec27) ok_X5_put kM_L_9 (by decide) rfl rfl rfl rfl rfl rfl ⟨Nat.le_of_ble_eq_true rfl, Nat.le_of_ble_eq_true rfl⟩ (Nat.le_of_ble_eq_true rfl) dL_built_343 rfl ?_
            refine J_sipush (v := 1032) (q := 349) C dL_built_346 rfl rfl ?_
            refine J_icmp_ne (tgt := 395) (q := 352) C dL_built_349 rfl (by decide) h (fun _ h => ?_) (fun _ h => ?_)
            · refine J_aload_n (q := 353) C dL_built_352 rfl rfl 1 rfl ?_
              refine J_iconst (v := 3 ) (q := 354) C dL_built_353 rfl rfl ?_
              refine J_iload (q := 356) C dL_built_354 rfl 0 rfl ?_
              refine J_iconst (v := 1 ) (q := 357) C dL_built_356 rfl rfl ?_
              refine J_iadd (q := 358) C dL_built_357 rfl ?_
              refine J_aload (q := 360) C dL_built_358 rfl 5 rfl ?_
              refine J_iconst (v := 5 ) (q := 361) C dL_built_360 rfl rfl ?_
              refine J_iload (q := 363) C dL_built_361 rfl 7 rfl ?_
              refine J_iadd (q := 364) C dL_built_363 rfl ?_
              refine JL_iald (q := 365) C hb5 h dL_built_364 rfl (fun h => ?_)
              obtain ⟨r28, σ28, ec28, h⟩ := bnd2_of h
              refine J_callIS (q := 368) (As := [.ref (ad 0), .int (3 : Int32), .int (y23 + (1 : Int32)), .int (gA σ27 b5 ((5 : Int32) + x9).toNatClampNeg)]) C (c_L_figures hap  ec28) ok_L_figures kM_L_28 rfl rfl rfl ⟨Nat.le_of_ble_eq_true rfl, Nat.le_of_ble_eq_true rfl⟩ (Nat.le_of_ble_eq_true rfl) dL_built_365 rfl ?_
              refine J_ifeq_b (tgt := 395) (q := 371) C dL_built_368 rfl (by decide) h (fun _ h => ?_) (fun _ h => ?_)
              · refine J_aload_n (q := 372) C dL_built_371 rfl rfl 1 rfl ?_
                refine J_iconst (v := 3 ) (q := 373) C dL_built_372 rfl rfl ?_
                refine J_iload (q := 375) C dL_built_373 rfl 0 rfl ?_
                refine J_iconst (v := 3 ) (q := 376) C dL_built_375 rfl rfl ?_
                refine J_iadd (q := 377) C dL_built_376 rfl ?_
                refine J_aload (q := 379) C dL_built_377 rfl 4 rfl ?_
                refine J_bipush (v := 8) (q := 381) C dL_built_379 rfl rfl ?_
                refine J_iload (q := 383) C dL_built_381 rfl 7 rfl ?_
                refine J_iadd (q := 384) C dL_built_383 rfl ?_
                refine JL_iald (q := 385) C hb4 h dL_built_384 rfl (fun h => ?_)
                obtain ⟨r29, σ29, ec29, h⟩ := bnd2_of h
                refine J_callIS (q := 388) (As := [.ref (ad 0), .int (3 : Int32), .int (y23 + (3 : Int32)), .int (gA σ28 b4 ((8 : Int32) + x9).toNatClampNeg)]) C (c_L_figures hap  ec29) ok_L_figures kM_L_28 rfl rfl rfl ⟨Nat.le_of_ble_eq_true rfl, Nat.le_of_ble_eq_true rfl⟩ (Nat.le_of_ble_eq_true rfl) dL_built_385 rfl ?_
                refine J_ifeq_b (tgt := 395) (q := 391) C dL_built_388 rfl (by decide) h (fun _ h => ?_) (fun _ h => ?_)
                · refine J_iconst (v := 1 ) (q := 392) C dL_built_391 rfl rfl ?_
                  refine J_goto (tgt := 396) C dL_built_392 (by decide) ?_
                  refine J_sub [1, 2, 3, 4, 5, 0, 7] rfl ?_
                  exact hk396 _ _ h
                · refine J_sub [1, 2, 3, 4, 5, 0, 7] rfl ?_
                  exact hk395 _ h
              · refine J_sub [1, 2, 3, 4, 5, 0, 7] rfl ?_
                exact hk395 _ h
            · refine J_sub [1, 2, 3, 4, 5, 0, 7] rfl ?_
              exact hk395 _ h
          · refine J_sub [1, 2, 3, 4, 5, 0, 7] rfl ?_
            exact hk395 _ h
        refine J_if_ne (tgt := 304) (q := 299) C dL_built_296 rfl (by decide) h (fun _ h => ?_) (fun _ h => ?_)
        · refine J_bipush (v := 100) (q := 301) C dL_built_299 rfl rfl ?_
          refine J_goto (tgt := 306) C dL_built_301 (by decide) ?_
          exact hk306 _ h
        · refine J_bipush (v := 25) (q := 306) C dL_built_304 rfl rfl ?_
          exact hk306 _ h
      refine J_if_ne (tgt := 265) (q := 250) C dL_built_247 rfl (by decide) h (fun _ h => ?_) (fun _ h => ?_)
      · refine J_bipush (v := 40) (q := 252) C dL_built_250 rfl rfl ?_
        refine J_iload (q := 254) C dL_built_252 rfl 0 rfl ?_
        refine J_iconst (v := 5 ) (q := 255) C dL_built_254 rfl rfl ?_
        refine J_ishr (q := 256) C dL_built_255 rfl ?_
        refine J_bipush (v := 12) (q := 258) C dL_built_256 rfl rfl ?_
        obtain ⟨r30, ec30, h⟩ := bnd_of h
        refine J_callIS (q := 261) (As := [.int (r14 >>> ((5 : Int32) &&& 31)), .int (12 : Int32)]) C (c_L_low hap  ec30) ok_L_low kM_L_21 rfl rfl rfl ⟨Nat.le_of_ble_eq_true rfl, Nat.le_of_ble_eq_true rfl⟩ (Nat.le_of_ble_eq_true rfl) dL_built_258 rfl ?_
        refine J_iadd (q := 262) C dL_built_261 rfl ?_
        refine J_goto (tgt := 274) C dL_built_262 (by decide) ?_
        refine J_sub [1, 2, 3, 4, 5, 6, 7, 8, 0] rfl ?_
        exact hk274 _ h
      · refine J_iload (q := 267) C dL_built_265 rfl 0 rfl ?_
        refine J_iconst (v := 5 ) (q := 268) C dL_built_267 rfl rfl ?_
        refine J_ishr (q := 269) C dL_built_268 rfl ?_
        refine J_bipush (v := 100) (q := 271) C dL_built_269 rfl rfl ?_
        obtain ⟨r31, ec31, h⟩ := bnd_of h
        refine J_callIS (q := 274) (As := [.int (r14 >>> ((5 : Int32) &&& 31)), .int (100 : Int32)]) C (c_L_low hap  ec31) ok_L_low kM_L_21 rfl rfl rfl ⟨Nat.le_of_ble_eq_true rfl, Nat.le_of_ble_eq_true rfl⟩ (Nat.le_of_ble_eq_true rfl) dL_built_271 rfl ?_
        refine J_sub [1, 2, 3, 4, 5, 6, 7, 8, 0] rfl ?_
        exact hk274 _ h
set_option maxHeartbeats 4000000 in
set_option maxRecDepth 100000 in
theorem cs_L_built_407 {p : Program} {l : Launch} {e : Env} {s : State} {m : MethodId} {args : Array Value} {below : List Frame} {meth : Method} {c : Code} {D : va_G} {cI cR : ClassId} {ad : Nat → Nat} (hap : apN 77 ad) (C : Cx p s m args meth c cL_built 11 "WokenYearsLaw" D (tysC cI cR) 77 ad (some .boolean)) {b L : Nat} {xs : Nat → Int32} (hX : va_X b L xs s s.heap) (hbl : b < s.heap.size) (hbA : ¬ inA 77 ad b) {b4 : Nat} {z7 : Bool} (hb4 : isLA b4) {σ : Sg} {r : Bool} {σo : Sg} (h : s_L_built_407 L xs b4 z7 σ = some (r, σo)) : Jd p l e (rmF 8 189) s m args below meth c D 77 ad (celC cI cR ad) okC 11 (MQ below (QI D (tysC cI cR) 77 ad (celC cI cR ad) okC (b2i r) σo) args s 0 0 (inA 77 ad)) 407 [(0, .ref (ad 0)), (4, .ref (ad (b4 + 33))), (7, .int (b2i z7))] [] σ := by
  unfold s_L_built_407 at h
  refine J_iload (q := 409) C dL_built_407 rfl 2 rfl ?_
  refine J_ifeq_b (tgt := 438) (q := 412) C dL_built_409 rfl (by decide) h (fun _ h => ?_) (fun _ h => ?_)
  · refine J_aload_n (q := 413) C dL_built_412 rfl rfl 0 rfl ?_
    refine J_iconst (v := 3 ) (q := 414) C dL_built_413 rfl rfl ?_
    obtain ⟨r32, σ32, ec32, h⟩ := bnd2_of h
    refine J_callIV (q := 417) (As := [.int (3 : Int32)]) C (c_X5_fault hap  ec32) ok_X5_fault kM_L_36 (by decide) rfl rfl rfl rfl rfl rfl ⟨Nat.le_of_ble_eq_true rfl, Nat.le_of_ble_eq_true rfl⟩ (Nat.le_of_ble_eq_true rfl) dL_built_414 rfl ?_
    refine J_bipush (v := -9) (q := 419) C dL_built_417 rfl rfl ?_
    refine J_icmp_ne (tgt := 438) (q := 422) C dL_built_419 rfl (by decide) h (fun _ h => ?_) (fun _ h => ?_)
    · refine J_aload_n (q := 423) C dL_built_422 rfl rfl 0 rfl ?_
      refine J_iconst (v := 3 ) (q := 424) C dL_built_423 rfl rfl ?_
      obtain ⟨r33, σ33, ec33, h⟩ := bnd2_of h
      refine J_callIV (q := 427) (As := [.int (3 : Int32)]) C (c_X5_town hap  ec33) ok_X5_town kM_L_39 (by decide) rfl rfl rfl rfl rfl rfl ⟨Nat.le_of_ble_eq_true rfl, Nat.le_of_ble_eq_true rfl⟩ (Nat.le_of_ble_eq_true rfl) dL_built_424 rfl ?_
      refine J_aload (q := 429) C dL_built_427 rfl 1 rfl ?_
      refine J_iconst (v := 1 ) (q := 430) C dL_built_429 rfl rfl ?_
      refine JL_iald (q := 431) C hb4 h dL_built_430 rfl (fun h => ?_)
      refine J_icmp_ne (tgt := 438) (q := 434) C dL_built_431 rfl (by decide) h (fun _ h => ?_) (fun _ h => ?_)
      · refine J_iconst (v := 1 ) (q := 435) C dL_built_434 rfl rfl ?_
        refine J_goto (tgt := 439) C dL_built_435 (by decide) ?_
        obtain ⟨rfl, rfl⟩ := Prod.mk.inj (Option.some.inj h)
        exact J_zret (b := true) C dL_built_439
      · refine J_iconst (v := 0 ) (q := 439) C dL_built_438 rfl rfl ?_
        obtain ⟨rfl, rfl⟩ := Prod.mk.inj (Option.some.inj h)
        exact J_zret (b := false) C dL_built_439
    · refine J_iconst (v := 0 ) (q := 439) C dL_built_438 rfl rfl ?_
      obtain ⟨rfl, rfl⟩ := Prod.mk.inj (Option.some.inj h)
      exact J_zret (b := false) C dL_built_439
  · refine J_iconst (v := 0 ) (q := 439) C dL_built_438 rfl rfl ?_
    obtain ⟨rfl, rfl⟩ := Prod.mk.inj (Option.some.inj h)
    exact J_zret (b := false) C dL_built_439
set_option maxHeartbeats 4000000 in
set_option maxRecDepth 100000 in
theorem cs_L_built_41 {p : Program} {l : Launch} {e : Env} {s : State} {m : MethodId} {args : Array Value} {below : List Frame} {meth : Method} {c : Code} {D : va_G} {cI cR : ClassId} {ad : Nat → Nat} (hap : apN 77 ad) (C : Cx p s m args meth c cL_built 11 "WokenYearsLaw" D (tysC cI cR) 77 ad (some .boolean)) {b L : Nat} {xs : Nat → Int32} (hX : va_X b L xs s s.heap) (hbl : b < s.heap.size) (hbA : ¬ inA 77 ad b) {z2 : Int32} {z3 : Int32} {b4 : Nat} {b5 : Nat} {z6 : Int32} (hb4 : isLA b4) (hb5 : isLA b5) {σ : Sg} {r : Bool} {σo : Sg} (h : s_L_built_41 L xs z2 z3 b4 b5 z6 σ = some (r, σo)) : Jd p l e (rmF 8 189) s m args below meth c D 77 ad (celC cI cR ad) okC 11 (MQ below (QI D (tysC cI cR) 77 ad (celC cI cR ad) okC (b2i r) σo) args s 0 0 (inA 77 ad)) 41 [(0, .ref (ad 0)), (1, .ref b), (2, .int z2), (3, .int z3), (4, .ref (ad (b4 + 33))), (5, .ref (ad (b5 + 33))), (6, .int z6)] [] σ := by
  unfold s_L_built_41 at h
  refine J_aload (q := 43) C dL_built_41 rfl 4 rfl ?_
  refine J_iconst (v := 0 ) (q := 44) C dL_built_43 rfl rfl ?_
  refine J_iload (q := 46) C dL_built_44 rfl 6 rfl ?_
  refine J_iload (q := 48) C dL_built_46 rfl 6 rfl ?_
  refine J_bipush (v := 20) (q := 50) C dL_built_48 rfl rfl ?_
  refine J_ishr (q := 51) C dL_built_50 rfl ?_
  refine J_iconst (v := 2 ) (q := 52) C dL_built_51 rfl rfl ?_
  obtain ⟨r4, ec4, h⟩ := bnd_of h
  refine J_callIS (q := 55) (As := [.int (z6 >>> ((20 : Int32) &&& 31)), .int (2 : Int32)]) C (c_L_low hap  ec4) ok_L_low kM_L_21 rfl rfl rfl ⟨Nat.le_of_ble_eq_true rfl, Nat.le_of_ble_eq_true rfl⟩ (Nat.le_of_ble_eq_true rfl) dL_built_52 rfl ?_
  refine jn_elim h (fun k65 ek65 h => ?_)
  have hk65 : ∀ (t0_65 : Int32), k65 t0_65 = some (r, σo) → Jd p l e (rmF 8 189) s m args below meth c D 77 ad (celC cI cR ad) okC 11 (MQ below (QI D (tysC cI cR) 77 ad (celC cI cR ad) okC (b2i r) σo) args s 0 0 (inA 77 ad)) 65 [(0, .ref (ad 0)), (1, .ref b), (2, .int z2), (3, .int z3), (4, .ref (ad (b4 + 33))), (5, .ref (ad (b5 + 33))), (6, .int z6)] [.int t0_65, .int z6, .int (0 : Int32), .ref (ad (b4 + 33))] σ := by
    intro t0_65 h
    rw [ek65] at h
    obtain ⟨r5, ec5, h⟩ := bnd_of h
    refine J_callIS (q := 68) (As := [.int z6, .int t0_65]) C (c_L_low hap  ec5) ok_L_low kM_L_21 rfl rfl rfl ⟨Nat.le_of_ble_eq_true rfl, Nat.le_of_ble_eq_true rfl⟩ (Nat.le_of_ble_eq_true rfl) dL_built_65 rfl ?_
    refine JL_iast (q := 69) C hb4 h dL_built_68 rfl (fun h => ?_)
    refine jn_elim h (fun σ6 eσ6 h => ?_)
    rw [← eσ6]
    refine J_aload (q := 71) C dL_built_69 rfl 4 rfl ?_
    refine J_iconst (v := 1 ) (q := 72) C dL_built_71 rfl rfl ?_
    refine J_iconst (v := 1 ) (q := 73) C dL_built_72 rfl rfl ?_
    refine J_iload (q := 75) C dL_built_73 rfl 6 rfl ?_
    refine J_bipush (v := 7) (q := 77) C dL_built_75 rfl rfl ?_
    refine J_ishr (q := 78) C dL_built_77 rfl ?_
    refine J_iload_n (q := 79) C dL_built_78 rfl rfl 3 rfl ?_
    obtain ⟨r7, ec7, h⟩ := bnd_of h
    refine J_callIS (q := 82) (As := [.int (z6 >>> ((7 : Int32) &&& 31)), .int z3]) C (c_L_low hap  ec7) ok_L_low kM_L_21 rfl rfl rfl ⟨Nat.le_of_ble_eq_true rfl, Nat.le_of_ble_eq_true rfl⟩ (Nat.le_of_ble_eq_true rfl) dL_built_79 rfl ?_
    refine J_iadd (q := 83) C dL_built_82 rfl ?_
    refine JL_iast (q := 84) C hb4 h dL_built_83 rfl (fun h => ?_)
    refine jn_elim h (fun σ8 eσ8 h => ?_)
    rw [← eσ8]
    refine J_aload (q := 86) C dL_built_84 rfl 5 rfl ?_
    refine J_iconst (v := 3 ) (q := 87) C dL_built_86 rfl rfl ?_
    refine J_iload (q := 89) C dL_built_87 rfl 6 rfl ?_
    refine J_bipush (v := 10) (q := 91) C dL_built_89 rfl rfl ?_
    refine J_ishr (q := 92) C dL_built_91 rfl ?_
    refine J_iconst (v := 2 ) (q := 93) C dL_built_92 rfl rfl ?_
    obtain ⟨r9, ec9, h⟩ := bnd_of h
    refine J_callIS (q := 96) (As := [.int (z6 >>> ((10 : Int32) &&& 31)), .int (2 : Int32)]) C (c_L_low hap  ec9) ok_L_low kM_L_21 rfl rfl rfl ⟨Nat.le_of_ble_eq_true rfl, Nat.le_of_ble_eq_true rfl⟩ (Nat.le_of_ble_eq_true rfl) dL_built_93 rfl ?_
    refine JL_iast (q := 97) C hb5 h dL_built_96 rfl (fun h => ?_)
    refine jn_elim h (fun σ10 eσ10 h => ?_)
    rw [← eσ10]
    refine J_aload_n (q := 98) C dL_built_97 rfl rfl 0 rfl ?_
    refine J_iconst (v := 3 ) (q := 99) C dL_built_98 rfl rfl ?_
    refine J_bipush (v := 50) (q := 101) C dL_built_99 rfl rfl ?_
    obtain ⟨r11, σ11, ec11, h⟩ := bnd2_of h
    refine J_callIV (q := 104) (As := [.int (3 : Int32), .int (50 : Int32)]) C (c_X5_text hap  ec11) ok_X5_text kM_L_25 (by decide) rfl rfl rfl rfl rfl rfl ⟨Nat.le_of_ble_eq_true rfl, Nat.le_of_ble_eq_true rfl⟩ (Nat.le_of_ble_eq_true rfl) dL_built_101 rfl ?_
    refine J_bipush (v := 50) (q := 106) C dL_built_104 rfl rfl ?_
    refine jn_elim h (fun k114 ek114 h => ?_)
    have hk114 : ∀ (t0_114 : Bool), k114 t0_114 = some (r, σo) → Jd p l e (rmF 8 189) s m args below meth c D 77 ad (celC cI cR ad) okC 11 (MQ below (QI D (tysC cI cR) 77 ad (celC cI cR ad) okC (b2i r) σo) args s 0 0 (inA 77 ad)) 114 [(0, .ref (ad 0)), (1, .ref b), (2, .int z2), (4, .ref (ad (b4 + 33))), (5, .ref (ad (b5 + 33))), (6, .int z6)] [.int (b2i t0_114)] σ11 := by
      intro t0_114 h
      rw [ek114] at h
      refine J_istore (q := 116) C dL_built_114 rfl (by decide) rfl ?_
      refine J_iload (q := 118) C dL_built_116 rfl 6 rfl ?_
      refine J_bipush (v := 11) (q := 120) C dL_built_118 rfl rfl ?_
      refine J_ishr (q := 121) C dL_built_120 rfl ?_
      refine J_iconst (v := 3 ) (q := 122) C dL_built_121 rfl rfl ?_
      obtain ⟨r12, ec12, h⟩ := bnd_of h
      refine J_callIS (q := 125) (As := [.int (z6 >>> ((11 : Int32) &&& 31)), .int (3 : Int32)]) C (c_L_low hap  ec12) ok_L_low kM_L_21 rfl rfl rfl ⟨Nat.le_of_ble_eq_true rfl, Nat.le_of_ble_eq_true rfl⟩ (Nat.le_of_ble_eq_true rfl) dL_built_122 rfl ?_
      refine J_istore (q := 127) C dL_built_125 rfl (by decide) rfl ?_
      refine J_iload (q := 129) C dL_built_127 rfl 1 rfl ?_
      refine jn_elim h (fun k190 ek190 h => ?_)
      have hk190 : ∀ (t0_190 : Bool) (σj190 : Sg), k190 t0_190 σj190 = some (r, σo) → Jd p l e (rmF 8 189) s m args below meth c D 77 ad (celC cI cR ad) okC 11 (MQ below (QI D (tysC cI cR) 77 ad (celC cI cR ad) okC (b2i r) σo) args s 0 0 (inA 77 ad)) 190 [(0, .ref (ad 0)), (1, .ref b), (2, .int z2), (4, .ref (ad (b4 + 33))), (5, .ref (ad (b5 + 33))), (8, .int r12)] [.int (b2i t0_190)] σj190 := by
        intro t0_190 σj190 h
        rw [ek190] at h
        refine J_istore (q := 192) C dL_built_190 rfl (by decide) rfl ?_
        refine jn_elim h (fun y13 ey13 h => ?_)
        refine J_iinc (v := y13) (q := 195) C dL_built_192 rfl 6 rfl (by rw [ey13]; rfl) (by decide) rfl ?_
        refine J_iconst (v := 0 ) (q := 196) C dL_built_195 rfl rfl ?_
        refine J_istore (q := 198) C dL_built_196 rfl (by decide) rfl ?_
        refine J_sub [3, 4, 5, 6, 7, 2, 1, 0] rfl ?_
        refine cl_L_built_198 hap C hX hbl hbA hb4 hb5 r σo  (fun v7_407 σv407 h => ?_) FU _ _ _ _ h
        · exact cs_L_built_407 hap C hX hbl hbA hb4 h
      refine jn_elim h (fun k189 ek189 h => ?_)
      have hk189 : ∀ (σj189 : Sg), k189 σj189 = some (r, σo) → Jd p l e (rmF 8 189) s m args below meth c D 77 ad (celC cI cR ad) okC 11 (MQ below (QI D (tysC cI cR) 77 ad (celC cI cR ad) okC (b2i r) σo) args s 0 0 (inA 77 ad)) 189 [(0, .ref (ad 0)), (1, .ref b), (2, .int z2), (4, .ref (ad (b4 + 33))), (5, .ref (ad (b5 + 33))), (8, .int r12)] [] σj189 := by
        intro σj189 h
        rw [ek189] at h
        refine J_iconst (v := 0 ) (q := 190) C dL_built_189 rfl rfl ?_
        exact hk190 _ _ h
      refine J_ifeq_b (tgt := 189) (q := 132) C dL_built_129 rfl (by decide) h (fun _ h => ?_) (fun _ h => ?_)
      · refine J_aload_n (q := 133) C dL_built_132 rfl rfl 2 rfl ?_
        refine J_iconst (v := 3 ) (q := 134) C dL_built_133 rfl rfl ?_
        refine J_iload (q := 136) C dL_built_134 rfl 0 rfl ?_
        refine J_bipush (v := 115) (q := 138) C dL_built_136 rfl rfl ?_
        obtain ⟨r34, σ34, ec34, h⟩ := bnd2_of h
        refine J_callIV (q := 141) (As := [.int (3 : Int32), .int r12, .int (115 : Int32)]) C (c_X5_put hap  ec34) ok_X5_put kM_L_9 (by decide) rfl rfl rfl rfl rfl rfl ⟨Nat.le_of_ble_eq_true rfl, Nat.le_of_ble_eq_true rfl⟩ (Nat.le_of_ble_eq_true rfl) dL_built_138 rfl ?_
        refine J_sipush (v := 1032) (q := 144) C dL_built_141 rfl rfl ?_
        refine J_icmp_ne (tgt := 189) (q := 147) C dL_built_144 rfl (by decide) h (fun _ h => ?_) (fun _ h => ?_)
        · refine J_aload_n (q := 148) C dL_built_147 rfl rfl 2 rfl ?_
          refine J_iconst (v := 3 ) (q := 149) C dL_built_148 rfl rfl ?_
          refine J_iload (q := 151) C dL_built_149 rfl 0 rfl ?_
          refine J_iconst (v := 1 ) (q := 152) C dL_built_151 rfl rfl ?_
          refine J_iadd (q := 153) C dL_built_152 rfl ?_
          refine J_bipush (v := 48) (q := 155) C dL_built_153 rfl rfl ?_
          refine J_aload (q := 157) C dL_built_155 rfl 6 rfl ?_
          refine J_iconst (v := 3 ) (q := 158) C dL_built_157 rfl rfl ?_
          refine JL_iald (q := 159) C hb5 h dL_built_158 rfl (fun h => ?_)
          refine J_iadd (q := 160) C dL_built_159 rfl ?_
          obtain ⟨r35, σ35, ec35, h⟩ := bnd2_of h
          refine J_callIV (q := 163) (As := [.int (3 : Int32), .int (r12 + (1 : Int32)), .int ((48 : Int32) + (gA σ34 b5 (3 : Int32).toNatClampNeg))]) C (c_X5_put hap  ec35) ok_X5_put kM_L_9 (by decide) rfl rfl rfl rfl rfl rfl ⟨Nat.le_of_ble_eq_true rfl, Nat.le_of_ble_eq_true rfl⟩ (Nat.le_of_ble_eq_true rfl) dL_built_160 rfl ?_
          refine J_sipush (v := 1032) (q := 166) C dL_built_163 rfl rfl ?_
          refine J_icmp_ne (tgt := 189) (q := 169) C dL_built_166 rfl (by decide) h (fun _ h => ?_) (fun _ h => ?_)
          · refine J_aload_n (q := 170) C dL_built_169 rfl rfl 2 rfl ?_
            refine J_iconst (v := 3 ) (q := 171) C dL_built_170 rfl rfl ?_
            refine J_iload (q := 173) C dL_built_171 rfl 0 rfl ?_
            refine J_iconst (v := 2 ) (q := 174) C dL_built_173 rfl rfl ?_
            refine J_iadd (q := 175) C dL_built_174 rfl ?_
            refine J_aload (q := 177) C dL_built_175 rfl 5 rfl ?_
            refine J_iconst (v := 0 ) (q := 178) C dL_built_177 rfl rfl ?_
            refine JL_iald (q := 179) C hb4 h dL_built_178 rfl (fun h => ?_)
            obtain ⟨r36, σ36, ec36, h⟩ := bnd2_of h
            refine J_callIS (q := 182) (As := [.ref (ad 0), .int (3 : Int32), .int (r12 + (2 : Int32)), .int (gA σ35 b4 (0 : Int32).toNatClampNeg)]) C (c_L_figures hap  ec36) ok_L_figures kM_L_28 rfl rfl rfl ⟨Nat.le_of_ble_eq_true rfl, Nat.le_of_ble_eq_true rfl⟩ (Nat.le_of_ble_eq_true rfl) dL_built_179 rfl ?_
            refine J_ifeq_b (tgt := 189) (q := 185) C dL_built_182 rfl (by decide) h (fun _ h => ?_) (fun _ h => ?_)
            · refine J_iconst (v := 1 ) (q := 186) C dL_built_185 rfl rfl ?_
              refine J_goto (tgt := 190) C dL_built_186 (by decide) ?_
              refine J_sub [2, 3, 4, 5, 6, 0] rfl ?_
              exact hk190 _ _ h
            · refine J_sub [2, 3, 4, 5, 6, 0] rfl ?_
              exact hk189 _ h
          · refine J_sub [2, 3, 4, 5, 6, 0] rfl ?_
            exact hk189 _ h
        · refine J_sub [2, 3, 4, 5, 6, 0] rfl ?_
          exact hk189 _ h
      · refine J_sub [2, 3, 4, 5, 6, 0] rfl ?_
        exact hk189 _ h
    refine J_icmp_ne (tgt := 113) (q := 109) C dL_built_106 rfl (by decide) h (fun _ h => ?_) (fun _ h => ?_)
    · refine J_iconst (v := 1 ) (q := 110) C dL_built_109 rfl rfl ?_
      refine J_goto (tgt := 114) C dL_built_110 (by decide) ?_
      refine J_sub [0, 1, 2, 4, 5, 6] rfl ?_
      exact hk114 _ h
    · refine J_iconst (v := 0 ) (q := 114) C dL_built_113 rfl rfl ?_
      refine J_sub [0, 1, 2, 4, 5, 6] rfl ?_
      exact hk114 _ h
  refine J_if_ne (tgt := 63) (q := 58) C dL_built_55 rfl (by decide) h (fun _ h => ?_) (fun _ h => ?_)
  · refine J_bipush (v := 100) (q := 60) C dL_built_58 rfl rfl ?_
    refine J_goto (tgt := 65) C dL_built_60 (by decide) ?_
    exact hk65 _ h
  · refine J_bipush (v := 20) (q := 65) C dL_built_63 rfl rfl ?_
    exact hk65 _ h
set_option maxHeartbeats 4000000 in
set_option maxRecDepth 100000 in
theorem c_L_built {l : Launch} {D : va_G} {cI cR : ClassId} {ad : Nat → Nat} {b : Nat} (hap : apN 77 ad) {L : Nat} {xs : Nat → Int32} {i2 : Int32} {i3 : Int32} {g4 : Nat} {g5 : Nat} {σ : Sg} {r : Bool} {σo : Sg} (hbA : ¬ inA 77 ad b) (ho4 : isLA g4) (ho5 : isLA g5) (h : f_L_built L xs i2 i3 g4 g5 σ = some (r, σo)) : MIs l D (tysC cI cR) 77 ad (celC cI cR ad) okC b L xs yL_built cL_built 11 .boolean 8 189 [.ref (ad 0), .ref b, .int i2, .int i3, .ref (ad (g4 + 33)), .ref (ad (g5 + 33))] σ (b2i r) σo := by
  unfold f_L_built at h
  refine entIs "WokenYearsLaw" hap (by decide +kernel) rfl (Nat.le_of_ble_eq_true rfl) (fun p e s m args below meth c C hX hbl => ?_)
  refine J_sub (lv' := [(0, .ref (ad 0)), (1, .ref b), (2, .int i2), (3, .int i3), (4, .ref (ad (g4 + 33))), (5, .ref (ad (g5 + 33)))]) [0, 1, 2, 3, 4, 5] rfl ?_
  refine J_aload_n (q := 1) C dL_built_0 rfl rfl 1 rfl ?_
  refine J_iload_n (q := 2) C dL_built_1 rfl rfl 2 rfl ?_
  obtain ⟨r1, ec1, h⟩ := bnd_of h
  refine JS_callIS (q := 5) (As := [.ref b, .int i2]) C hX hbl hbA (c_L_cell hap hbA ec1) ok_L_cell kM_L_15 rfl rfl rfl ⟨Nat.le_of_ble_eq_true rfl, Nat.le_of_ble_eq_true rfl⟩ (Nat.le_of_ble_eq_true rfl) dL_built_2 rfl ?_
  refine J_istore (q := 7) C dL_built_5 rfl (by decide) rfl ?_
  refine J_iconst (v := 0 ) (q := 8) C dL_built_7 rfl rfl ?_
  refine J_istore (q := 10) C dL_built_8 rfl (by decide) rfl ?_
  refine J_sub [2, 3, 4, 5, 6, 7, 1, 0] rfl ?_
  refine cl_L_built_10 hap C hX hbl hbA ho4 ho5 r σo  (fun σv41 h => ?_) FU _ _ h
  · exact cs_L_built_41 hap C hX hbl hbA ho4 ho5 h
set_option maxHeartbeats 4000000 in
set_option maxRecDepth 100000 in
theorem c_L_has {l : Launch} {D : va_G} {cI cR : ClassId} {ad : Nat → Nat} (hap : apN 77 ad) {i0 : Int32} {i1 : Int32} {σ : Sg} {r : Bool}  (h : f_L_has i0 i1 = some r) : MI l D (tysC cI cR) 77 ad (celC cI cR ad) okC yL_has cL_has 2 .boolean 1 30 [.int i0, .int i1] σ (b2i r) σ := by
  unfold f_L_has at h
  refine entI "WokenYearsLaw" hap (by decide +kernel) rfl (Nat.le_of_ble_eq_true rfl) (fun p e s m args below meth c C => ?_)
  refine J_sub (lv' := [(0, .int i0), (1, .int i1)]) [0, 1] rfl ?_
  refine J_iload_n (q := 1) C dL_has_0 rfl rfl 0 rfl ?_
  refine J_iload_n (q := 2) C dL_has_1 rfl rfl 1 rfl ?_
  refine J_ishr (q := 3) C dL_has_2 rfl ?_
  refine J_iconst (v := 1 ) (q := 4) C dL_has_3 rfl rfl ?_
  refine J_iand (q := 5) C dL_has_4 rfl ?_
  refine J_iconst (v := 1 ) (q := 6) C dL_has_5 rfl rfl ?_
  refine J_icmp_ne (tgt := 13) (q := 9) C dL_has_6 rfl (by decide) h (fun _ h => ?_) (fun _ h => ?_)
  · refine J_iconst (v := 1 ) (q := 10) C dL_has_9 rfl rfl ?_
    refine J_goto (tgt := 14) C dL_has_10 (by decide) ?_
    obtain rfl := Option.some.inj h
    exact J_zret (b := true) C dL_has_14
  · refine J_iconst (v := 0 ) (q := 14) C dL_has_13 rfl rfl ?_
    obtain rfl := Option.some.inj h
    exact J_zret (b := false) C dL_has_14
set_option maxHeartbeats 4000000 in
set_option maxRecDepth 100000 in
theorem cl_L_bits_4 {p : Program} {l : Launch} {e : Env} {s : State} {m : MethodId} {args : Array Value} {below : List Frame} {meth : Method} {c : Code} {D : va_G} {cI cR : ClassId} {ad : Nat → Nat} (hap : apN 77 ad) (C : Cx p s m args meth c cL_bits 3 "WokenYearsLaw" D (tysC cI cR) 77 ad (some .int)) {a0 : Int32} {k24 : Int32 → Option Int32} {σ : Sg} (r : Int32)  (hk24 : ∀ (u1 : Int32), k24 u1 = some r → Jd p l e (rmF 1 30) s m args below meth c D 77 ad (celC cI cR ad) okC 3 (MQ below (QI D (tysC cI cR) 77 ad (celC cI cR ad) okC r σ) args s 0 0 (inA 77 ad)) 24 [(1, .int u1)] [] σ) : ∀ (n : Nat) (x1 : Int32) (x2 : Int32), l_L_bits_4 a0 k24 n x1 x2 = some r → Jd p l e (rmF 1 30) s m args below meth c D 77 ad (celC cI cR ad) okC 3 (MQ below (QI D (tysC cI cR) 77 ad (celC cI cR ad) okC r σ) args s 0 0 (inA 77 ad)) 4 [(0, .int a0), (1, .int x1), (2, .int x2)] [] σ := by
  intro n
  induction n with
  | zero => intro x1 x2 h; cases h
  | succ n ih =>
    intro x1 x2 h
    unfold l_L_bits_4 at h
    refine J_iload_n (q := 5) C dL_bits_4 rfl rfl 2 rfl ?_
    refine J_bipush (v := 6) (q := 7) C dL_bits_5 rfl rfl ?_
    refine J_icmp_ge (tgt := 24) (q := 10) C dL_bits_7 rfl (by decide) h (fun _ h => ?_) (fun _ h => ?_)
    · refine J_sub [1] rfl ?_
      exact hk24 _ h
    · refine J_iload_n (q := 11) C dL_bits_10 rfl rfl 1 rfl ?_
      refine J_iload_n (q := 12) C dL_bits_11 rfl rfl 0 rfl ?_
      refine J_iload_n (q := 13) C dL_bits_12 rfl rfl 2 rfl ?_
      refine J_ishr (q := 14) C dL_bits_13 rfl ?_
      refine J_iconst (v := 1 ) (q := 15) C dL_bits_14 rfl rfl ?_
      refine J_iand (q := 16) C dL_bits_15 rfl ?_
      refine J_iadd (q := 17) C dL_bits_16 rfl ?_
      refine J_nmi h (fun y1 ey1 h => ?_)
      refine J_istore_n (q := 18) C dL_bits_17 rfl rfl (by decide) rfl ?_
      refine jn_elim h (fun y2 ey2 h => ?_)
      refine J_iinc (v := y2) (q := 21) C dL_bits_18 rfl 2 rfl (by rw [ey2]; rfl) (by decide) rfl ?_
      refine J_goto (tgt := 4) C dL_bits_21 (by decide) ?_
      refine J_sub [2, 1, 0] rfl ?_
      exact ih _ _ h
set_option maxHeartbeats 4000000 in
set_option maxRecDepth 100000 in
theorem c_L_bits {l : Launch} {D : va_G} {cI cR : ClassId} {ad : Nat → Nat} (hap : apN 77 ad) {i0 : Int32} {σ : Sg} {r : Int32}  (h : f_L_bits i0 = some r) : MI l D (tysC cI cR) 77 ad (celC cI cR ad) okC yL_bits cL_bits 3 .int 1 30 [.int i0] σ r σ := by
  unfold f_L_bits at h
  refine entI "WokenYearsLaw" hap (by decide +kernel) rfl (Nat.le_of_ble_eq_true rfl) (fun p e s m args below meth c C => ?_)
  refine J_sub (lv' := [(0, .int i0)]) [0] rfl ?_
  refine J_iconst (v := 0 ) (q := 1) C dL_bits_0 rfl rfl ?_
  refine J_istore_n (q := 2) C dL_bits_1 rfl rfl (by decide) rfl ?_
  refine J_iconst (v := 0 ) (q := 3) C dL_bits_2 rfl rfl ?_
  refine J_istore_n (q := 4) C dL_bits_3 rfl rfl (by decide) rfl ?_
  refine J_sub [2, 1, 0] rfl ?_
  refine cl_L_bits_4 hap C r  (fun v1_24 h => ?_) FU _ _ h
  · refine J_iload_n (q := 25) C dL_bits_24 rfl rfl 0 rfl ?_
    obtain rfl := Option.some.inj h
    exact J_iret C dL_bits_25
set_option maxHeartbeats 4000000 in
set_option maxRecDepth 100000 in
theorem cl_L_copy_2 {p : Program} {l : Launch} {e : Env} {s : State} {m : MethodId} {args : Array Value} {below : List Frame} {meth : Method} {c : Code} {D : va_G} {cI cR : ClassId} {ad : Nat → Nat} (hap : apN 77 ad) (C : Cx p s m args meth c cL_copy 3 "WokenYearsLaw" D (tysC cI cR) 77 ad (none)) {b0 : Nat} {b1 : Nat} (hb0 : isLA b0) (hb1 : isLA b1) {k20 : Sg → Option Sg} (σo : Sg)  (hk20 : ∀ (σ1 : Sg), k20 σ1 = some σo → Jd p l e (rmF 1 30) s m args below meth c D 77 ad (celC cI cR ad) okC 3 (MQ below (QV D (tysC cI cR) 77 ad (celC cI cR ad) okC σo) args s 0 0 (inA 77 ad)) 20 [] [] σ1) : ∀ (n : Nat) (x2 : Int32) (σx : Sg), l_L_copy_2 b0 b1 k20 n x2 σx = some σo → Jd p l e (rmF 1 30) s m args below meth c D 77 ad (celC cI cR ad) okC 3 (MQ below (QV D (tysC cI cR) 77 ad (celC cI cR ad) okC σo) args s 0 0 (inA 77 ad)) 2 [(0, .ref (ad (b0 + 33))), (1, .ref (ad (b1 + 33))), (2, .int x2)] [] σx := by
  intro n
  induction n with
  | zero => intro x2 σx h; cases h
  | succ n ih =>
    intro x2 σx h
    unfold l_L_copy_2 at h
    refine J_iload_n (q := 3) C dL_copy_2 rfl rfl 2 rfl ?_
    refine J_bipush (v := 23) (q := 5) C dL_copy_3 rfl rfl ?_
    refine J_icmp_ge (tgt := 20) (q := 8) C dL_copy_5 rfl (by decide) h (fun _ h => ?_) (fun _ h => ?_)
    · refine J_sub [] rfl ?_
      exact hk20 _ h
    · refine J_aload_n (q := 9) C dL_copy_8 rfl rfl 1 rfl ?_
      refine J_iload_n (q := 10) C dL_copy_9 rfl rfl 2 rfl ?_
      refine J_aload_n (q := 11) C dL_copy_10 rfl rfl 0 rfl ?_
      refine J_iload_n (q := 12) C dL_copy_11 rfl rfl 2 rfl ?_
      refine JL_iald (q := 13) C hb0 h dL_copy_12 rfl (fun h => ?_)
      refine JL_iast (q := 14) C hb1 h dL_copy_13 rfl (fun h => ?_)
      refine jn_elim h (fun σ1 eσ1 h => ?_)
      rw [← eσ1]
      refine jn_elim h (fun y2 ey2 h => ?_)
      refine J_iinc (v := y2) (q := 17) C dL_copy_14 rfl 2 rfl (by rw [ey2]; rfl) (by decide) rfl ?_
      refine J_goto (tgt := 2) C dL_copy_17 (by decide) ?_
      refine J_sub [1, 2, 0] rfl ?_
      exact ih _ _ h
set_option maxHeartbeats 4000000 in
set_option maxRecDepth 100000 in
theorem c_L_copy {l : Launch} {D : va_G} {cI cR : ClassId} {ad : Nat → Nat} (hap : apN 77 ad) {g0 : Nat} {g1 : Nat} {σ : Sg} {σo : Sg} (ho0 : isLA g0) (ho1 : isLA g1) (h : f_L_copy g0 g1 σ = some σo) : MV l D (tysC cI cR) 77 ad (celC cI cR ad) okC yL_copy cL_copy 3 1 30 [.ref (ad (g0 + 33)), .ref (ad (g1 + 33))] σ σo := by
  unfold f_L_copy at h
  refine entV "WokenYearsLaw" hap (by decide +kernel) rfl (Nat.le_of_ble_eq_true rfl) (fun p e s m args below meth c C => ?_)
  refine J_sub (lv' := [(0, .ref (ad (g0 + 33))), (1, .ref (ad (g1 + 33)))]) [0, 1] rfl ?_
  refine J_iconst (v := 0 ) (q := 1) C dL_copy_0 rfl rfl ?_
  refine J_istore_n (q := 2) C dL_copy_1 rfl rfl (by decide) rfl ?_
  refine J_sub [1, 2, 0] rfl ?_
  refine cl_L_copy_2 hap C ho0 ho1 σo  (fun σv20 h => ?_) FU _ _ h
  · obtain rfl := Option.some.inj h
    exact J_vret C dL_copy_20
set_option maxHeartbeats 4000000 in
set_option maxRecDepth 100000 in
theorem c_L_takes {l : Launch} {D : va_G} {cI cR : ClassId} {ad : Nat → Nat} (hap : apN 77 ad) {i0 : Int32} {i1 : Int32} {i2 : Int32} {σ : Sg} {r : Int32}  (h : f_L_takes i0 i1 i2 = some r) : MI l D (tysC cI cR) 77 ad (celC cI cR ad) okC yL_takes cL_takes 5 .int 1 30 [.int i0, .int i1, .int i2] σ r σ := by
  unfold f_L_takes at h
  refine entI "WokenYearsLaw" hap (by decide +kernel) rfl (Nat.le_of_ble_eq_true rfl) (fun p e s m args below meth c C => ?_)
  refine J_sub (lv' := [(0, .int i0), (1, .int i1), (2, .int i2)]) [0, 1, 2] rfl ?_
  refine J_iload_n (q := 1) C dL_takes_0 rfl rfl 0 rfl ?_
  refine J_iconst (v := 3 ) (q := 2) C dL_takes_1 rfl rfl ?_
  refine jn_elim h (fun k28 ek28 h => ?_)
  have hk28 : ∀ (t0_28 : Bool), k28 t0_28 = some r → Jd p l e (rmF 1 30) s m args below meth c D 77 ad (celC cI cR ad) okC 5 (MQ below (QI D (tysC cI cR) 77 ad (celC cI cR ad) okC r σ) args s 0 0 (inA 77 ad)) 28 [(0, .int i0), (1, .int i1)] [.int (b2i t0_28)] σ := by
    intro t0_28 h
    rw [ek28] at h
    refine J_istore_n (q := 29) C dL_takes_28 rfl rfl (by decide) rfl ?_
    refine J_iload_n (q := 30) C dL_takes_29 rfl rfl 2 rfl ?_
    refine J_bipush (v := 49) (q := 32) C dL_takes_30 rfl rfl ?_
    refine jn_elim h (fun k40 ek40 h => ?_)
    have hk40 : ∀ (t0_40 : Int32), k40 t0_40 = some r → Jd p l e (rmF 1 30) s m args below meth c D 77 ad (celC cI cR ad) okC 5 (MQ below (QI D (tysC cI cR) 77 ad (celC cI cR ad) okC r σ) args s 0 0 (inA 77 ad)) 40 [(0, .int i0), (3, .int (b2i t0_28))] [.int t0_40] σ := by
      intro t0_40 h
      rw [ek40] at h
      refine J_istore (q := 42) C dL_takes_40 rfl (by decide) rfl ?_
      refine J_iload_n (q := 43) C dL_takes_42 rfl rfl 2 rfl ?_
      refine J_ifeq_b (tgt := 50) (q := 46) C dL_takes_43 rfl (by decide) h (fun _ h => ?_) (fun _ h => ?_)
      · refine J_iconst (v := 0 ) (q := 47) C dL_takes_46 rfl rfl ?_
        refine J_goto (tgt := 80) C dL_takes_47 (by decide) ?_
        obtain rfl := Option.some.inj h
        exact J_iret C dL_takes_80
      · refine J_iload_n (q := 51) C dL_takes_50 rfl rfl 1 rfl ?_
        refine J_iconst (v := 1 ) (q := 52) C dL_takes_51 rfl rfl ?_
        refine J_icmp_ne (tgt := 63) (q := 55) C dL_takes_52 rfl (by decide) h (fun _ h => ?_) (fun _ h => ?_)
        · refine J_iload (q := 57) C dL_takes_55 rfl 0 rfl ?_
          refine J_iload (q := 59) C dL_takes_57 rfl 0 rfl ?_
          refine J_iadd (q := 60) C dL_takes_59 rfl ?_
          refine J_goto (tgt := 80) C dL_takes_60 (by decide) ?_
          obtain rfl := Option.some.inj h
          exact J_iret C dL_takes_80
        · refine J_iload_n (q := 64) C dL_takes_63 rfl rfl 1 rfl ?_
          refine J_iconst (v := 4 ) (q := 65) C dL_takes_64 rfl rfl ?_
          refine J_icmp_ne (tgt := 78) (q := 68) C dL_takes_65 rfl (by decide) h (fun _ h => ?_) (fun _ h => ?_)
          · refine J_iload (q := 70) C dL_takes_68 rfl 0 rfl ?_
            refine J_iload (q := 72) C dL_takes_70 rfl 0 rfl ?_
            refine J_iadd (q := 73) C dL_takes_72 rfl ?_
            refine J_iconst (v := 1 ) (q := 74) C dL_takes_73 rfl rfl ?_
            refine J_iadd (q := 75) C dL_takes_74 rfl ?_
            refine J_goto (tgt := 80) C dL_takes_75 (by decide) ?_
            obtain rfl := Option.some.inj h
            exact J_iret C dL_takes_80
          · refine J_iload (q := 80) C dL_takes_78 rfl 0 rfl ?_
            obtain rfl := Option.some.inj h
            exact J_iret C dL_takes_80
    refine J_icmp_le (tgt := 39) (q := 35) C dL_takes_32 rfl (by decide) h (fun _ h => ?_) (fun _ h => ?_)
    · refine J_iconst (v := 2 ) (q := 40) C dL_takes_39 rfl rfl ?_
      refine J_sub [1, 0] rfl ?_
      exact hk40 _ h
    · refine J_iconst (v := 1 ) (q := 36) C dL_takes_35 rfl rfl ?_
      refine J_goto (tgt := 40) C dL_takes_36 (by decide) ?_
      refine J_sub [1, 0] rfl ?_
      exact hk40 _ h
  refine jn_elim h (fun k23 ek23 h => ?_)
  have hk23 : k23 = some r → Jd p l e (rmF 1 30) s m args below meth c D 77 ad (celC cI cR ad) okC 5 (MQ below (QI D (tysC cI cR) 77 ad (celC cI cR ad) okC r σ) args s 0 0 (inA 77 ad)) 23 [(0, .int i0), (1, .int i1)] [] σ := by
    intro  h
    rw [ek23] at h
    refine J_iconst (v := 1 ) (q := 24) C dL_takes_23 rfl rfl ?_
    refine J_goto (tgt := 28) C dL_takes_24 (by decide) ?_
    exact hk28 _ h
  refine J_icmp_eq (tgt := 23) (q := 5) C dL_takes_2 rfl (by decide) h (fun _ h => ?_) (fun _ h => ?_)
  · refine J_sub [0, 1] rfl ?_
    exact hk23 h
  · refine J_iload_n (q := 6) C dL_takes_5 rfl rfl 2 rfl ?_
    refine J_iconst (v := 1 ) (q := 7) C dL_takes_6 rfl rfl ?_
    refine jn_elim h (fun k27 ek27 h => ?_)
    have hk27 : k27 = some r → Jd p l e (rmF 1 30) s m args below meth c D 77 ad (celC cI cR ad) okC 5 (MQ below (QI D (tysC cI cR) 77 ad (celC cI cR ad) okC r σ) args s 0 0 (inA 77 ad)) 27 [(0, .int i0), (1, .int i1)] [] σ := by
      intro  h
      rw [ek27] at h
      refine J_iconst (v := 0 ) (q := 28) C dL_takes_27 rfl rfl ?_
      exact hk28 _ h
    refine J_icmp_ne (tgt := 27) (q := 10) C dL_takes_7 rfl (by decide) h (fun _ h => ?_) (fun _ h => ?_)
    · refine J_iload_n (q := 11) C dL_takes_10 rfl rfl 1 rfl ?_
      refine J_bipush (v := 10) (q := 13) C dL_takes_11 rfl rfl ?_
      refine J_idiv (q := 14) C dL_takes_13 rfl (by decide) ?_
      refine J_iconst (v := 4 ) (q := 15) C dL_takes_14 rfl rfl ?_
      refine J_icmp_ne (tgt := 27) (q := 18) C dL_takes_15 rfl (by decide) h (fun _ h => ?_) (fun _ h => ?_)
      · refine J_iload_n (q := 19) C dL_takes_18 rfl rfl 0 rfl ?_
        refine J_iconst (v := 5 ) (q := 20) C dL_takes_19 rfl rfl ?_
        refine J_icmp_eq (tgt := 27) (q := 23) C dL_takes_20 rfl (by decide) h (fun _ h => ?_) (fun _ h => ?_)
        · refine J_sub [0, 1] rfl ?_
          exact hk27 h
        · refine J_sub [0, 1] rfl ?_
          exact hk23 h
      · refine J_sub [0, 1] rfl ?_
        exact hk27 h
    · refine J_sub [0, 1] rfl ?_
      exact hk27 h
set_option maxHeartbeats 4000000 in
set_option maxRecDepth 100000 in
theorem c_L_pays {l : Launch} {D : va_G} {cI cR : ClassId} {ad : Nat → Nat} (hap : apN 77 ad) {i0 : Int32} {σ : Sg} {r : Int32}  (h : f_L_pays i0 = some r) : MI l D (tysC cI cR) 77 ad (celC cI cR ad) okC yL_pays cL_pays 1 .int 1 30 [.int i0] σ r σ := by
  unfold f_L_pays at h
  refine entI "WokenYearsLaw" hap (by decide +kernel) rfl (Nat.le_of_ble_eq_true rfl) (fun p e s m args below meth c C => ?_)
  refine J_sub (lv' := [(0, .int i0)]) [0] rfl ?_
  refine J_iload_n (q := 1) C dL_pays_0 rfl rfl 0 rfl ?_
  refine J_iconst (v := 3 ) (q := 2) C dL_pays_1 rfl rfl ?_
  refine J_icmp_ne (tgt := 9) (q := 5) C dL_pays_2 rfl (by decide) h (fun _ h => ?_) (fun _ h => ?_)
  · refine J_iconst (v := 0 ) (q := 6) C dL_pays_5 rfl rfl ?_
    refine J_goto (tgt := 28) C dL_pays_6 (by decide) ?_
    obtain rfl := Option.some.inj h
    exact J_iret C dL_pays_28
  · refine J_iload_n (q := 10) C dL_pays_9 rfl rfl 0 rfl ?_
    refine J_iconst (v := 5 ) (q := 11) C dL_pays_10 rfl rfl ?_
    refine J_icmp_ne (tgt := 18) (q := 14) C dL_pays_11 rfl (by decide) h (fun _ h => ?_) (fun _ h => ?_)
    · refine J_iconst (v := 5 ) (q := 15) C dL_pays_14 rfl rfl ?_
      refine J_goto (tgt := 28) C dL_pays_15 (by decide) ?_
      obtain rfl := Option.some.inj h
      exact J_iret C dL_pays_28
    · refine J_iload_n (q := 19) C dL_pays_18 rfl rfl 0 rfl ?_
      refine J_iconst (v := 2 ) (q := 20) C dL_pays_19 rfl rfl ?_
      refine J_icmp_ne (tgt := 27) (q := 23) C dL_pays_20 rfl (by decide) h (fun _ h => ?_) (fun _ h => ?_)
      · refine J_iconst (v := 2 ) (q := 24) C dL_pays_23 rfl rfl ?_
        refine J_goto (tgt := 28) C dL_pays_24 (by decide) ?_
        obtain rfl := Option.some.inj h
        exact J_iret C dL_pays_28
      · refine J_iconst (v := 1 ) (q := 28) C dL_pays_27 rfl rfl ?_
        obtain rfl := Option.some.inj h
        exact J_iret C dL_pays_28
set_option maxHeartbeats 4000000 in
set_option maxRecDepth 100000 in
theorem c_L_more {l : Launch} {D : va_G} {cI cR : ClassId} {ad : Nat → Nat} (hap : apN 77 ad) {g0 : Nat} {g1 : Nat} {i2 : Int32} {σ : Sg} {r : Int32} (ho0 : isLA g0) (ho1 : isLA g1) (h : f_L_more g0 g1 i2 σ = some r) : MI l D (tysC cI cR) 77 ad (celC cI cR ad) okC yL_more cL_more 4 .int 2 54 [.ref (ad (g0 + 33)), .ref (ad (g1 + 33)), .int i2] σ r σ := by
  unfold f_L_more at h
  refine entI "WokenYearsLaw" hap (by decide +kernel) rfl (Nat.le_of_ble_eq_true rfl) (fun p e s m args below meth c C => ?_)
  refine J_sub (lv' := [(0, .ref (ad (g0 + 33))), (1, .ref (ad (g1 + 33))), (2, .int i2)]) [0, 1, 2] rfl ?_
  refine J_aload_n (q := 1) C dL_more_0 rfl rfl 0 rfl ?_
  refine J_iconst (v := 2 ) (q := 2) C dL_more_1 rfl rfl ?_
  refine J_iload_n (q := 3) C dL_more_2 rfl rfl 2 rfl ?_
  refine J_iadd (q := 4) C dL_more_3 rfl ?_
  refine JL_iald (q := 5) C ho0 h dL_more_4 rfl (fun h => ?_)
  refine J_aload_n (q := 6) C dL_more_5 rfl rfl 1 rfl ?_
  refine J_iconst (v := 5 ) (q := 7) C dL_more_6 rfl rfl ?_
  refine J_iload_n (q := 8) C dL_more_7 rfl rfl 2 rfl ?_
  refine J_iadd (q := 9) C dL_more_8 rfl ?_
  refine JL_iald (q := 10) C ho1 h dL_more_9 rfl (fun h => ?_)
  refine J_aload_n (q := 11) C dL_more_10 rfl rfl 1 rfl ?_
  refine J_iconst (v := 3 ) (q := 12) C dL_more_11 rfl rfl ?_
  refine JL_iald (q := 13) C ho1 h dL_more_12 rfl (fun h => ?_)
  obtain ⟨r1, ec1, h⟩ := bnd_of h
  refine J_callIS (q := 16) (As := [.int (gA σ g0 ((2 : Int32) + i2).toNatClampNeg), .int (gA σ g1 ((5 : Int32) + i2).toNatClampNeg), .int (gA σ g1 (3 : Int32).toNatClampNeg)]) C (c_L_takes hap  ec1) ok_L_takes kM_L_42 rfl rfl rfl ⟨Nat.le_of_ble_eq_true rfl, Nat.le_of_ble_eq_true rfl⟩ (Nat.le_of_ble_eq_true rfl) dL_more_13 rfl ?_
  refine J_istore_n (q := 17) C dL_more_16 rfl rfl (by decide) rfl ?_
  refine J_aload_n (q := 18) C dL_more_17 rfl rfl 2 rfl ?_
  refine J_bipush (v := 17) (q := 20) C dL_more_18 rfl rfl ?_
  refine J_iload_n (q := 21) C dL_more_20 rfl rfl 3 rfl ?_
  refine J_iadd (q := 22) C dL_more_21 rfl ?_
  refine JL_iald (q := 23) C ho1 h dL_more_22 rfl (fun h => ?_)
  refine J_if_lt (tgt := 30) (q := 26) C dL_more_23 rfl (by decide) h (fun _ h => ?_) (fun _ h => ?_)
  · refine J_iload_n (q := 31) C dL_more_30 rfl rfl 0 rfl ?_
    refine J_if_ne (tgt := 39) (q := 34) C dL_more_31 rfl (by decide) h (fun _ h => ?_) (fun _ h => ?_)
    · refine J_bipush (v := -9) (q := 36) C dL_more_34 rfl rfl ?_
      refine J_goto (tgt := 63) C dL_more_36 (by decide) ?_
      obtain rfl := Option.some.inj h
      exact J_iret C dL_more_63
    · refine J_iload_n (q := 40) C dL_more_39 rfl rfl 0 rfl ?_
      refine J_aload_n (q := 41) C dL_more_40 rfl rfl 2 rfl ?_
      refine J_bipush (v := 11) (q := 43) C dL_more_41 rfl rfl ?_
      refine J_iload_n (q := 44) C dL_more_43 rfl rfl 3 rfl ?_
      refine J_iadd (q := 45) C dL_more_44 rfl ?_
      refine JL_iald (q := 46) C ho1 h dL_more_45 rfl (fun h => ?_)
      refine J_isub (q := 47) C dL_more_46 rfl ?_
      refine J_iconst (v := 1 ) (q := 48) C dL_more_47 rfl rfl ?_
      refine J_icmp_ge (tgt := 55) (q := 51) C dL_more_48 rfl (by decide) h (fun _ h => ?_) (fun _ h => ?_)
      · refine J_iload_n (q := 56) C dL_more_55 rfl rfl 0 rfl ?_
        refine J_aload_n (q := 57) C dL_more_56 rfl rfl 2 rfl ?_
        refine J_bipush (v := 11) (q := 59) C dL_more_57 rfl rfl ?_
        refine J_iload_n (q := 60) C dL_more_59 rfl rfl 3 rfl ?_
        refine J_iadd (q := 61) C dL_more_60 rfl ?_
        refine JL_iald (q := 62) C ho1 h dL_more_61 rfl (fun h => ?_)
        refine J_isub (q := 63) C dL_more_62 rfl ?_
        obtain rfl := Option.some.inj h
        exact J_iret C dL_more_63
      · refine J_iconst (v := 1 ) (q := 52) C dL_more_51 rfl rfl ?_
        refine J_goto (tgt := 63) C dL_more_52 (by decide) ?_
        obtain rfl := Option.some.inj h
        exact J_iret C dL_more_63
  · refine J_iconst (v := 0 ) (q := 27) C dL_more_26 rfl rfl ?_
    refine J_goto (tgt := 63) C dL_more_27 (by decide) ?_
    obtain rfl := Option.some.inj h
    exact J_iret C dL_more_63
set_option maxHeartbeats 4000000 in
set_option maxRecDepth 100000 in
theorem cl_L_awake_4 {p : Program} {l : Launch} {e : Env} {s : State} {m : MethodId} {args : Array Value} {below : List Frame} {meth : Method} {c : Code} {D : va_G} {cI cR : ClassId} {ad : Nat → Nat} (hap : apN 77 ad) (C : Cx p s m args meth c cL_awake 3 "WokenYearsLaw" D (tysC cI cR) 77 ad (some .int)) {b0 : Nat} (hb0 : isLA b0) {k35 : Int32 → Option Int32} {σ : Sg} (r : Int32)  (hk35 : ∀ (u1 : Int32), k35 u1 = some r → Jd p l e (rmF 1 30) s m args below meth c D 77 ad (celC cI cR ad) okC 3 (MQ below (QI D (tysC cI cR) 77 ad (celC cI cR ad) okC r σ) args s 0 0 (inA 77 ad)) 35 [(1, .int u1)] [] σ) : ∀ (n : Nat) (x1 : Int32) (x2 : Int32), l_L_awake_4 b0 σ k35 n x1 x2 = some r → Jd p l e (rmF 1 30) s m args below meth c D 77 ad (celC cI cR ad) okC 3 (MQ below (QI D (tysC cI cR) 77 ad (celC cI cR ad) okC r σ) args s 0 0 (inA 77 ad)) 4 [(0, .ref (ad (b0 + 33))), (1, .int x1), (2, .int x2)] [] σ := by
  intro n
  induction n with
  | zero => intro x1 x2 h; cases h
  | succ n ih =>
    intro x1 x2 h
    unfold l_L_awake_4 at h
    refine J_iload_n (q := 5) C dL_awake_4 rfl rfl 2 rfl ?_
    refine J_bipush (v := 6) (q := 7) C dL_awake_5 rfl rfl ?_
    refine J_icmp_ge (tgt := 35) (q := 10) C dL_awake_7 rfl (by decide) h (fun _ h => ?_) (fun _ h => ?_)
    · refine J_sub [1] rfl ?_
      exact hk35 _ h
    · refine J_iload_n (q := 11) C dL_awake_10 rfl rfl 1 rfl ?_
      refine J_aload_n (q := 12) C dL_awake_11 rfl rfl 0 rfl ?_
      refine J_bipush (v := 17) (q := 14) C dL_awake_12 rfl rfl ?_
      refine J_iload_n (q := 15) C dL_awake_14 rfl rfl 2 rfl ?_
      refine J_iadd (q := 16) C dL_awake_15 rfl ?_
      refine JL_iald (q := 17) C hb0 h dL_awake_16 rfl (fun h => ?_)
      refine jn_elim h (fun k27 ek27 h => ?_)
      have hk27 : ∀ (t0_27 : Int32), k27 t0_27 = some r → Jd p l e (rmF 1 30) s m args below meth c D 77 ad (celC cI cR ad) okC 3 (MQ below (QI D (tysC cI cR) 77 ad (celC cI cR ad) okC r σ) args s 0 0 (inA 77 ad)) 27 [(0, .ref (ad (b0 + 33))), (2, .int x2)] [.int t0_27, .int x1] σ := by
        intro t0_27 h
        rw [ek27] at h
        refine J_ior (q := 28) C dL_awake_27 rfl ?_
        refine J_nmi h (fun y1 ey1 h => ?_)
        refine J_istore_n (q := 29) C dL_awake_28 rfl rfl (by decide) rfl ?_
        refine jn_elim h (fun y2 ey2 h => ?_)
        refine J_iinc (v := y2) (q := 32) C dL_awake_29 rfl 2 rfl (by rw [ey2]; rfl) (by decide) rfl ?_
        refine J_goto (tgt := 4) C dL_awake_32 (by decide) ?_
        refine J_sub [2, 1, 0] rfl ?_
        exact ih _ _ h
      refine J_if_lt (tgt := 26) (q := 20) C dL_awake_17 rfl (by decide) h (fun _ h => ?_) (fun _ h => ?_)
      · refine J_iconst (v := 0 ) (q := 27) C dL_awake_26 rfl rfl ?_
        refine J_sub [0, 2] rfl ?_
        exact hk27 _ h
      · refine J_iconst (v := 1 ) (q := 21) C dL_awake_20 rfl rfl ?_
        refine J_iload_n (q := 22) C dL_awake_21 rfl rfl 2 rfl ?_
        refine J_ishl (q := 23) C dL_awake_22 rfl ?_
        refine J_goto (tgt := 27) C dL_awake_23 (by decide) ?_
        refine J_sub [0, 2] rfl ?_
        exact hk27 _ h
set_option maxHeartbeats 4000000 in
set_option maxRecDepth 100000 in
theorem c_L_awake {l : Launch} {D : va_G} {cI cR : ClassId} {ad : Nat → Nat} (hap : apN 77 ad) {g0 : Nat} {σ : Sg} {r : Int32} (ho0 : isLA g0) (h : f_L_awake g0 σ = some r) : MI l D (tysC cI cR) 77 ad (celC cI cR ad) okC yL_awake cL_awake 3 .int 1 30 [.ref (ad (g0 + 33))] σ r σ := by
  unfold f_L_awake at h
  refine entI "WokenYearsLaw" hap (by decide +kernel) rfl (Nat.le_of_ble_eq_true rfl) (fun p e s m args below meth c C => ?_)
  refine J_sub (lv' := [(0, .ref (ad (g0 + 33)))]) [0] rfl ?_
  refine J_iconst (v := 0 ) (q := 1) C dL_awake_0 rfl rfl ?_
  refine J_istore_n (q := 2) C dL_awake_1 rfl rfl (by decide) rfl ?_
  refine J_iconst (v := 0 ) (q := 3) C dL_awake_2 rfl rfl ?_
  refine J_istore_n (q := 4) C dL_awake_3 rfl rfl (by decide) rfl ?_
  refine J_sub [2, 1, 0] rfl ?_
  refine cl_L_awake_4 hap C ho0 r  (fun v1_35 h => ?_) FU _ _ h
  · refine J_iload_n (q := 36) C dL_awake_35 rfl rfl 0 rfl ?_
    obtain rfl := Option.some.inj h
    exact J_iret C dL_awake_36
set_option maxHeartbeats 4000000 in
set_option maxRecDepth 100000 in
theorem c_L_far {l : Launch} {D : va_G} {cI cR : ClassId} {ad : Nat → Nat} (hap : apN 77 ad) {i0 : Int32} {i1 : Int32} {σ : Sg} {r : Int32}  (h : f_L_far i0 i1 = some r) : MI l D (tysC cI cR) 77 ad (celC cI cR ad) okC yL_far cL_far 2 .int 1 30 [.int i0, .int i1] σ r σ := by
  unfold f_L_far at h
  refine entI "WokenYearsLaw" hap (by decide +kernel) rfl (Nat.le_of_ble_eq_true rfl) (fun p e s m args below meth c C => ?_)
  refine J_sub (lv' := [(0, .int i0), (1, .int i1)]) [0, 1] rfl ?_
  refine J_iload_n (q := 1) C dL_far_0 rfl rfl 0 rfl ?_
  refine J_iload_n (q := 2) C dL_far_1 rfl rfl 1 rfl ?_
  refine J_icmp_ge (tgt := 11) (q := 5) C dL_far_2 rfl (by decide) h (fun _ h => ?_) (fun _ h => ?_)
  · refine J_iload_n (q := 12) C dL_far_11 rfl rfl 0 rfl ?_
    refine J_iload_n (q := 13) C dL_far_12 rfl rfl 1 rfl ?_
    refine J_isub (q := 14) C dL_far_13 rfl ?_
    obtain rfl := Option.some.inj h
    exact J_iret C dL_far_14
  · refine J_iload_n (q := 6) C dL_far_5 rfl rfl 1 rfl ?_
    refine J_iload_n (q := 7) C dL_far_6 rfl rfl 0 rfl ?_
    refine J_isub (q := 8) C dL_far_7 rfl ?_
    refine J_goto (tgt := 14) C dL_far_8 (by decide) ?_
    obtain rfl := Option.some.inj h
    exact J_iret C dL_far_14
set_option maxHeartbeats 4000000 in
set_option maxRecDepth 100000 in
theorem c_L_walk {l : Launch} {D : va_G} {cI cR : ClassId} {ad : Nat → Nat} (hap : apN 77 ad) {g0 : Nat} {i1 : Int32} {σ : Sg} {σo : Sg} (ho0 : isLA g0) (h : f_L_walk g0 i1 σ = some σo) : MV l D (tysC cI cR) 77 ad (celC cI cR ad) okC yL_walk cL_walk 2 2 51 [.ref (ad (g0 + 33)), .int i1] σ σo := by
  unfold f_L_walk at h
  refine entV "WokenYearsLaw" hap (by decide +kernel) rfl (Nat.le_of_ble_eq_true rfl) (fun p e s m args below meth c C => ?_)
  refine J_sub (lv' := [(0, .ref (ad (g0 + 33))), (1, .int i1)]) [0, 1] rfl ?_
  refine J_aload_n (q := 1) C dL_walk_0 rfl rfl 0 rfl ?_
  refine J_iconst (v := 0 ) (q := 2) C dL_walk_1 rfl rfl ?_
  refine J_dup2 (q := 3) C dL_walk_2 rfl rfl rfl ?_
  refine JL_iald (q := 4) C ho0 h dL_walk_3 rfl (fun h => ?_)
  refine J_aload_n (q := 5) C dL_walk_4 rfl rfl 0 rfl ?_
  refine J_iconst (v := 2 ) (q := 6) C dL_walk_5 rfl rfl ?_
  refine JL_iald (q := 7) C ho0 h dL_walk_6 rfl (fun h => ?_)
  refine J_iload_n (q := 8) C dL_walk_7 rfl rfl 1 rfl ?_
  obtain ⟨r1, ec1, h⟩ := bnd_of h
  refine J_callIS (q := 11) (As := [.int (gA σ g0 (2 : Int32).toNatClampNeg), .int i1]) C (c_L_far hap  ec1) ok_L_far kM_L_45 rfl rfl rfl ⟨Nat.le_of_ble_eq_true rfl, Nat.le_of_ble_eq_true rfl⟩ (Nat.le_of_ble_eq_true rfl) dL_walk_8 rfl ?_
  refine J_iadd (q := 12) C dL_walk_11 rfl ?_
  refine JL_iast (q := 13) C ho0 h dL_walk_12 rfl (fun h => ?_)
  refine jn_elim h (fun σ2 eσ2 h => ?_)
  rw [← eσ2]
  refine J_aload_n (q := 14) C dL_walk_13 rfl rfl 0 rfl ?_
  refine J_iconst (v := 2 ) (q := 15) C dL_walk_14 rfl rfl ?_
  refine J_iload_n (q := 16) C dL_walk_15 rfl rfl 1 rfl ?_
  refine JL_iast (q := 17) C ho0 h dL_walk_16 rfl (fun h => ?_)
  refine jn_elim h (fun σ3 eσ3 h => ?_)
  rw [← eσ3]
  obtain rfl := Option.some.inj h
  exact J_vret C dL_walk_17
set_option maxHeartbeats 4000000 in
set_option maxRecDepth 100000 in
theorem c_L_tap {l : Launch} {D : va_G} {cI cR : ClassId} {ad : Nat → Nat} (hap : apN 77 ad) {g0 : Nat} {g1 : Nat} {σ : Sg} {r : Int32} {σo : Sg} (ho0 : isLA g0) (ho1 : isLA g1) (h : f_L_tap g0 g1 σ = some (r, σo)) : MI l D (tysC cI cR) 77 ad (celC cI cR ad) okC yL_tap cL_tap 4 .int 3 77 [.ref (ad (g0 + 33)), .ref (ad (g1 + 33))] σ r σo := by
  unfold f_L_tap at h
  refine entI "WokenYearsLaw" hap (by decide +kernel) rfl (Nat.le_of_ble_eq_true rfl) (fun p e s m args below meth c C => ?_)
  refine J_sub (lv' := [(0, .ref (ad (g0 + 33))), (1, .ref (ad (g1 + 33)))]) [0, 1] rfl ?_
  refine J_aload_n (q := 1) C dL_tap_0 rfl rfl 1 rfl ?_
  refine J_iconst (v := 2 ) (q := 2) C dL_tap_1 rfl rfl ?_
  refine JL_iald (q := 3) C ho1 h dL_tap_2 rfl (fun h => ?_)
  refine J_nmi h (fun y1 ey1 h => ?_)
  refine J_istore_n (q := 4) C dL_tap_3 rfl rfl (by decide) rfl ?_
  refine J_aload_n (q := 5) C dL_tap_4 rfl rfl 2 rfl ?_
  refine J_iconst (v := 0 ) (q := 6) C dL_tap_5 rfl rfl ?_
  refine J_dup2 (q := 7) C dL_tap_6 rfl rfl rfl ?_
  refine JL_iald (q := 8) C ho1 h dL_tap_7 rfl (fun h => ?_)
  refine J_iconst (v := 1 ) (q := 9) C dL_tap_8 rfl rfl ?_
  refine J_iadd (q := 10) C dL_tap_9 rfl ?_
  refine JL_iast (q := 11) C ho1 h dL_tap_10 rfl (fun h => ?_)
  refine jn_elim h (fun σ2 eσ2 h => ?_)
  rw [← eσ2]
  refine J_aload_n (q := 12) C dL_tap_11 rfl rfl 1 rfl ?_
  refine J_aload_n (q := 13) C dL_tap_12 rfl rfl 2 rfl ?_
  refine J_iload_n (q := 14) C dL_tap_13 rfl rfl 0 rfl ?_
  obtain ⟨r3, ec3, h⟩ := bnd_of h
  refine J_callIS (q := 17) (As := [.ref (ad (g0 + 33)), .ref (ad (g1 + 33)), .int y1]) C (c_L_more hap ho0 ho1 ec3) ok_L_more kM_L_48 rfl rfl rfl ⟨Nat.le_of_ble_eq_true rfl, Nat.le_of_ble_eq_true rfl⟩ (Nat.le_of_ble_eq_true rfl) dL_tap_14 rfl ?_
  refine J_iconst (v := 1 ) (q := 18) C dL_tap_17 rfl rfl ?_
  refine jn_elim h (fun k26 ek26 h => ?_)
  have hk26 : ∀ (t0_26 : Bool), k26 t0_26 = some (r, σo) → Jd p l e (rmF 3 77) s m args below meth c D 77 ad (celC cI cR ad) okC 4 (MQ below (QI D (tysC cI cR) 77 ad (celC cI cR ad) okC r σo) args s 0 0 (inA 77 ad)) 26 [(0, .ref (ad (g0 + 33))), (1, .ref (ad (g1 + 33))), (2, .int y1)] [.int (b2i t0_26)] σ2 := by
    intro t0_26 h
    rw [ek26] at h
    refine J_istore_n (q := 27) C dL_tap_26 rfl rfl (by decide) rfl ?_
    refine J_aload_n (q := 28) C dL_tap_27 rfl rfl 2 rfl ?_
    refine J_bipush (v := 11) (q := 30) C dL_tap_28 rfl rfl ?_
    refine J_iload_n (q := 31) C dL_tap_30 rfl rfl 3 rfl ?_
    refine J_iadd (q := 32) C dL_tap_31 rfl ?_
    refine J_dup2 (q := 33) C dL_tap_32 rfl rfl rfl ?_
    refine JL_iald (q := 34) C ho1 h dL_tap_33 rfl (fun h => ?_)
    refine J_iconst (v := 1 ) (q := 35) C dL_tap_34 rfl rfl ?_
    refine J_iadd (q := 36) C dL_tap_35 rfl ?_
    refine JL_iast (q := 37) C ho1 h dL_tap_36 rfl (fun h => ?_)
    refine jn_elim h (fun σ4 eσ4 h => ?_)
    rw [← eσ4]
    refine J_iload_n (q := 38) C dL_tap_37 rfl rfl 0 rfl ?_
    refine jn_elim h (fun k91 ek91 h => ?_)
    have hk91 : ∀ (σj91 : Sg), k91 σj91 = some (r, σo) → Jd p l e (rmF 3 77) s m args below meth c D 77 ad (celC cI cR ad) okC 4 (MQ below (QI D (tysC cI cR) 77 ad (celC cI cR ad) okC r σo) args s 0 0 (inA 77 ad)) 91 [(1, .ref (ad (g1 + 33))), (2, .int y1)] [] σj91 := by
      intro σj91 h
      rw [ek91] at h
      refine J_aload_n (q := 92) C dL_tap_91 rfl rfl 0 rfl ?_
      refine J_bipush (v := 17) (q := 94) C dL_tap_92 rfl rfl ?_
      refine J_iload_n (q := 95) C dL_tap_94 rfl rfl 1 rfl ?_
      refine J_iadd (q := 96) C dL_tap_95 rfl ?_
      refine JL_iald (q := 97) C ho1 h dL_tap_96 rfl (fun h => ?_)
      refine J_if_lt (tgt := 104) (q := 100) C dL_tap_97 rfl (by decide) h (fun _ h => ?_) (fun _ h => ?_)
      · refine J_iconst (v := 0 ) (q := 105) C dL_tap_104 rfl rfl ?_
        obtain ⟨rfl, rfl⟩ := Prod.mk.inj (Option.some.inj h)
        exact J_iret C dL_tap_105
      · refine J_iconst (v := 1 ) (q := 101) C dL_tap_100 rfl rfl ?_
        refine J_goto (tgt := 105) C dL_tap_101 (by decide) ?_
        obtain ⟨rfl, rfl⟩ := Prod.mk.inj (Option.some.inj h)
        exact J_iret C dL_tap_105
    refine J_ifeq_b (tgt := 91) (q := 41) C dL_tap_38 rfl (by decide) h (fun _ h => ?_) (fun _ h => ?_)
    · refine J_aload_n (q := 42) C dL_tap_41 rfl rfl 2 rfl ?_
      refine J_bipush (v := 17) (q := 44) C dL_tap_42 rfl rfl ?_
      refine J_iload_n (q := 45) C dL_tap_44 rfl rfl 3 rfl ?_
      refine J_iadd (q := 46) C dL_tap_45 rfl ?_
      refine J_aload_n (q := 47) C dL_tap_46 rfl rfl 2 rfl ?_
      refine J_iconst (v := 5 ) (q := 48) C dL_tap_47 rfl rfl ?_
      refine J_iload_n (q := 49) C dL_tap_48 rfl rfl 3 rfl ?_
      refine J_iadd (q := 50) C dL_tap_49 rfl ?_
      refine JL_iald (q := 51) C ho1 h dL_tap_50 rfl (fun h => ?_)
      refine JL_iast (q := 52) C ho1 h dL_tap_51 rfl (fun h => ?_)
      refine jn_elim h (fun σ5 eσ5 h => ?_)
      rw [← eσ5]
      refine J_aload_n (q := 53) C dL_tap_52 rfl rfl 2 rfl ?_
      refine J_iconst (v := 4 ) (q := 54) C dL_tap_53 rfl rfl ?_
      refine J_aload_n (q := 55) C dL_tap_54 rfl rfl 2 rfl ?_
      refine J_iconst (v := 4 ) (q := 56) C dL_tap_55 rfl rfl ?_
      refine JL_iald (q := 57) C ho1 h dL_tap_56 rfl (fun h => ?_)
      refine J_aload_n (q := 58) C dL_tap_57 rfl rfl 1 rfl ?_
      refine J_iconst (v := 2 ) (q := 59) C dL_tap_58 rfl rfl ?_
      refine J_iload_n (q := 60) C dL_tap_59 rfl rfl 3 rfl ?_
      refine J_iadd (q := 61) C dL_tap_60 rfl ?_
      refine JL_iald (q := 62) C ho0 h dL_tap_61 rfl (fun h => ?_)
      obtain ⟨r6, ec6, h⟩ := bnd_of h
      refine J_callIS (q := 65) (As := [.int (gA σ5 g0 ((2 : Int32) + y1).toNatClampNeg)]) C (c_L_pays hap  ec6) ok_L_pays kM_L_52 rfl rfl rfl ⟨Nat.le_of_ble_eq_true rfl, Nat.le_of_ble_eq_true rfl⟩ (Nat.le_of_ble_eq_true rfl) dL_tap_62 rfl ?_
      refine J_iadd (q := 66) C dL_tap_65 rfl ?_
      refine J_sipush (v := 9999) (q := 69) C dL_tap_66 rfl rfl ?_
      refine jn_elim h (fun k90 ek90 h => ?_)
      have hk90 : ∀ (t0_90 : Int32), k90 t0_90 = some (r, σo) → Jd p l e (rmF 3 77) s m args below meth c D 77 ad (celC cI cR ad) okC 4 (MQ below (QI D (tysC cI cR) 77 ad (celC cI cR ad) okC r σo) args s 0 0 (inA 77 ad)) 90 [(1, .ref (ad (g1 + 33))), (2, .int y1)] [.int t0_90, .int (4 : Int32), .ref (ad (g1 + 33))] σ5 := by
        intro t0_90 h
        rw [ek90] at h
        refine JL_iast (q := 91) C ho1 h dL_tap_90 rfl (fun h => ?_)
        refine jn_elim h (fun σ7 eσ7 h => ?_)
        rw [← eσ7]
        exact hk91 _ h
      refine J_icmp_ge (tgt := 87) (q := 72) C dL_tap_69 rfl (by decide) h (fun _ h => ?_) (fun _ h => ?_)
      · refine J_sipush (v := 9999) (q := 90) C dL_tap_87 rfl rfl ?_
        refine J_sub [2, 3] rfl ?_
        exact hk90 _ h
      · refine J_aload_n (q := 73) C dL_tap_72 rfl rfl 2 rfl ?_
        refine J_iconst (v := 4 ) (q := 74) C dL_tap_73 rfl rfl ?_
        refine JL_iald (q := 75) C ho1 h dL_tap_74 rfl (fun h => ?_)
        refine J_aload_n (q := 76) C dL_tap_75 rfl rfl 1 rfl ?_
        refine J_iconst (v := 2 ) (q := 77) C dL_tap_76 rfl rfl ?_
        refine J_iload_n (q := 78) C dL_tap_77 rfl rfl 3 rfl ?_
        refine J_iadd (q := 79) C dL_tap_78 rfl ?_
        refine JL_iald (q := 80) C ho0 h dL_tap_79 rfl (fun h => ?_)
        obtain ⟨r8, ec8, h⟩ := bnd_of h
        refine J_callIS (q := 83) (As := [.int (gA σ5 g0 ((2 : Int32) + y1).toNatClampNeg)]) C (c_L_pays hap  ec8) ok_L_pays kM_L_52 rfl rfl rfl ⟨Nat.le_of_ble_eq_true rfl, Nat.le_of_ble_eq_true rfl⟩ (Nat.le_of_ble_eq_true rfl) dL_tap_80 rfl ?_
        refine J_iadd (q := 84) C dL_tap_83 rfl ?_
        refine J_goto (tgt := 90) C dL_tap_84 (by decide) ?_
        refine J_sub [2, 3] rfl ?_
        exact hk90 _ h
    · refine J_sub [2, 3] rfl ?_
      exact hk91 _ h
  refine J_icmp_ne (tgt := 25) (q := 21) C dL_tap_18 rfl (by decide) h (fun _ h => ?_) (fun _ h => ?_)
  · refine J_iconst (v := 1 ) (q := 22) C dL_tap_21 rfl rfl ?_
    refine J_goto (tgt := 26) C dL_tap_22 (by decide) ?_
    refine J_sub [1, 2, 0] rfl ?_
    exact hk26 _ h
  · refine J_iconst (v := 0 ) (q := 26) C dL_tap_25 rfl rfl ?_
    refine J_sub [1, 2, 0] rfl ?_
    exact hk26 _ h
