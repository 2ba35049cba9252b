theorem dfX0 : ∀ j, j < 2 → defaultValue (tyX0 j) = vp_V [.null, .int (0 : Int32)] j := fun j hj => match j, hj with
  | 0, _ => rfl
  | 1, _ => rfl
  | k + 2, h => absurd h (by omega)
theorem dfX2 : ∀ j, j < 3 → defaultValue (tyX2 j) = vp_V [.null, .int (0 : Int32), .int (0 : Int32)] j := fun j hj => match j, hj with
  | 0, _ => rfl
  | 1, _ => rfl
  | 2, _ => rfl
  | k + 3, h => absurd h (by omega)
theorem dfX3 : ∀ j, j < 6 → defaultValue (tyX3 j) = vp_V [.null, .null, .null, .null, .null, .int (0 : Int32)] j := fun j hj => match j, hj with
  | 0, _ => rfl
  | 1, _ => rfl
  | 2, _ => rfl
  | 3, _ => rfl
  | 4, _ => rfl
  | 5, _ => rfl
  | k + 6, h => absurd h (by omega)
theorem dfX4 : ∀ j, j < 15 → defaultValue (tyX4 j) = vp_V [.null, .null, .null, .null, .null, .null, .null, .int (0 : Int32), .int (0 : Int32), .int (0 : Int32), .int (0 : Int32), .int (0 : Int32), .int (0 : Int32), .int (0 : Int32), .int (0 : Int32)] j := fun j hj => match j, hj with
  | 0, _ => rfl
  | 1, _ => rfl
  | 2, _ => rfl
  | 3, _ => rfl
  | 4, _ => rfl
  | 5, _ => rfl
  | 6, _ => rfl
  | 7, _ => rfl
  | 8, _ => rfl
  | 9, _ => rfl
  | 10, _ => rfl
  | 11, _ => rfl
  | 12, _ => rfl
  | 13, _ => rfl
  | 14, _ => rfl
  | k + 15, h => absurd h (by omega)
theorem dfX5 : ∀ j, j < 12 → defaultValue (tyX5 j) = vp_V [.null, .null, .null, .null, .null, .null, .null, .null, .int (0 : Int32), .int (0 : Int32), .long (0 : Int64), .long (0 : Int64)] j := fun j hj => match j, hj with
  | 0, _ => rfl
  | 1, _ => rfl
  | 2, _ => rfl
  | 3, _ => rfl
  | 4, _ => rfl
  | 5, _ => rfl
  | 6, _ => rfl
  | 7, _ => rfl
  | 8, _ => rfl
  | 9, _ => rfl
  | 10, _ => rfl
  | 11, _ => rfl
  | k + 12, h => absurd h (by omega)
theorem upd00 (i : Nat) : upd (fun _ => (0 : Int32)) i 0 = fun _ => 0 := by
  funext j
  unfold upd
  split <;> rfl
set_option maxHeartbeats 4000000 in
set_option maxRecDepth 100000 in
theorem c_fill_0_40 {h a : Nat} (l : Launch) (D : va_G) (cI cR : ClassId) : MVK l D cI cR yX0_fill cX0_fill 4 1 40 [.ref h, .int 0, .int 0] [(h, .inr (0, [.ref a, .int (-1 : Int32)])), (a, .inl (cI, 40, .inl (fun _ => 0)))] [(h, .inr (0, [.ref a, .int (0 : Int32)])), (a, .inl (cI, 40, .inl (fun _ => 0)))] := by
  refine entVK RX0 (by decide +kernel) rfl (Nat.le_of_ble_eq_true rfl) (fun p e s m args below meth c A C => ?_)
  refine K_aload_n C dX0_fill_0 rfl rfl 0 rfl ?_
  refine K_iconst (v := (0 : Int32)) C dX0_fill_1 rfl (by decide) ?_
  refine K_iload_n C dX0_fill_2 rfl rfl 1 rfl ?_
  refine K_aload_n C dX0_fill_3 rfl rfl 0 rfl ?_
  refine K_get (Cn := RX0) (T := TX0) (Nf := 2) (ci := 0) (v := .ref a) C inX0 0 rfl rfl 0 (by decide) kF_X0_19 rfl dX0_fill_4 rfl ?_
  refine K_alen (v := (40 : Int32)) C 1 0 rfl rfl (show nI 40 = (40 : Int32) from by decide) dX0_fill_7 rfl ?_
  refine K_mmin (v := (0 : Int32)) C (by decide) kM_X0_23 kMath_min_s kMath_min_c (Nat.le_of_ble_eq_true rfl) (Nat.le_of_ble_eq_true rfl) (Nat.le_of_ble_eq_true rfl) (Nat.le_of_ble_eq_true rfl) dX0_fill_8 rfl ?_
  refine K_mmax (v := (0 : Int32)) C (by decide) kM_X0_13 kMath_max_s kMath_max_c (Nat.le_of_ble_eq_true rfl) (Nat.le_of_ble_eq_true rfl) (Nat.le_of_ble_eq_true rfl) (Nat.le_of_ble_eq_true rfl) dX0_fill_11 rfl ?_
  refine K_put (Cn := RX0) (T := TX0) (Nf := 2) (ci := 0) (v := .int (0 : Int32)) (ws' := [(h, .inr (0, [.ref a, .int (0 : Int32)])), (a, .inl (cI, 40, .inl (fun _ => 0)))]) C inX0 tyX0 tyX0_ok nmX0 0 rfl rfl 1 (by decide) kF_X0_7 rfl rfl rfl rfl (Nat.le_of_ble_eq_true rfl) rfl dX0_fill_14 rfl ?_
  refine K_iconst (v := (0 : Int32)) C dX0_fill_17 rfl (by decide) ?_
  refine K_istore_n (lv' := [(3, .int (0 : Int32)), (0, .ref h), (1, .int (0 : Int32)), (2, .int (0 : Int32))]) C dX0_fill_18 rfl rfl (by decide) rfl ?_
  refine K_iload_n C dX0_fill_19 rfl rfl 0 rfl ?_
  refine K_aload_n C dX0_fill_20 rfl rfl 1 rfl ?_
  refine K_get (Cn := RX0) (T := TX0) (Nf := 2) (ci := 0) (v := .int (0 : Int32)) C inX0 0 rfl rfl 1 (by decide) kF_X0_7 rfl dX0_fill_21 rfl ?_
  refine K_icmp_ge_t (tgt := 49) C dX0_fill_24 (by decide) (by decide) ?_
  exact K_vret C (rfl) (Nat.le_of_ble_eq_true rfl) (Nat.le_of_ble_eq_true rfl) dX0_fill_49
set_option maxHeartbeats 4000000 in
set_option maxRecDepth 100000 in
theorem c_fill_6_6 {h a : Nat} (l : Launch) (D : va_G) (cI cR : ClassId) : MVK l D cI cR yX0_fill cX0_fill 4 1 40 [.ref h, .int 6, .int 0] [(h, .inr (0, [.ref a, .int (-1 : Int32)])), (a, .inl (cI, 6, .inl (fun _ => 0)))] [(h, .inr (0, [.ref a, .int (6 : Int32)])), (a, .inl (cI, 6, .inl (fun _ => 0)))] := by
  refine entVK RX0 (by decide +kernel) rfl (Nat.le_of_ble_eq_true rfl) (fun p e s m args below meth c A C => ?_)
  refine K_aload_n C dX0_fill_0 rfl rfl 0 rfl ?_
  refine K_iconst (v := (0 : Int32)) C dX0_fill_1 rfl (by decide) ?_
  refine K_iload_n C dX0_fill_2 rfl rfl 1 rfl ?_
  refine K_aload_n C dX0_fill_3 rfl rfl 0 rfl ?_
  refine K_get (Cn := RX0) (T := TX0) (Nf := 2) (ci := 0) (v := .ref a) C inX0 0 rfl rfl 0 (by decide) kF_X0_19 rfl dX0_fill_4 rfl ?_
  refine K_alen (v := (6 : Int32)) C 1 0 rfl rfl (show nI 6 = (6 : Int32) from by decide) dX0_fill_7 rfl ?_
  refine K_mmin (v := (6 : Int32)) C (by decide) kM_X0_23 kMath_min_s kMath_min_c (Nat.le_of_ble_eq_true rfl) (Nat.le_of_ble_eq_true rfl) (Nat.le_of_ble_eq_true rfl) (Nat.le_of_ble_eq_true rfl) dX0_fill_8 rfl ?_
  refine K_mmax (v := (6 : Int32)) C (by decide) kM_X0_13 kMath_max_s kMath_max_c (Nat.le_of_ble_eq_true rfl) (Nat.le_of_ble_eq_true rfl) (Nat.le_of_ble_eq_true rfl) (Nat.le_of_ble_eq_true rfl) dX0_fill_11 rfl ?_
  refine K_put (Cn := RX0) (T := TX0) (Nf := 2) (ci := 0) (v := .int (6 : Int32)) (ws' := [(h, .inr (0, [.ref a, .int (6 : Int32)])), (a, .inl (cI, 6, .inl (fun _ => 0)))]) C inX0 tyX0 tyX0_ok nmX0 0 rfl rfl 1 (by decide) kF_X0_7 rfl rfl rfl rfl (Nat.le_of_ble_eq_true rfl) rfl dX0_fill_14 rfl ?_
  refine K_iconst (v := (0 : Int32)) C dX0_fill_17 rfl (by decide) ?_
  refine K_istore_n (lv' := [(3, .int (0 : Int32)), (0, .ref h), (1, .int (6 : Int32)), (2, .int (0 : Int32))]) C dX0_fill_18 rfl rfl (by decide) rfl ?_
  refine K_iload_n C dX0_fill_19 rfl rfl 0 rfl ?_
  refine K_aload_n C dX0_fill_20 rfl rfl 1 rfl ?_
  refine K_get (Cn := RX0) (T := TX0) (Nf := 2) (ci := 0) (v := .int (6 : Int32)) C inX0 0 rfl rfl 1 (by decide) kF_X0_7 rfl dX0_fill_21 rfl ?_
  refine K_icmp_ge_f C dX0_fill_24 rfl 49 (by decide) (by decide) ?_
  refine K_iload_n C dX0_fill_27 rfl rfl 0 rfl ?_
  refine K_aload_n C dX0_fill_28 rfl rfl 1 rfl ?_
  refine K_get (Cn := RX0) (T := TX0) (Nf := 2) (ci := 0) (v := .ref a) C inX0 0 rfl rfl 0 (by decide) kF_X0_19 rfl dX0_fill_29 rfl ?_
  refine K_alen (v := (6 : Int32)) C 1 0 rfl rfl (show nI 6 = (6 : Int32) from by decide) dX0_fill_32 rfl ?_
  refine K_icmp_ge_f C dX0_fill_33 rfl 49 (by decide) (by decide) ?_
  refine K_aload_n C dX0_fill_36 rfl rfl 1 rfl ?_
  refine K_get (Cn := RX0) (T := TX0) (Nf := 2) (ci := 0) (v := .ref a) C inX0 0 rfl rfl 0 (by decide) kF_X0_19 rfl dX0_fill_37 rfl ?_
  refine K_iload_n C dX0_fill_40 rfl rfl 0 rfl ?_
  refine K_iload_n C dX0_fill_41 rfl rfl 3 rfl ?_
  refine K_iast (i' := 0) (ws' := [(h, .inr (0, [.ref a, .int (6 : Int32)])), (a, .inl (cI, 6, .inl (fun _ => 0)))]) C 1 rfl (by decide) (by decide) (by rw [upd00]; rfl) dX0_fill_42 rfl ?_
  refine K_iinc (v := (1 : Int32)) (lv' := [(3, .int (1 : Int32)), (0, .ref h), (1, .int (6 : Int32)), (2, .int (0 : Int32))]) C dX0_fill_43 rfl 0 rfl (by decide) (by decide) rfl ?_
  refine K_goto (tgt := 19) C dX0_fill_46 (by decide) ?_
  refine K_iload_n C dX0_fill_19 rfl rfl 0 rfl ?_
  refine K_aload_n C dX0_fill_20 rfl rfl 1 rfl ?_
  refine K_get (Cn := RX0) (T := TX0) (Nf := 2) (ci := 0) (v := .int (6 : Int32)) C inX0 0 rfl rfl 1 (by decide) kF_X0_7 rfl dX0_fill_21 rfl ?_
  refine K_icmp_ge_f C dX0_fill_24 rfl 49 (by decide) (by decide) ?_
  refine K_iload_n C dX0_fill_27 rfl rfl 0 rfl ?_
  refine K_aload_n C dX0_fill_28 rfl rfl 1 rfl ?_
  refine K_get (Cn := RX0) (T := TX0) (Nf := 2) (ci := 0) (v := .ref a) C inX0 0 rfl rfl 0 (by decide) kF_X0_19 rfl dX0_fill_29 rfl ?_
  refine K_alen (v := (6 : Int32)) C 1 0 rfl rfl (show nI 6 = (6 : Int32) from by decide) dX0_fill_32 rfl ?_
  refine K_icmp_ge_f C dX0_fill_33 rfl 49 (by decide) (by decide) ?_
  refine K_aload_n C dX0_fill_36 rfl rfl 1 rfl ?_
  refine K_get (Cn := RX0) (T := TX0) (Nf := 2) (ci := 0) (v := .ref a) C inX0 0 rfl rfl 0 (by decide) kF_X0_19 rfl dX0_fill_37 rfl ?_
  refine K_iload_n C dX0_fill_40 rfl rfl 0 rfl ?_
  refine K_iload_n C dX0_fill_41 rfl rfl 3 rfl ?_
  refine K_iast (i' := 1) (ws' := [(h, .inr (0, [.ref a, .int (6 : Int32)])), (a, .inl (cI, 6, .inl (fun _ => 0)))]) C 1 rfl (by decide) (by decide) (by rw [upd00]; rfl) dX0_fill_42 rfl ?_
  refine K_iinc (v := (2 : Int32)) (lv' := [(3, .int (2 : Int32)), (0, .ref h), (1, .int (6 : Int32)), (2, .int (0 : Int32))]) C dX0_fill_43 rfl 0 rfl (by decide) (by decide) rfl ?_
  refine K_goto (tgt := 19) C dX0_fill_46 (by decide) ?_
  refine K_iload_n C dX0_fill_19 rfl rfl 0 rfl ?_
  refine K_aload_n C dX0_fill_20 rfl rfl 1 rfl ?_
  refine K_get (Cn := RX0) (T := TX0) (Nf := 2) (ci := 0) (v := .int (6 : Int32)) C inX0 0 rfl rfl 1 (by decide) kF_X0_7 rfl dX0_fill_21 rfl ?_
  refine K_icmp_ge_f C dX0_fill_24 rfl 49 (by decide) (by decide) ?_
  refine K_iload_n C dX0_fill_27 rfl rfl 0 rfl ?_
  refine K_aload_n C dX0_fill_28 rfl rfl 1 rfl ?_
  refine K_get (Cn := RX0) (T := TX0) (Nf := 2) (ci := 0) (v := .ref a) C inX0 0 rfl rfl 0 (by decide) kF_X0_19 rfl dX0_fill_29 rfl ?_
  refine K_alen (v := (6 : Int32)) C 1 0 rfl rfl (show nI 6 = (6 : Int32) from by decide) dX0_fill_32 rfl ?_
  refine K_icmp_ge_f C dX0_fill_33 rfl 49 (by decide) (by decide) ?_
  refine K_aload_n C dX0_fill_36 rfl rfl 1 rfl ?_
  refine K_get (Cn := RX0) (T := TX0) (Nf := 2) (ci := 0) (v := .ref a) C inX0 0 rfl rfl 0 (by decide) kF_X0_19 rfl dX0_fill_37 rfl ?_
  refine K_iload_n C dX0_fill_40 rfl rfl 0 rfl ?_
  refine K_iload_n C dX0_fill_41 rfl rfl 3 rfl ?_
  refine K_iast (i' := 2) (ws' := [(h, .inr (0, [.ref a, .int (6 : Int32)])), (a, .inl (cI, 6, .inl (fun _ => 0)))]) C 1 rfl (by decide) (by decide) (by rw [upd00]; rfl) dX0_fill_42 rfl ?_
  refine K_iinc (v := (3 : Int32)) (lv' := [(3, .int (3 : Int32)), (0, .ref h), (1, .int (6 : Int32)), (2, .int (0 : Int32))]) C dX0_fill_43 rfl 0 rfl (by decide) (by decide) rfl ?_
  refine K_goto (tgt := 19) C dX0_fill_46 (by decide) ?_
  refine K_iload_n C dX0_fill_19 rfl rfl 0 rfl ?_
  refine K_aload_n C dX0_fill_20 rfl rfl 1 rfl ?_
  refine K_get (Cn := RX0) (T := TX0) (Nf := 2) (ci := 0) (v := .int (6 : Int32)) C inX0 0 rfl rfl 1 (by decide) kF_X0_7 rfl dX0_fill_21 rfl ?_
  refine K_icmp_ge_f C dX0_fill_24 rfl 49 (by decide) (by decide) ?_
  refine K_iload_n C dX0_fill_27 rfl rfl 0 rfl ?_
  refine K_aload_n C dX0_fill_28 rfl rfl 1 rfl ?_
  refine K_get (Cn := RX0) (T := TX0) (Nf := 2) (ci := 0) (v := .ref a) C inX0 0 rfl rfl 0 (by decide) kF_X0_19 rfl dX0_fill_29 rfl ?_
  refine K_alen (v := (6 : Int32)) C 1 0 rfl rfl (show nI 6 = (6 : Int32) from by decide) dX0_fill_32 rfl ?_
  refine K_icmp_ge_f C dX0_fill_33 rfl 49 (by decide) (by decide) ?_
  refine K_aload_n C dX0_fill_36 rfl rfl 1 rfl ?_
  refine K_get (Cn := RX0) (T := TX0) (Nf := 2) (ci := 0) (v := .ref a) C inX0 0 rfl rfl 0 (by decide) kF_X0_19 rfl dX0_fill_37 rfl ?_
  refine K_iload_n C dX0_fill_40 rfl rfl 0 rfl ?_
  refine K_iload_n C dX0_fill_41 rfl rfl 3 rfl ?_
  refine K_iast (i' := 3) (ws' := [(h, .inr (0, [.ref a, .int (6 : Int32)])), (a, .inl (cI, 6, .inl (fun _ => 0)))]) C 1 rfl (by decide) (by decide) (by rw [upd00]; rfl) dX0_fill_42 rfl ?_
  refine K_iinc (v := (4 : Int32)) (lv' := [(3, .int (4 : Int32)), (0, .ref h), (1, .int (6 : Int32)), (2, .int (0 : Int32))]) C dX0_fill_43 rfl 0 rfl (by decide) (by decide) rfl ?_
  refine K_goto (tgt := 19) C dX0_fill_46 (by decide) ?_
  refine K_iload_n C dX0_fill_19 rfl rfl 0 rfl ?_
  refine K_aload_n C dX0_fill_20 rfl rfl 1 rfl ?_
  refine K_get (Cn := RX0) (T := TX0) (Nf := 2) (ci := 0) (v := .int (6 : Int32)) C inX0 0 rfl rfl 1 (by decide) kF_X0_7 rfl dX0_fill_21 rfl ?_
  refine K_icmp_ge_f C dX0_fill_24 rfl 49 (by decide) (by decide) ?_
  refine K_iload_n C dX0_fill_27 rfl rfl 0 rfl ?_
  refine K_aload_n C dX0_fill_28 rfl rfl 1 rfl ?_
  refine K_get (Cn := RX0) (T := TX0) (Nf := 2) (ci := 0) (v := .ref a) C inX0 0 rfl rfl 0 (by decide) kF_X0_19 rfl dX0_fill_29 rfl ?_
  refine K_alen (v := (6 : Int32)) C 1 0 rfl rfl (show nI 6 = (6 : Int32) from by decide) dX0_fill_32 rfl ?_
  refine K_icmp_ge_f C dX0_fill_33 rfl 49 (by decide) (by decide) ?_
  refine K_aload_n C dX0_fill_36 rfl rfl 1 rfl ?_
  refine K_get (Cn := RX0) (T := TX0) (Nf := 2) (ci := 0) (v := .ref a) C inX0 0 rfl rfl 0 (by decide) kF_X0_19 rfl dX0_fill_37 rfl ?_
  refine K_iload_n C dX0_fill_40 rfl rfl 0 rfl ?_
  refine K_iload_n C dX0_fill_41 rfl rfl 3 rfl ?_
  refine K_iast (i' := 4) (ws' := [(h, .inr (0, [.ref a, .int (6 : Int32)])), (a, .inl (cI, 6, .inl (fun _ => 0)))]) C 1 rfl (by decide) (by decide) (by rw [upd00]; rfl) dX0_fill_42 rfl ?_
  refine K_iinc (v := (5 : Int32)) (lv' := [(3, .int (5 : Int32)), (0, .ref h), (1, .int (6 : Int32)), (2, .int (0 : Int32))]) C dX0_fill_43 rfl 0 rfl (by decide) (by decide) rfl ?_
  refine K_goto (tgt := 19) C dX0_fill_46 (by decide) ?_
  refine K_iload_n C dX0_fill_19 rfl rfl 0 rfl ?_
  refine K_aload_n C dX0_fill_20 rfl rfl 1 rfl ?_
  refine K_get (Cn := RX0) (T := TX0) (Nf := 2) (ci := 0) (v := .int (6 : Int32)) C inX0 0 rfl rfl 1 (by decide) kF_X0_7 rfl dX0_fill_21 rfl ?_
  refine K_icmp_ge_f C dX0_fill_24 rfl 49 (by decide) (by decide) ?_
  refine K_iload_n C dX0_fill_27 rfl rfl 0 rfl ?_
  refine K_aload_n C dX0_fill_28 rfl rfl 1 rfl ?_
  refine K_get (Cn := RX0) (T := TX0) (Nf := 2) (ci := 0) (v := .ref a) C inX0 0 rfl rfl 0 (by decide) kF_X0_19 rfl dX0_fill_29 rfl ?_
  refine K_alen (v := (6 : Int32)) C 1 0 rfl rfl (show nI 6 = (6 : Int32) from by decide) dX0_fill_32 rfl ?_
  refine K_icmp_ge_f C dX0_fill_33 rfl 49 (by decide) (by decide) ?_
  refine K_aload_n C dX0_fill_36 rfl rfl 1 rfl ?_
  refine K_get (Cn := RX0) (T := TX0) (Nf := 2) (ci := 0) (v := .ref a) C inX0 0 rfl rfl 0 (by decide) kF_X0_19 rfl dX0_fill_37 rfl ?_
  refine K_iload_n C dX0_fill_40 rfl rfl 0 rfl ?_
  refine K_iload_n C dX0_fill_41 rfl rfl 3 rfl ?_
  refine K_iast (i' := 5) (ws' := [(h, .inr (0, [.ref a, .int (6 : Int32)])), (a, .inl (cI, 6, .inl (fun _ => 0)))]) C 1 rfl (by decide) (by decide) (by rw [upd00]; rfl) dX0_fill_42 rfl ?_
  refine K_iinc (v := (6 : Int32)) (lv' := [(3, .int (6 : Int32)), (0, .ref h), (1, .int (6 : Int32)), (2, .int (0 : Int32))]) C dX0_fill_43 rfl 0 rfl (by decide) (by decide) rfl ?_
  refine K_goto (tgt := 19) C dX0_fill_46 (by decide) ?_
  refine K_iload_n C dX0_fill_19 rfl rfl 0 rfl ?_
  refine K_aload_n C dX0_fill_20 rfl rfl 1 rfl ?_
  refine K_get (Cn := RX0) (T := TX0) (Nf := 2) (ci := 0) (v := .int (6 : Int32)) C inX0 0 rfl rfl 1 (by decide) kF_X0_7 rfl dX0_fill_21 rfl ?_
  refine K_icmp_ge_t (tgt := 49) C dX0_fill_24 (by decide) (by decide) ?_
  exact K_vret C (rfl) (Nat.le_of_ble_eq_true rfl) (Nat.le_of_ble_eq_true rfl) dX0_fill_49
set_option maxHeartbeats 4000000 in
set_option maxRecDepth 100000 in
theorem c_X0_init_6 (l : Launch) (D : va_G) (cI cR : ClassId) : MK l D cI cR yX0_init cX0_init 2 1 40 1 6 [.int (6 : Int32)] (.inr (0, [.null, .int (0 : Int32)])) (fun h0 w1 => ∃ z0 : Nat, w1 = [(h0, .inr (0, [.ref z0, .int (-1 : Int32)])), (z0, .inl (cI, 6, .inl (fun _ => 0)))]) := by
  refine entK RX0 (by decide +kernel) rfl rfl (by decide) (fun p e s m args below meth c h0 A C hin2 => ?_)
  refine K_aload_n C dX0_init_0 rfl rfl 0 rfl ?_
  refine K_obj C kM_X0_1 (Nat.le_of_ble_eq_true rfl) (Nat.le_of_ble_eq_true rfl) dX0_init_1 rfl ?_
  refine K_aload_n C dX0_init_4 rfl rfl 0 rfl ?_
  refine K_iconst (v := (-1 : Int32)) C dX0_init_5 rfl (by decide) ?_
  refine K_put (Cn := RX0) (T := TX0) (Nf := 2) (ci := 0) (v := .int (-1 : Int32)) (ws' := [(h0, .inr (0, [.null, .int (-1 : Int32)]))]) C inX0 tyX0 tyX0_ok nmX0 0 rfl rfl 1 (by decide) kF_X0_7 rfl rfl rfl rfl (Nat.le_of_ble_eq_true rfl) rfl dX0_init_6 rfl ?_
  refine K_aload_n C dX0_init_9 rfl rfl 0 rfl ?_
  refine K_iconst (v := (0 : Int32)) C dX0_init_10 rfl (by decide) ?_
  refine K_iload_n C dX0_init_11 rfl rfl 1 rfl ?_
  refine K_mmax (v := (6 : Int32)) C (by decide) kM_X0_13 kMath_max_s kMath_max_c (Nat.le_of_ble_eq_true rfl) (Nat.le_of_ble_eq_true rfl) (Nat.le_of_ble_eq_true rfl) (Nat.le_of_ble_eq_true rfl) dX0_init_12 rfl ?_
  refine K_newa (n' := 6) C (by decide) (by decide) (by decide) (Nat.le_of_ble_eq_true rfl) (Nat.le_of_ble_eq_true rfl) dX0_init_15 rfl (fun a1 => ?_)
  refine K_st (st' := [.ref a1, .ref h0]) (ws' := [(h0, .inr (0, [.null, .int (-1 : Int32)])), (a1, .inl (cI, 6, .inl (fun _ => 0)))]) rfl rfl ?_
  refine K_putF (Cn := RX0) (T := TX0) (Nf := 2) (ci := 0) (v := .ref a1) (ws' := [(h0, .inr (0, [.ref a1, .int (-1 : Int32)])), (a1, .inl (cI, 6, .inl (fun _ => 0)))]) C inX0 tyX0 tyX0_ok nmX0 0 rfl rfl 0 (by decide) kF_X0_19 rfl hin2 rfl rfl rfl rfl (Nat.le_of_ble_eq_true rfl) rfl dX0_init_17 rfl ?_
  exact K_vret C (⟨a1, rfl⟩) (Nat.le_of_ble_eq_true rfl) (Nat.le_of_ble_eq_true rfl) dX0_init_20
set_option maxHeartbeats 4000000 in
set_option maxRecDepth 100000 in
theorem c_X0_init_40 (l : Launch) (D : va_G) (cI cR : ClassId) : MK l D cI cR yX0_init cX0_init 2 1 40 1 40 [.int (40 : Int32)] (.inr (0, [.null, .int (0 : Int32)])) (fun h0 w1 => ∃ z0 : Nat, w1 = [(h0, .inr (0, [.ref z0, .int (-1 : Int32)])), (z0, .inl (cI, 40, .inl (fun _ => 0)))]) := by
  refine entK RX0 (by decide +kernel) rfl rfl (by decide) (fun p e s m args below meth c h0 A C hin2 => ?_)
  refine K_aload_n C dX0_init_0 rfl rfl 0 rfl ?_
  refine K_obj C kM_X0_1 (Nat.le_of_ble_eq_true rfl) (Nat.le_of_ble_eq_true rfl) dX0_init_1 rfl ?_
  refine K_aload_n C dX0_init_4 rfl rfl 0 rfl ?_
  refine K_iconst (v := (-1 : Int32)) C dX0_init_5 rfl (by decide) ?_
  refine K_put (Cn := RX0) (T := TX0) (Nf := 2) (ci := 0) (v := .int (-1 : Int32)) (ws' := [(h0, .inr (0, [.null, .int (-1 : Int32)]))]) C inX0 tyX0 tyX0_ok nmX0 0 rfl rfl 1 (by decide) kF_X0_7 rfl rfl rfl rfl (Nat.le_of_ble_eq_true rfl) rfl dX0_init_6 rfl ?_
  refine K_aload_n C dX0_init_9 rfl rfl 0 rfl ?_
  refine K_iconst (v := (0 : Int32)) C dX0_init_10 rfl (by decide) ?_
  refine K_iload_n C dX0_init_11 rfl rfl 1 rfl ?_
  refine K_mmax (v := (40 : Int32)) C (by decide) kM_X0_13 kMath_max_s kMath_max_c (Nat.le_of_ble_eq_true rfl) (Nat.le_of_ble_eq_true rfl) (Nat.le_of_ble_eq_true rfl) (Nat.le_of_ble_eq_true rfl) dX0_init_12 rfl ?_
  refine K_newa (n' := 40) C (by decide) (by decide) (by decide) (Nat.le_of_ble_eq_true rfl) (Nat.le_of_ble_eq_true rfl) dX0_init_15 rfl (fun a1 => ?_)
  refine K_st (st' := [.ref a1, .ref h0]) (ws' := [(h0, .inr (0, [.null, .int (-1 : Int32)])), (a1, .inl (cI, 40, .inl (fun _ => 0)))]) rfl rfl ?_
  refine K_putF (Cn := RX0) (T := TX0) (Nf := 2) (ci := 0) (v := .ref a1) (ws' := [(h0, .inr (0, [.ref a1, .int (-1 : Int32)])), (a1, .inl (cI, 40, .inl (fun _ => 0)))]) C inX0 tyX0 tyX0_ok nmX0 0 rfl rfl 0 (by decide) kF_X0_19 rfl hin2 rfl rfl rfl rfl (Nat.le_of_ble_eq_true rfl) rfl dX0_init_17 rfl ?_
  exact K_vret C (⟨a1, rfl⟩) (Nat.le_of_ble_eq_true rfl) (Nat.le_of_ble_eq_true rfl) dX0_init_20
set_option maxHeartbeats 4000000 in
set_option maxRecDepth 100000 in
theorem c_X0_init_60 (l : Launch) (D : va_G) (cI cR : ClassId) : MK l D cI cR yX0_init cX0_init 2 1 40 1 60 [.int (60 : Int32)] (.inr (0, [.null, .int (0 : Int32)])) (fun h0 w1 => ∃ z0 : Nat, w1 = [(h0, .inr (0, [.ref z0, .int (-1 : Int32)])), (z0, .inl (cI, 60, .inl (fun _ => 0)))]) := by
  refine entK RX0 (by decide +kernel) rfl rfl (by decide) (fun p e s m args below meth c h0 A C hin2 => ?_)
  refine K_aload_n C dX0_init_0 rfl rfl 0 rfl ?_
  refine K_obj C kM_X0_1 (Nat.le_of_ble_eq_true rfl) (Nat.le_of_ble_eq_true rfl) dX0_init_1 rfl ?_
  refine K_aload_n C dX0_init_4 rfl rfl 0 rfl ?_
  refine K_iconst (v := (-1 : Int32)) C dX0_init_5 rfl (by decide) ?_
  refine K_put (Cn := RX0) (T := TX0) (Nf := 2) (ci := 0) (v := .int (-1 : Int32)) (ws' := [(h0, .inr (0, [.null, .int (-1 : Int32)]))]) C inX0 tyX0 tyX0_ok nmX0 0 rfl rfl 1 (by decide) kF_X0_7 rfl rfl rfl rfl (Nat.le_of_ble_eq_true rfl) rfl dX0_init_6 rfl ?_
  refine K_aload_n C dX0_init_9 rfl rfl 0 rfl ?_
  refine K_iconst (v := (0 : Int32)) C dX0_init_10 rfl (by decide) ?_
  refine K_iload_n C dX0_init_11 rfl rfl 1 rfl ?_
  refine K_mmax (v := (60 : Int32)) C (by decide) kM_X0_13 kMath_max_s kMath_max_c (Nat.le_of_ble_eq_true rfl) (Nat.le_of_ble_eq_true rfl) (Nat.le_of_ble_eq_true rfl) (Nat.le_of_ble_eq_true rfl) dX0_init_12 rfl ?_
  refine K_newa (n' := 60) C (by decide) (by decide) (by decide) (Nat.le_of_ble_eq_true rfl) (Nat.le_of_ble_eq_true rfl) dX0_init_15 rfl (fun a1 => ?_)
  refine K_st (st' := [.ref a1, .ref h0]) (ws' := [(h0, .inr (0, [.null, .int (-1 : Int32)])), (a1, .inl (cI, 60, .inl (fun _ => 0)))]) rfl rfl ?_
  refine K_putF (Cn := RX0) (T := TX0) (Nf := 2) (ci := 0) (v := .ref a1) (ws' := [(h0, .inr (0, [.ref a1, .int (-1 : Int32)])), (a1, .inl (cI, 60, .inl (fun _ => 0)))]) C inX0 tyX0 tyX0_ok nmX0 0 rfl rfl 0 (by decide) kF_X0_19 rfl hin2 rfl rfl rfl rfl (Nat.le_of_ble_eq_true rfl) rfl dX0_init_17 rfl ?_
  exact K_vret C (⟨a1, rfl⟩) (Nat.le_of_ble_eq_true rfl) (Nat.le_of_ble_eq_true rfl) dX0_init_20
set_option maxHeartbeats 4000000 in
set_option maxRecDepth 100000 in
theorem c_X0_init_384 (l : Launch) (D : va_G) (cI cR : ClassId) : MK l D cI cR yX0_init cX0_init 2 1 40 1 384 [.int (384 : Int32)] (.inr (0, [.null, .int (0 : Int32)])) (fun h0 w1 => ∃ z0 : Nat, w1 = [(h0, .inr (0, [.ref z0, .int (-1 : Int32)])), (z0, .inl (cI, 384, .inl (fun _ => 0)))]) := by
  refine entK RX0 (by decide +kernel) rfl rfl (by decide) (fun p e s m args below meth c h0 A C hin2 => ?_)
  refine K_aload_n C dX0_init_0 rfl rfl 0 rfl ?_
  refine K_obj C kM_X0_1 (Nat.le_of_ble_eq_true rfl) (Nat.le_of_ble_eq_true rfl) dX0_init_1 rfl ?_
  refine K_aload_n C dX0_init_4 rfl rfl 0 rfl ?_
  refine K_iconst (v := (-1 : Int32)) C dX0_init_5 rfl (by decide) ?_
  refine K_put (Cn := RX0) (T := TX0) (Nf := 2) (ci := 0) (v := .int (-1 : Int32)) (ws' := [(h0, .inr (0, [.null, .int (-1 : Int32)]))]) C inX0 tyX0 tyX0_ok nmX0 0 rfl rfl 1 (by decide) kF_X0_7 rfl rfl rfl rfl (Nat.le_of_ble_eq_true rfl) rfl dX0_init_6 rfl ?_
  refine K_aload_n C dX0_init_9 rfl rfl 0 rfl ?_
  refine K_iconst (v := (0 : Int32)) C dX0_init_10 rfl (by decide) ?_
  refine K_iload_n C dX0_init_11 rfl rfl 1 rfl ?_
  refine K_mmax (v := (384 : Int32)) C (by decide) kM_X0_13 kMath_max_s kMath_max_c (Nat.le_of_ble_eq_true rfl) (Nat.le_of_ble_eq_true rfl) (Nat.le_of_ble_eq_true rfl) (Nat.le_of_ble_eq_true rfl) dX0_init_12 rfl ?_
  refine K_newa (n' := 384) C (by decide) (by decide) (by decide) (Nat.le_of_ble_eq_true rfl) (Nat.le_of_ble_eq_true rfl) dX0_init_15 rfl (fun a1 => ?_)
  refine K_st (st' := [.ref a1, .ref h0]) (ws' := [(h0, .inr (0, [.null, .int (-1 : Int32)])), (a1, .inl (cI, 384, .inl (fun _ => 0)))]) rfl rfl ?_
  refine K_putF (Cn := RX0) (T := TX0) (Nf := 2) (ci := 0) (v := .ref a1) (ws' := [(h0, .inr (0, [.ref a1, .int (-1 : Int32)])), (a1, .inl (cI, 384, .inl (fun _ => 0)))]) C inX0 tyX0 tyX0_ok nmX0 0 rfl rfl 0 (by decide) kF_X0_19 rfl hin2 rfl rfl rfl rfl (Nat.le_of_ble_eq_true rfl) rfl dX0_init_17 rfl ?_
  exact K_vret C (⟨a1, rfl⟩) (Nat.le_of_ble_eq_true rfl) (Nat.le_of_ble_eq_true rfl) dX0_init_20
set_option maxHeartbeats 4000000 in
set_option maxRecDepth 100000 in
theorem c_X2_init (l : Launch) (D : va_G) (cI cR : ClassId) : MK l D cI cR yX2_init cX2_init 1 1 40 0 0 [] (.inr (1, [.null, .int (0 : Int32), .int (0 : Int32)])) (fun h0 w1 => w1 = [(h0, .inr (1, [.null, .int (0 : Int32), .int (0 : Int32)]))]) := by
  refine entK RX2 (by decide +kernel) rfl rfl (by decide) (fun p e s m args below meth c h0 A C hin2 => ?_)
  refine K_aload_n C dX2_init_0 rfl rfl 0 rfl ?_
  refine K_obj C kM_X2_3 (Nat.le_of_ble_eq_true rfl) (Nat.le_of_ble_eq_true rfl) dX2_init_1 rfl ?_
  exact K_vret C (rfl) (Nat.le_of_ble_eq_true rfl) (Nat.le_of_ble_eq_true rfl) dX2_init_4
set_option maxHeartbeats 4000000 in
set_option maxRecDepth 100000 in
theorem c_X3_init (l : Launch) (D : va_G) (cI cR : ClassId) : MK l D cI cR yX3_init cX3_init 1 2 80 10 418 [] (.inr (2, [.null, .null, .null, .null, .null, .int (0 : Int32)])) (fun h0 w1 => ∃ z0 z1 z2 z3 z4 z5 z6 z7 z8 z9 : Nat, w1 = [(h0, .inr (2, [.ref z0, .ref z2, .ref z4, .ref z6, .ref z8, .int (0 : Int32)])), (z0, .inr (0, [.ref z1, .int (-1 : Int32)])), (z1, .inl (cI, 384, .inl (fun _ => 0))), (z2, .inr (0, [.ref z3, .int (-1 : Int32)])), (z3, .inl (cI, 6, .inl (fun _ => 0))), (z4, .inr (0, [.ref z5, .int (-1 : Int32)])), (z5, .inl (cI, 6, .inl (fun _ => 0))), (z6, .inr (0, [.ref z7, .int (-1 : Int32)])), (z7, .inl (cI, 6, .inl (fun _ => 0))), (z8, .inr (0, [.ref z9, .int (-1 : Int32)])), (z9, .inl (cI, 6, .inl (fun _ => 0)))]) := by
  refine entK RX3 (by decide +kernel) rfl rfl (by decide) (fun p e s m args below meth c h0 A C hin2 => ?_)
  refine K_aload_n C dX3_init_0 rfl rfl 0 rfl ?_
  refine K_obj C kM_X3_3 (Nat.le_of_ble_eq_true rfl) (Nat.le_of_ble_eq_true rfl) dX3_init_1 rfl ?_
  refine K_aload_n C dX3_init_4 rfl rfl 0 rfl ?_
  refine K_new (Cn := RX0) (T := TX0) (Nf := 2) (ci := 0) (fs := [.null, .int (0 : Int32)]) C inX0 tyX0 tyX0_ok kC_X3_9 kI_RX0 kZ_RX0 rfl dfX0 (Nat.le_of_ble_eq_true rfl) (Nat.le_of_ble_eq_true rfl) dX3_init_5 rfl (fun h1 => ?_)
  refine K_st (st' := [.ref h1, .ref h0]) (ws' := [(h0, .inr (2, [.null, .null, .null, .null, .null, .int (0 : Int32)])), (h1, .inr (0, [.null, .int (0 : Int32)]))]) rfl rfl ?_
  refine K_dup C dX3_init_8 rfl rfl ?_
  refine K_sipush (v := (384 : Int32)) C dX3_init_9 rfl (by decide) ?_
  refine K_init (h := h1) (wr := [(h0, .inr (2, [.null, .null, .null, .null, .null, .int (0 : Int32)]))]) (rest := [.ref h1, .ref h0]) C (c_X0_init_384 l D cI cR) ok_X0_init kM_X3_11 rfl rfl rfl ⟨Nat.le_of_ble_eq_true rfl, Nat.le_of_ble_eq_true rfl⟩ (Nat.le_of_ble_eq_true rfl) ⟨Nat.le_of_ble_eq_true rfl, Nat.le_of_ble_eq_true rfl⟩ dX3_init_12 rfl (fun w1 hw => ?_)
  obtain ⟨b2, rfl⟩ := hw
  refine K_st (st' := [.ref h1, .ref h0]) (ws' := [(h0, .inr (2, [.null, .null, .null, .null, .null, .int (0 : Int32)])), (h1, .inr (0, [.ref b2, .int (-1 : Int32)])), (b2, .inl (cI, 384, .inl (fun _ => 0)))]) rfl rfl ?_
  refine K_putF (Cn := RX3) (T := TX3) (Nf := 6) (ci := 2) (v := .ref h1) (ws' := [(h0, .inr (2, [.ref h1, .null, .null, .null, .null, .int (0 : Int32)])), (h1, .inr (0, [.ref b2, .int (-1 : Int32)])), (b2, .inl (cI, 384, .inl (fun _ => 0)))]) C inX3 tyX3 tyX3_ok nmX3 0 rfl rfl 0 (by decide) kF_X3_14 rfl hin2 rfl rfl rfl rfl (Nat.le_of_ble_eq_true rfl) rfl dX3_init_15 rfl ?_
  refine K_aload_n C dX3_init_18 rfl rfl 0 rfl ?_
  refine K_new (Cn := RX0) (T := TX0) (Nf := 2) (ci := 0) (fs := [.null, .int (0 : Int32)]) C inX0 tyX0 tyX0_ok kC_X3_9 kI_RX0 kZ_RX0 rfl dfX0 (Nat.le_of_ble_eq_true rfl) (Nat.le_of_ble_eq_true rfl) dX3_init_19 rfl (fun h3 => ?_)
  refine K_st (st' := [.ref h3, .ref h0]) (ws' := [(h0, .inr (2, [.ref h1, .null, .null, .null, .null, .int (0 : Int32)])), (h1, .inr (0, [.ref b2, .int (-1 : Int32)])), (b2, .inl (cI, 384, .inl (fun _ => 0))), (h3, .inr (0, [.null, .int (0 : Int32)]))]) rfl rfl ?_
  refine K_dup C dX3_init_22 rfl rfl ?_
  refine K_bipush (v := (6 : Int32)) C dX3_init_23 rfl (by decide) ?_
  refine K_init (h := h3) (wr := [(h0, .inr (2, [.ref h1, .null, .null, .null, .null, .int (0 : Int32)])), (h1, .inr (0, [.ref b2, .int (-1 : Int32)])), (b2, .inl (cI, 384, .inl (fun _ => 0)))]) (rest := [.ref h3, .ref h0]) C (c_X0_init_6 l D cI cR) ok_X0_init kM_X3_11 rfl rfl rfl ⟨Nat.le_of_ble_eq_true rfl, Nat.le_of_ble_eq_true rfl⟩ (Nat.le_of_ble_eq_true rfl) ⟨Nat.le_of_ble_eq_true rfl, Nat.le_of_ble_eq_true rfl⟩ dX3_init_25 rfl (fun w1 hw => ?_)
  obtain ⟨b4, rfl⟩ := hw
  refine K_st (st' := [.ref h3, .ref h0]) (ws' := [(h0, .inr (2, [.ref h1, .null, .null, .null, .null, .int (0 : Int32)])), (h1, .inr (0, [.ref b2, .int (-1 : Int32)])), (b2, .inl (cI, 384, .inl (fun _ => 0))), (h3, .inr (0, [.ref b4, .int (-1 : Int32)])), (b4, .inl (cI, 6, .inl (fun _ => 0)))]) rfl rfl ?_
  refine K_putF (Cn := RX3) (T := TX3) (Nf := 6) (ci := 2) (v := .ref h3) (ws' := [(h0, .inr (2, [.ref h1, .ref h3, .null, .null, .null, .int (0 : Int32)])), (h1, .inr (0, [.ref b2, .int (-1 : Int32)])), (b2, .inl (cI, 384, .inl (fun _ => 0))), (h3, .inr (0, [.ref b4, .int (-1 : Int32)])), (b4, .inl (cI, 6, .inl (fun _ => 0)))]) C inX3 tyX3 tyX3_ok nmX3 0 rfl rfl 1 (by decide) kF_X3_20 rfl hin2 rfl rfl rfl rfl (Nat.le_of_ble_eq_true rfl) rfl dX3_init_28 rfl ?_
  refine K_aload_n C dX3_init_31 rfl rfl 0 rfl ?_
  refine K_new (Cn := RX0) (T := TX0) (Nf := 2) (ci := 0) (fs := [.null, .int (0 : Int32)]) C inX0 tyX0 tyX0_ok kC_X3_9 kI_RX0 kZ_RX0 rfl dfX0 (Nat.le_of_ble_eq_true rfl) (Nat.le_of_ble_eq_true rfl) dX3_init_32 rfl (fun h5 => ?_)
  refine K_st (st' := [.ref h5, .ref h0]) (ws' := [(h0, .inr (2, [.ref h1, .ref h3, .null, .null, .null, .int (0 : Int32)])), (h1, .inr (0, [.ref b2, .int (-1 : Int32)])), (b2, .inl (cI, 384, .inl (fun _ => 0))), (h3, .inr (0, [.ref b4, .int (-1 : Int32)])), (b4, .inl (cI, 6, .inl (fun _ => 0))), (h5, .inr (0, [.null, .int (0 : Int32)]))]) rfl rfl ?_
  refine K_dup C dX3_init_35 rfl rfl ?_
  refine K_bipush (v := (6 : Int32)) C dX3_init_36 rfl (by decide) ?_
  refine K_init (h := h5) (wr := [(h0, .inr (2, [.ref h1, .ref h3, .null, .null, .null, .int (0 : Int32)])), (h1, .inr (0, [.ref b2, .int (-1 : Int32)])), (b2, .inl (cI, 384, .inl (fun _ => 0))), (h3, .inr (0, [.ref b4, .int (-1 : Int32)])), (b4, .inl (cI, 6, .inl (fun _ => 0)))]) (rest := [.ref h5, .ref h0]) C (c_X0_init_6 l D cI cR) ok_X0_init kM_X3_11 rfl rfl rfl ⟨Nat.le_of_ble_eq_true rfl, Nat.le_of_ble_eq_true rfl⟩ (Nat.le_of_ble_eq_true rfl) ⟨Nat.le_of_ble_eq_true rfl, Nat.le_of_ble_eq_true rfl⟩ dX3_init_38 rfl (fun w1 hw => ?_)
  obtain ⟨b6, rfl⟩ := hw
  refine K_st (st' := [.ref h5, .ref h0]) (ws' := [(h0, .inr (2, [.ref h1, .ref h3, .null, .null, .null, .int (0 : Int32)])), (h1, .inr (0, [.ref b2, .int (-1 : Int32)])), (b2, .inl (cI, 384, .inl (fun _ => 0))), (h3, .inr (0, [.ref b4, .int (-1 : Int32)])), (b4, .inl (cI, 6, .inl (fun _ => 0))), (h5, .inr (0, [.ref b6, .int (-1 : Int32)])), (b6, .inl (cI, 6, .inl (fun _ => 0)))]) rfl rfl ?_
  refine K_putF (Cn := RX3) (T := TX3) (Nf := 6) (ci := 2) (v := .ref h5) (ws' := [(h0, .inr (2, [.ref h1, .ref h3, .ref h5, .null, .null, .int (0 : Int32)])), (h1, .inr (0, [.ref b2, .int (-1 : Int32)])), (b2, .inl (cI, 384, .inl (fun _ => 0))), (h3, .inr (0, [.ref b4, .int (-1 : Int32)])), (b4, .inl (cI, 6, .inl (fun _ => 0))), (h5, .inr (0, [.ref b6, .int (-1 : Int32)])), (b6, .inl (cI, 6, .inl (fun _ => 0)))]) C inX3 tyX3 tyX3_ok nmX3 0 rfl rfl 2 (by decide) kF_X3_23 rfl hin2 rfl rfl rfl rfl (Nat.le_of_ble_eq_true rfl) rfl dX3_init_41 rfl ?_
  refine K_aload_n C dX3_init_44 rfl rfl 0 rfl ?_
  refine K_new (Cn := RX0) (T := TX0) (Nf := 2) (ci := 0) (fs := [.null, .int (0 : Int32)]) C inX0 tyX0 tyX0_ok kC_X3_9 kI_RX0 kZ_RX0 rfl dfX0 (Nat.le_of_ble_eq_true rfl) (Nat.le_of_ble_eq_true rfl) dX3_init_45 rfl (fun h7 => ?_)
  refine K_st (st' := [.ref h7, .ref h0]) (ws' := [(h0, .inr (2, [.ref h1, .ref h3, .ref h5, .null, .null, .int (0 : Int32)])), (h1, .inr (0, [.ref b2, .int (-1 : Int32)])), (b2, .inl (cI, 384, .inl (fun _ => 0))), (h3, .inr (0, [.ref b4, .int (-1 : Int32)])), (b4, .inl (cI, 6, .inl (fun _ => 0))), (h5, .inr (0, [.ref b6, .int (-1 : Int32)])), (b6, .inl (cI, 6, .inl (fun _ => 0))), (h7, .inr (0, [.null, .int (0 : Int32)]))]) rfl rfl ?_
  refine K_dup C dX3_init_48 rfl rfl ?_
  refine K_bipush (v := (6 : Int32)) C dX3_init_49 rfl (by decide) ?_
  refine K_init (h := h7) (wr := [(h0, .inr (2, [.ref h1, .ref h3, .ref h5, .null, .null, .int (0 : Int32)])), (h1, .inr (0, [.ref b2, .int (-1 : Int32)])), (b2, .inl (cI, 384, .inl (fun _ => 0))), (h3, .inr (0, [.ref b4, .int (-1 : Int32)])), (b4, .inl (cI, 6, .inl (fun _ => 0))), (h5, .inr (0, [.ref b6, .int (-1 : Int32)])), (b6, .inl (cI, 6, .inl (fun _ => 0)))]) (rest := [.ref h7, .ref h0]) C (c_X0_init_6 l D cI cR) ok_X0_init kM_X3_11 rfl rfl rfl ⟨Nat.le_of_ble_eq_true rfl, Nat.le_of_ble_eq_true rfl⟩ (Nat.le_of_ble_eq_true rfl) ⟨Nat.le_of_ble_eq_true rfl, Nat.le_of_ble_eq_true rfl⟩ dX3_init_51 rfl (fun w1 hw => ?_)
  obtain ⟨b8, rfl⟩ := hw
  refine K_st (st' := [.ref h7, .ref h0]) (ws' := [(h0, .inr (2, [.ref h1, .ref h3, .ref h5, .null, .null, .int (0 : Int32)])), (h1, .inr (0, [.ref b2, .int (-1 : Int32)])), (b2, .inl (cI, 384, .inl (fun _ => 0))), (h3, .inr (0, [.ref b4, .int (-1 : Int32)])), (b4, .inl (cI, 6, .inl (fun _ => 0))), (h5, .inr (0, [.ref b6, .int (-1 : Int32)])), (b6, .inl (cI, 6, .inl (fun _ => 0))), (h7, .inr (0, [.ref b8, .int (-1 : Int32)])), (b8, .inl (cI, 6, .inl (fun _ => 0)))]) rfl rfl ?_
  refine K_putF (Cn := RX3) (T := TX3) (Nf := 6) (ci := 2) (v := .ref h7) (ws' := [(h0, .inr (2, [.ref h1, .ref h3, .ref h5, .ref h7, .null, .int (0 : Int32)])), (h1, .inr (0, [.ref b2, .int (-1 : Int32)])), (b2, .inl (cI, 384, .inl (fun _ => 0))), (h3, .inr (0, [.ref b4, .int (-1 : Int32)])), (b4, .inl (cI, 6, .inl (fun _ => 0))), (h5, .inr (0, [.ref b6, .int (-1 : Int32)])), (b6, .inl (cI, 6, .inl (fun _ => 0))), (h7, .inr (0, [.ref b8, .int (-1 : Int32)])), (b8, .inl (cI, 6, .inl (fun _ => 0)))]) C inX3 tyX3 tyX3_ok nmX3 0 rfl rfl 3 (by decide) kF_X3_26 rfl hin2 rfl rfl rfl rfl (Nat.le_of_ble_eq_true rfl) rfl dX3_init_54 rfl ?_
  refine K_aload_n C dX3_init_57 rfl rfl 0 rfl ?_
  refine K_new (Cn := RX0) (T := TX0) (Nf := 2) (ci := 0) (fs := [.null, .int (0 : Int32)]) C inX0 tyX0 tyX0_ok kC_X3_9 kI_RX0 kZ_RX0 rfl dfX0 (Nat.le_of_ble_eq_true rfl) (Nat.le_of_ble_eq_true rfl) dX3_init_58 rfl (fun h9 => ?_)
  refine K_st (st' := [.ref h9, .ref h0]) (ws' := [(h0, .inr (2, [.ref h1, .ref h3, .ref h5, .ref h7, .null, .int (0 : Int32)])), (h1, .inr (0, [.ref b2, .int (-1 : Int32)])), (b2, .inl (cI, 384, .inl (fun _ => 0))), (h3, .inr (0, [.ref b4, .int (-1 : Int32)])), (b4, .inl (cI, 6, .inl (fun _ => 0))), (h5, .inr (0, [.ref b6, .int (-1 : Int32)])), (b6, .inl (cI, 6, .inl (fun _ => 0))), (h7, .inr (0, [.ref b8, .int (-1 : Int32)])), (b8, .inl (cI, 6, .inl (fun _ => 0))), (h9, .inr (0, [.null, .int (0 : Int32)]))]) rfl rfl ?_
  refine K_dup C dX3_init_61 rfl rfl ?_
  refine K_bipush (v := (6 : Int32)) C dX3_init_62 rfl (by decide) ?_
  refine K_init (h := h9) (wr := [(h0, .inr (2, [.ref h1, .ref h3, .ref h5, .ref h7, .null, .int (0 : Int32)])), (h1, .inr (0, [.ref b2, .int (-1 : Int32)])), (b2, .inl (cI, 384, .inl (fun _ => 0))), (h3, .inr (0, [.ref b4, .int (-1 : Int32)])), (b4, .inl (cI, 6, .inl (fun _ => 0))), (h5, .inr (0, [.ref b6, .int (-1 : Int32)])), (b6, .inl (cI, 6, .inl (fun _ => 0))), (h7, .inr (0, [.ref b8, .int (-1 : Int32)])), (b8, .inl (cI, 6, .inl (fun _ => 0)))]) (rest := [.ref h9, .ref h0]) C (c_X0_init_6 l D cI cR) ok_X0_init kM_X3_11 rfl rfl rfl ⟨Nat.le_of_ble_eq_true rfl, Nat.le_of_ble_eq_true rfl⟩ (Nat.le_of_ble_eq_true rfl) ⟨Nat.le_of_ble_eq_true rfl, Nat.le_of_ble_eq_true rfl⟩ dX3_init_64 rfl (fun w1 hw => ?_)
  obtain ⟨b10, rfl⟩ := hw
  refine K_st (st' := [.ref h9, .ref h0]) (ws' := [(h0, .inr (2, [.ref h1, .ref h3, .ref h5, .ref h7, .null, .int (0 : Int32)])), (h1, .inr (0, [.ref b2, .int (-1 : Int32)])), (b2, .inl (cI, 384, .inl (fun _ => 0))), (h3, .inr (0, [.ref b4, .int (-1 : Int32)])), (b4, .inl (cI, 6, .inl (fun _ => 0))), (h5, .inr (0, [.ref b6, .int (-1 : Int32)])), (b6, .inl (cI, 6, .inl (fun _ => 0))), (h7, .inr (0, [.ref b8, .int (-1 : Int32)])), (b8, .inl (cI, 6, .inl (fun _ => 0))), (h9, .inr (0, [.ref b10, .int (-1 : Int32)])), (b10, .inl (cI, 6, .inl (fun _ => 0)))]) rfl rfl ?_
  refine K_putF (Cn := RX3) (T := TX3) (Nf := 6) (ci := 2) (v := .ref h9) (ws' := [(h0, .inr (2, [.ref h1, .ref h3, .ref h5, .ref h7, .ref h9, .int (0 : Int32)])), (h1, .inr (0, [.ref b2, .int (-1 : Int32)])), (b2, .inl (cI, 384, .inl (fun _ => 0))), (h3, .inr (0, [.ref b4, .int (-1 : Int32)])), (b4, .inl (cI, 6, .inl (fun _ => 0))), (h5, .inr (0, [.ref b6, .int (-1 : Int32)])), (b6, .inl (cI, 6, .inl (fun _ => 0))), (h7, .inr (0, [.ref b8, .int (-1 : Int32)])), (b8, .inl (cI, 6, .inl (fun _ => 0))), (h9, .inr (0, [.ref b10, .int (-1 : Int32)])), (b10, .inl (cI, 6, .inl (fun _ => 0)))]) C inX3 tyX3 tyX3_ok nmX3 0 rfl rfl 4 (by decide) kF_X3_29 rfl hin2 rfl rfl rfl rfl (Nat.le_of_ble_eq_true rfl) rfl dX3_init_67 rfl ?_
  exact K_vret C (⟨h1, b2, h3, b4, h5, b6, h7, b8, h9, b10, rfl⟩) (Nat.le_of_ble_eq_true rfl) (Nat.le_of_ble_eq_true rfl) dX3_init_70
set_option maxHeartbeats 4000000 in
set_option maxRecDepth 100000 in
theorem c_X4_init (l : Launch) (D : va_G) (cI cR : ClassId) : MK l D cI cR yX4_init cX4_init 1 2 80 14 90 [] (.inr (3, [.null, .null, .null, .null, .null, .null, .null, .int (0 : Int32), .int (0 : Int32), .int (0 : Int32), .int (0 : Int32), .int (0 : Int32), .int (0 : Int32), .int (0 : Int32), .int (0 : Int32)])) (fun h0 w1 => ∃ z0 z1 z2 z3 z4 z5 z6 z7 z8 z9 z10 z11 z12 z13 : Nat, w1 = [(h0, .inr (3, [.ref z0, .ref z2, .ref z4, .ref z6, .ref z8, .ref z10, .ref z12, .int (0 : Int32), .int (0 : Int32), .int (0 : Int32), .int (0 : Int32), .int (0 : Int32), .int (0 : Int32), .int (0 : Int32), .int (0 : Int32)])), (z0, .inr (0, [.ref z1, .int (-1 : Int32)])), (z1, .inl (cI, 6, .inl (fun _ => 0))), (z2, .inr (0, [.ref z3, .int (-1 : Int32)])), (z3, .inl (cI, 6, .inl (fun _ => 0))), (z4, .inr (0, [.ref z5, .int (-1 : Int32)])), (z5, .inl (cI, 6, .inl (fun _ => 0))), (z6, .inr (0, [.ref z7, .int (-1 : Int32)])), (z7, .inl (cI, 6, .inl (fun _ => 0))), (z8, .inr (0, [.ref z9, .int (-1 : Int32)])), (z9, .inl (cI, 6, .inl (fun _ => 0))), (z10, .inr (0, [.ref z11, .int (-1 : Int32)])), (z11, .inl (cI, 6, .inl (fun _ => 0))), (z12, .inr (0, [.ref z13, .int (0 : Int32)])), (z13, .inl (cI, 40, .inl (fun _ => 0)))]) := by
  refine entK RX4 (by decide +kernel) rfl rfl (by decide) (fun p e s m args below meth c h0 A C hin2 => ?_)
  refine K_aload_n C dX4_init_0 rfl rfl 0 rfl ?_
  refine K_obj C kM_X4_3 (Nat.le_of_ble_eq_true rfl) (Nat.le_of_ble_eq_true rfl) dX4_init_1 rfl ?_
  refine K_aload_n C dX4_init_4 rfl rfl 0 rfl ?_
  refine K_new (Cn := RX0) (T := TX0) (Nf := 2) (ci := 0) (fs := [.null, .int (0 : Int32)]) C inX0 tyX0 tyX0_ok kC_X4_9 kI_RX0 kZ_RX0 rfl dfX0 (Nat.le_of_ble_eq_true rfl) (Nat.le_of_ble_eq_true rfl) dX4_init_5 rfl (fun h1 => ?_)
  refine K_st (st' := [.ref h1, .ref h0]) (ws' := [(h0, .inr (3, [.null, .null, .null, .null, .null, .null, .null, .int (0 : Int32), .int (0 : Int32), .int (0 : Int32), .int (0 : Int32), .int (0 : Int32), .int (0 : Int32), .int (0 : Int32), .int (0 : Int32)])), (h1, .inr (0, [.null, .int (0 : Int32)]))]) rfl rfl ?_
  refine K_dup C dX4_init_8 rfl rfl ?_
  refine K_bipush (v := (6 : Int32)) C dX4_init_9 rfl (by decide) ?_
  refine K_init (h := h1) (wr := [(h0, .inr (3, [.null, .null, .null, .null, .null, .null, .null, .int (0 : Int32), .int (0 : Int32), .int (0 : Int32), .int (0 : Int32), .int (0 : Int32), .int (0 : Int32), .int (0 : Int32), .int (0 : Int32)]))]) (rest := [.ref h1, .ref h0]) C (c_X0_init_6 l D cI cR) ok_X0_init kM_X4_11 rfl rfl rfl ⟨Nat.le_of_ble_eq_true rfl, Nat.le_of_ble_eq_true rfl⟩ (Nat.le_of_ble_eq_true rfl) ⟨Nat.le_of_ble_eq_true rfl, Nat.le_of_ble_eq_true rfl⟩ dX4_init_11 rfl (fun w1 hw => ?_)
  obtain ⟨b2, rfl⟩ := hw
  refine K_st (st' := [.ref h1, .ref h0]) (ws' := [(h0, .inr (3, [.null, .null, .null, .null, .null, .null, .null, .int (0 : Int32), .int (0 : Int32), .int (0 : Int32), .int (0 : Int32), .int (0 : Int32), .int (0 : Int32), .int (0 : Int32), .int (0 : Int32)])), (h1, .inr (0, [.ref b2, .int (-1 : Int32)])), (b2, .inl (cI, 6, .inl (fun _ => 0)))]) rfl rfl ?_
  refine K_putF (Cn := RX4) (T := TX4) (Nf := 15) (ci := 3) (v := .ref h1) (ws' := [(h0, .inr (3, [.ref h1, .null, .null, .null, .null, .null, .null, .int (0 : Int32), .int (0 : Int32), .int (0 : Int32), .int (0 : Int32), .int (0 : Int32), .int (0 : Int32), .int (0 : Int32), .int (0 : Int32)])), (h1, .inr (0, [.ref b2, .int (-1 : Int32)])), (b2, .inl (cI, 6, .inl (fun _ => 0)))]) C inX4 tyX4 tyX4_ok nmX4 0 rfl rfl 0 (by decide) kF_X4_14 rfl hin2 rfl rfl rfl rfl (Nat.le_of_ble_eq_true rfl) rfl dX4_init_14 rfl ?_
  refine K_aload_n C dX4_init_17 rfl rfl 0 rfl ?_
  refine K_new (Cn := RX0) (T := TX0) (Nf := 2) (ci := 0) (fs := [.null, .int (0 : Int32)]) C inX0 tyX0 tyX0_ok kC_X4_9 kI_RX0 kZ_RX0 rfl dfX0 (Nat.le_of_ble_eq_true rfl) (Nat.le_of_ble_eq_true rfl) dX4_init_18 rfl (fun h3 => ?_)
  refine K_st (st' := [.ref h3, .ref h0]) (ws' := [(h0, .inr (3, [.ref h1, .null, .null, .null, .null, .null, .null, .int (0 : Int32), .int (0 : Int32), .int (0 : Int32), .int (0 : Int32), .int (0 : Int32), .int (0 : Int32), .int (0 : Int32), .int (0 : Int32)])), (h1, .inr (0, [.ref b2, .int (-1 : Int32)])), (b2, .inl (cI, 6, .inl (fun _ => 0))), (h3, .inr (0, [.null, .int (0 : Int32)]))]) rfl rfl ?_
  refine K_dup C dX4_init_21 rfl rfl ?_
  refine K_bipush (v := (6 : Int32)) C dX4_init_22 rfl (by decide) ?_
  refine K_init (h := h3) (wr := [(h0, .inr (3, [.ref h1, .null, .null, .null, .null, .null, .null, .int (0 : Int32), .int (0 : Int32), .int (0 : Int32), .int (0 : Int32), .int (0 : Int32), .int (0 : Int32), .int (0 : Int32), .int (0 : Int32)])), (h1, .inr (0, [.ref b2, .int (-1 : Int32)])), (b2, .inl (cI, 6, .inl (fun _ => 0)))]) (rest := [.ref h3, .ref h0]) C (c_X0_init_6 l D cI cR) ok_X0_init kM_X4_11 rfl rfl rfl ⟨Nat.le_of_ble_eq_true rfl, Nat.le_of_ble_eq_true rfl⟩ (Nat.le_of_ble_eq_true rfl) ⟨Nat.le_of_ble_eq_true rfl, Nat.le_of_ble_eq_true rfl⟩ dX4_init_24 rfl (fun w1 hw => ?_)
  obtain ⟨b4, rfl⟩ := hw
  refine K_st (st' := [.ref h3, .ref h0]) (ws' := [(h0, .inr (3, [.ref h1, .null, .null, .null, .null, .null, .null, .int (0 : Int32), .int (0 : Int32), .int (0 : Int32), .int (0 : Int32), .int (0 : Int32), .int (0 : Int32), .int (0 : Int32), .int (0 : Int32)])), (h1, .inr (0, [.ref b2, .int (-1 : Int32)])), (b2, .inl (cI, 6, .inl (fun _ => 0))), (h3, .inr (0, [.ref b4, .int (-1 : Int32)])), (b4, .inl (cI, 6, .inl (fun _ => 0)))]) rfl rfl ?_
  refine K_putF (Cn := RX4) (T := TX4) (Nf := 15) (ci := 3) (v := .ref h3) (ws' := [(h0, .inr (3, [.ref h1, .ref h3, .null, .null, .null, .null, .null, .int (0 : Int32), .int (0 : Int32), .int (0 : Int32), .int (0 : Int32), .int (0 : Int32), .int (0 : Int32), .int (0 : Int32), .int (0 : Int32)])), (h1, .inr (0, [.ref b2, .int (-1 : Int32)])), (b2, .inl (cI, 6, .inl (fun _ => 0))), (h3, .inr (0, [.ref b4, .int (-1 : Int32)])), (b4, .inl (cI, 6, .inl (fun _ => 0)))]) C inX4 tyX4 tyX4_ok nmX4 0 rfl rfl 1 (by decide) kF_X4_20 rfl hin2 rfl rfl rfl rfl (Nat.le_of_ble_eq_true rfl) rfl dX4_init_27 rfl ?_
  refine K_aload_n C dX4_init_30 rfl rfl 0 rfl ?_
  refine K_new (Cn := RX0) (T := TX0) (Nf := 2) (ci := 0) (fs := [.null, .int (0 : Int32)]) C inX0 tyX0 tyX0_ok kC_X4_9 kI_RX0 kZ_RX0 rfl dfX0 (Nat.le_of_ble_eq_true rfl) (Nat.le_of_ble_eq_true rfl) dX4_init_31 rfl (fun h5 => ?_)
  refine K_st (st' := [.ref h5, .ref h0]) (ws' := [(h0, .inr (3, [.ref h1, .ref h3, .null, .null, .null, .null, .null, .int (0 : Int32), .int (0 : Int32), .int (0 : Int32), .int (0 : Int32), .int (0 : Int32), .int (0 : Int32), .int (0 : Int32), .int (0 : Int32)])), (h1, .inr (0, [.ref b2, .int (-1 : Int32)])), (b2, .inl (cI, 6, .inl (fun _ => 0))), (h3, .inr (0, [.ref b4, .int (-1 : Int32)])), (b4, .inl (cI, 6, .inl (fun _ => 0))), (h5, .inr (0, [.null, .int (0 : Int32)]))]) rfl rfl ?_
  refine K_dup C dX4_init_34 rfl rfl ?_
  refine K_bipush (v := (6 : Int32)) C dX4_init_35 rfl (by decide) ?_
  refine K_init (h := h5) (wr := [(h0, .inr (3, [.ref h1, .ref h3, .null, .null, .null, .null, .null, .int (0 : Int32), .int (0 : Int32), .int (0 : Int32), .int (0 : Int32), .int (0 : Int32), .int (0 : Int32), .int (0 : Int32), .int (0 : Int32)])), (h1, .inr (0, [.ref b2, .int (-1 : Int32)])), (b2, .inl (cI, 6, .inl (fun _ => 0))), (h3, .inr (0, [.ref b4, .int (-1 : Int32)])), (b4, .inl (cI, 6, .inl (fun _ => 0)))]) (rest := [.ref h5, .ref h0]) C (c_X0_init_6 l D cI cR) ok_X0_init kM_X4_11 rfl rfl rfl ⟨Nat.le_of_ble_eq_true rfl, Nat.le_of_ble_eq_true rfl⟩ (Nat.le_of_ble_eq_true rfl) ⟨Nat.le_of_ble_eq_true rfl, Nat.le_of_ble_eq_true rfl⟩ dX4_init_37 rfl (fun w1 hw => ?_)
  obtain ⟨b6, rfl⟩ := hw
  refine K_st (st' := [.ref h5, .ref h0]) (ws' := [(h0, .inr (3, [.ref h1, .ref h3, .null, .null, .null, .null, .null, .int (0 : Int32), .int (0 : Int32), .int (0 : Int32), .int (0 : Int32), .int (0 : Int32), .int (0 : Int32), .int (0 : Int32), .int (0 : Int32)])), (h1, .inr (0, [.ref b2, .int (-1 : Int32)])), (b2, .inl (cI, 6, .inl (fun _ => 0))), (h3, .inr (0, [.ref b4, .int (-1 : Int32)])), (b4, .inl (cI, 6, .inl (fun _ => 0))), (h5, .inr (0, [.ref b6, .int (-1 : Int32)])), (b6, .inl (cI, 6, .inl (fun _ => 0)))]) rfl rfl ?_
  refine K_putF (Cn := RX4) (T := TX4) (Nf := 15) (ci := 3) (v := .ref h5) (ws' := [(h0, .inr (3, [.ref h1, .ref h3, .ref h5, .null, .null, .null, .null, .int (0 : Int32), .int (0 : Int32), .int (0 : Int32), .int (0 : Int32), .int (0 : Int32), .int (0 : Int32), .int (0 : Int32), .int (0 : Int32)])), (h1, .inr (0, [.ref b2, .int (-1 : Int32)])), (b2, .inl (cI, 6, .inl (fun _ => 0))), (h3, .inr (0, [.ref b4, .int (-1 : Int32)])), (b4, .inl (cI, 6, .inl (fun _ => 0))), (h5, .inr (0, [.ref b6, .int (-1 : Int32)])), (b6, .inl (cI, 6, .inl (fun _ => 0)))]) C inX4 tyX4 tyX4_ok nmX4 0 rfl rfl 2 (by decide) kF_X4_23 rfl hin2 rfl rfl rfl rfl (Nat.le_of_ble_eq_true rfl) rfl dX4_init_40 rfl ?_
  refine K_aload_n C dX4_init_43 rfl rfl 0 rfl ?_
  refine K_new (Cn := RX0) (T := TX0) (Nf := 2) (ci := 0) (fs := [.null, .int (0 : Int32)]) C inX0 tyX0 tyX0_ok kC_X4_9 kI_RX0 kZ_RX0 rfl dfX0 (Nat.le_of_ble_eq_true rfl) (Nat.le_of_ble_eq_true rfl) dX4_init_44 rfl (fun h7 => ?_)
  refine K_st (st' := [.ref h7, .ref h0]) (ws' := [(h0, .inr (3, [.ref h1, .ref h3, .ref h5, .null, .null, .null, .null, .int (0 : Int32), .int (0 : Int32), .int (0 : Int32), .int (0 : Int32), .int (0 : Int32), .int (0 : Int32), .int (0 : Int32), .int (0 : Int32)])), (h1, .inr (0, [.ref b2, .int (-1 : Int32)])), (b2, .inl (cI, 6, .inl (fun _ => 0))), (h3, .inr (0, [.ref b4, .int (-1 : Int32)])), (b4, .inl (cI, 6, .inl (fun _ => 0))), (h5, .inr (0, [.ref b6, .int (-1 : Int32)])), (b6, .inl (cI, 6, .inl (fun _ => 0))), (h7, .inr (0, [.null, .int (0 : Int32)]))]) rfl rfl ?_
  refine K_dup C dX4_init_47 rfl rfl ?_
  refine K_bipush (v := (6 : Int32)) C dX4_init_48 rfl (by decide) ?_
  refine K_init (h := h7) (wr := [(h0, .inr (3, [.ref h1, .ref h3, .ref h5, .null, .null, .null, .null, .int (0 : Int32), .int (0 : Int32), .int (0 : Int32), .int (0 : Int32), .int (0 : Int32), .int (0 : Int32), .int (0 : Int32), .int (0 : Int32)])), (h1, .inr (0, [.ref b2, .int (-1 : Int32)])), (b2, .inl (cI, 6, .inl (fun _ => 0))), (h3, .inr (0, [.ref b4, .int (-1 : Int32)])), (b4, .inl (cI, 6, .inl (fun _ => 0))), (h5, .inr (0, [.ref b6, .int (-1 : Int32)])), (b6, .inl (cI, 6, .inl (fun _ => 0)))]) (rest := [.ref h7, .ref h0]) C (c_X0_init_6 l D cI cR) ok_X0_init kM_X4_11 rfl rfl rfl ⟨Nat.le_of_ble_eq_true rfl, Nat.le_of_ble_eq_true rfl⟩ (Nat.le_of_ble_eq_true rfl) ⟨Nat.le_of_ble_eq_true rfl, Nat.le_of_ble_eq_true rfl⟩ dX4_init_50 rfl (fun w1 hw => ?_)
  obtain ⟨b8, rfl⟩ := hw
  refine K_st (st' := [.ref h7, .ref h0]) (ws' := [(h0, .inr (3, [.ref h1, .ref h3, .ref h5, .null, .null, .null, .null, .int (0 : Int32), .int (0 : Int32), .int (0 : Int32), .int (0 : Int32), .int (0 : Int32), .int (0 : Int32), .int (0 : Int32), .int (0 : Int32)])), (h1, .inr (0, [.ref b2, .int (-1 : Int32)])), (b2, .inl (cI, 6, .inl (fun _ => 0))), (h3, .inr (0, [.ref b4, .int (-1 : Int32)])), (b4, .inl (cI, 6, .inl (fun _ => 0))), (h5, .inr (0, [.ref b6, .int (-1 : Int32)])), (b6, .inl (cI, 6, .inl (fun _ => 0))), (h7, .inr (0, [.ref b8, .int (-1 : Int32)])), (b8, .inl (cI, 6, .inl (fun _ => 0)))]) rfl rfl ?_
  refine K_putF (Cn := RX4) (T := TX4) (Nf := 15) (ci := 3) (v := .ref h7) (ws' := [(h0, .inr (3, [.ref h1, .ref h3, .ref h5, .ref h7, .null, .null, .null, .int (0 : Int32), .int (0 : Int32), .int (0 : Int32), .int (0 : Int32), .int (0 : Int32), .int (0 : Int32), .int (0 : Int32), .int (0 : Int32)])), (h1, .inr (0, [.ref b2, .int (-1 : Int32)])), (b2, .inl (cI, 6, .inl (fun _ => 0))), (h3, .inr (0, [.ref b4, .int (-1 : Int32)])), (b4, .inl (cI, 6, .inl (fun _ => 0))), (h5, .inr (0, [.ref b6, .int (-1 : Int32)])), (b6, .inl (cI, 6, .inl (fun _ => 0))), (h7, .inr (0, [.ref b8, .int (-1 : Int32)])), (b8, .inl (cI, 6, .inl (fun _ => 0)))]) C inX4 tyX4 tyX4_ok nmX4 0 rfl rfl 3 (by decide) kF_X4_26 rfl hin2 rfl rfl rfl rfl (Nat.le_of_ble_eq_true rfl) rfl dX4_init_53 rfl ?_
  refine K_aload_n C dX4_init_56 rfl rfl 0 rfl ?_
  refine K_new (Cn := RX0) (T := TX0) (Nf := 2) (ci := 0) (fs := [.null, .int (0 : Int32)]) C inX0 tyX0 tyX0_ok kC_X4_9 kI_RX0 kZ_RX0 rfl dfX0 (Nat.le_of_ble_eq_true rfl) (Nat.le_of_ble_eq_true rfl) dX4_init_57 rfl (fun h9 => ?_)
  refine K_st (st' := [.ref h9, .ref h0]) (ws' := [(h0, .inr (3, [.ref h1, .ref h3, .ref h5, .ref h7, .null, .null, .null, .int (0 : Int32), .int (0 : Int32), .int (0 : Int32), .int (0 : Int32), .int (0 : Int32), .int (0 : Int32), .int (0 : Int32), .int (0 : Int32)])), (h1, .inr (0, [.ref b2, .int (-1 : Int32)])), (b2, .inl (cI, 6, .inl (fun _ => 0))), (h3, .inr (0, [.ref b4, .int (-1 : Int32)])), (b4, .inl (cI, 6, .inl (fun _ => 0))), (h5, .inr (0, [.ref b6, .int (-1 : Int32)])), (b6, .inl (cI, 6, .inl (fun _ => 0))), (h7, .inr (0, [.ref b8, .int (-1 : Int32)])), (b8, .inl (cI, 6, .inl (fun _ => 0))), (h9, .inr (0, [.null, .int (0 : Int32)]))]) rfl rfl ?_
  refine K_dup C dX4_init_60 rfl rfl ?_
  refine K_bipush (v := (6 : Int32)) C dX4_init_61 rfl (by decide) ?_
  refine K_init (h := h9) (wr := [(h0, .inr (3, [.ref h1, .ref h3, .ref h5, .ref h7, .null, .null, .null, .int (0 : Int32), .int (0 : Int32), .int (0 : Int32), .int (0 : Int32), .int (0 : Int32), .int (0 : Int32), .int (0 : Int32), .int (0 : Int32)])), (h1, .inr (0, [.ref b2, .int (-1 : Int32)])), (b2, .inl (cI, 6, .inl (fun _ => 0))), (h3, .inr (0, [.ref b4, .int (-1 : Int32)])), (b4, .inl (cI, 6, .inl (fun _ => 0))), (h5, .inr (0, [.ref b6, .int (-1 : Int32)])), (b6, .inl (cI, 6, .inl (fun _ => 0))), (h7, .inr (0, [.ref b8, .int (-1 : Int32)])), (b8, .inl (cI, 6, .inl (fun _ => 0)))]) (rest := [.ref h9, .ref h0]) C (c_X0_init_6 l D cI cR) ok_X0_init kM_X4_11 rfl rfl rfl ⟨Nat.le_of_ble_eq_true rfl, Nat.le_of_ble_eq_true rfl⟩ (Nat.le_of_ble_eq_true rfl) ⟨Nat.le_of_ble_eq_true rfl, Nat.le_of_ble_eq_true rfl⟩ dX4_init_63 rfl (fun w1 hw => ?_)
  obtain ⟨b10, rfl⟩ := hw
  refine K_st (st' := [.ref h9, .ref h0]) (ws' := [(h0, .inr (3, [.ref h1, .ref h3, .ref h5, .ref h7, .null, .null, .null, .int (0 : Int32), .int (0 : Int32), .int (0 : Int32), .int (0 : Int32), .int (0 : Int32), .int (0 : Int32), .int (0 : Int32), .int (0 : Int32)])), (h1, .inr (0, [.ref b2, .int (-1 : Int32)])), (b2, .inl (cI, 6, .inl (fun _ => 0))), (h3, .inr (0, [.ref b4, .int (-1 : Int32)])), (b4, .inl (cI, 6, .inl (fun _ => 0))), (h5, .inr (0, [.ref b6, .int (-1 : Int32)])), (b6, .inl (cI, 6, .inl (fun _ => 0))), (h7, .inr (0, [.ref b8, .int (-1 : Int32)])), (b8, .inl (cI, 6, .inl (fun _ => 0))), (h9, .inr (0, [.ref b10, .int (-1 : Int32)])), (b10, .inl (cI, 6, .inl (fun _ => 0)))]) rfl rfl ?_
  refine K_putF (Cn := RX4) (T := TX4) (Nf := 15) (ci := 3) (v := .ref h9) (ws' := [(h0, .inr (3, [.ref h1, .ref h3, .ref h5, .ref h7, .ref h9, .null, .null, .int (0 : Int32), .int (0 : Int32), .int (0 : Int32), .int (0 : Int32), .int (0 : Int32), .int (0 : Int32), .int (0 : Int32), .int (0 : Int32)])), (h1, .inr (0, [.ref b2, .int (-1 : Int32)])), (b2, .inl (cI, 6, .inl (fun _ => 0))), (h3, .inr (0, [.ref b4, .int (-1 : Int32)])), (b4, .inl (cI, 6, .inl (fun _ => 0))), (h5, .inr (0, [.ref b6, .int (-1 : Int32)])), (b6, .inl (cI, 6, .inl (fun _ => 0))), (h7, .inr (0, [.ref b8, .int (-1 : Int32)])), (b8, .inl (cI, 6, .inl (fun _ => 0))), (h9, .inr (0, [.ref b10, .int (-1 : Int32)])), (b10, .inl (cI, 6, .inl (fun _ => 0)))]) C inX4 tyX4 tyX4_ok nmX4 0 rfl rfl 4 (by decide) kF_X4_29 rfl hin2 rfl rfl rfl rfl (Nat.le_of_ble_eq_true rfl) rfl dX4_init_66 rfl ?_
  refine K_aload_n C dX4_init_69 rfl rfl 0 rfl ?_
  refine K_new (Cn := RX0) (T := TX0) (Nf := 2) (ci := 0) (fs := [.null, .int (0 : Int32)]) C inX0 tyX0 tyX0_ok kC_X4_9 kI_RX0 kZ_RX0 rfl dfX0 (Nat.le_of_ble_eq_true rfl) (Nat.le_of_ble_eq_true rfl) dX4_init_70 rfl (fun h11 => ?_)
  refine K_st (st' := [.ref h11, .ref h0]) (ws' := [(h0, .inr (3, [.ref h1, .ref h3, .ref h5, .ref h7, .ref h9, .null, .null, .int (0 : Int32), .int (0 : Int32), .int (0 : Int32), .int (0 : Int32), .int (0 : Int32), .int (0 : Int32), .int (0 : Int32), .int (0 : Int32)])), (h1, .inr (0, [.ref b2, .int (-1 : Int32)])), (b2, .inl (cI, 6, .inl (fun _ => 0))), (h3, .inr (0, [.ref b4, .int (-1 : Int32)])), (b4, .inl (cI, 6, .inl (fun _ => 0))), (h5, .inr (0, [.ref b6, .int (-1 : Int32)])), (b6, .inl (cI, 6, .inl (fun _ => 0))), (h7, .inr (0, [.ref b8, .int (-1 : Int32)])), (b8, .inl (cI, 6, .inl (fun _ => 0))), (h9, .inr (0, [.ref b10, .int (-1 : Int32)])), (b10, .inl (cI, 6, .inl (fun _ => 0))), (h11, .inr (0, [.null, .int (0 : Int32)]))]) rfl rfl ?_
  refine K_dup C dX4_init_73 rfl rfl ?_
  refine K_bipush (v := (6 : Int32)) C dX4_init_74 rfl (by decide) ?_
  refine K_init (h := h11) (wr := [(h0, .inr (3, [.ref h1, .ref h3, .ref h5, .ref h7, .ref h9, .null, .null, .int (0 : Int32), .int (0 : Int32), .int (0 : Int32), .int (0 : Int32), .int (0 : Int32), .int (0 : Int32), .int (0 : Int32), .int (0 : Int32)])), (h1, .inr (0, [.ref b2, .int (-1 : Int32)])), (b2, .inl (cI, 6, .inl (fun _ => 0))), (h3, .inr (0, [.ref b4, .int (-1 : Int32)])), (b4, .inl (cI, 6, .inl (fun _ => 0))), (h5, .inr (0, [.ref b6, .int (-1 : Int32)])), (b6, .inl (cI, 6, .inl (fun _ => 0))), (h7, .inr (0, [.ref b8, .int (-1 : Int32)])), (b8, .inl (cI, 6, .inl (fun _ => 0))), (h9, .inr (0, [.ref b10, .int (-1 : Int32)])), (b10, .inl (cI, 6, .inl (fun _ => 0)))]) (rest := [.ref h11, .ref h0]) C (c_X0_init_6 l D cI cR) ok_X0_init kM_X4_11 rfl rfl rfl ⟨Nat.le_of_ble_eq_true rfl, Nat.le_of_ble_eq_true rfl⟩ (Nat.le_of_ble_eq_true rfl) ⟨Nat.le_of_ble_eq_true rfl, Nat.le_of_ble_eq_true rfl⟩ dX4_init_76 rfl (fun w1 hw => ?_)
  obtain ⟨b12, rfl⟩ := hw
  refine K_st (st' := [.ref h11, .ref h0]) (ws' := [(h0, .inr (3, [.ref h1, .ref h3, .ref h5, .ref h7, .ref h9, .null, .null, .int (0 : Int32), .int (0 : Int32), .int (0 : Int32), .int (0 : Int32), .int (0 : Int32), .int (0 : Int32), .int (0 : Int32), .int (0 : Int32)])), (h1, .inr (0, [.ref b2, .int (-1 : Int32)])), (b2, .inl (cI, 6, .inl (fun _ => 0))), (h3, .inr (0, [.ref b4, .int (-1 : Int32)])), (b4, .inl (cI, 6, .inl (fun _ => 0))), (h5, .inr (0, [.ref b6, .int (-1 : Int32)])), (b6, .inl (cI, 6, .inl (fun _ => 0))), (h7, .inr (0, [.ref b8, .int (-1 : Int32)])), (b8, .inl (cI, 6, .inl (fun _ => 0))), (h9, .inr (0, [.ref b10, .int (-1 : Int32)])), (b10, .inl (cI, 6, .inl (fun _ => 0))), (h11, .inr (0, [.ref b12, .int (-1 : Int32)])), (b12, .inl (cI, 6, .inl (fun _ => 0)))]) rfl rfl ?_
  refine K_putF (Cn := RX4) (T := TX4) (Nf := 15) (ci := 3) (v := .ref h11) (ws' := [(h0, .inr (3, [.ref h1, .ref h3, .ref h5, .ref h7, .ref h9, .ref h11, .null, .int (0 : Int32), .int (0 : Int32), .int (0 : Int32), .int (0 : Int32), .int (0 : Int32), .int (0 : Int32), .int (0 : Int32), .int (0 : Int32)])), (h1, .inr (0, [.ref b2, .int (-1 : Int32)])), (b2, .inl (cI, 6, .inl (fun _ => 0))), (h3, .inr (0, [.ref b4, .int (-1 : Int32)])), (b4, .inl (cI, 6, .inl (fun _ => 0))), (h5, .inr (0, [.ref b6, .int (-1 : Int32)])), (b6, .inl (cI, 6, .inl (fun _ => 0))), (h7, .inr (0, [.ref b8, .int (-1 : Int32)])), (b8, .inl (cI, 6, .inl (fun _ => 0))), (h9, .inr (0, [.ref b10, .int (-1 : Int32)])), (b10, .inl (cI, 6, .inl (fun _ => 0))), (h11, .inr (0, [.ref b12, .int (-1 : Int32)])), (b12, .inl (cI, 6, .inl (fun _ => 0)))]) C inX4 tyX4 tyX4_ok nmX4 0 rfl rfl 5 (by decide) kF_X4_32 rfl hin2 rfl rfl rfl rfl (Nat.le_of_ble_eq_true rfl) rfl dX4_init_79 rfl ?_
  refine K_aload_n C dX4_init_82 rfl rfl 0 rfl ?_
  refine K_new (Cn := RX0) (T := TX0) (Nf := 2) (ci := 0) (fs := [.null, .int (0 : Int32)]) C inX0 tyX0 tyX0_ok kC_X4_9 kI_RX0 kZ_RX0 rfl dfX0 (Nat.le_of_ble_eq_true rfl) (Nat.le_of_ble_eq_true rfl) dX4_init_83 rfl (fun h13 => ?_)
  refine K_st (st' := [.ref h13, .ref h0]) (ws' := [(h0, .inr (3, [.ref h1, .ref h3, .ref h5, .ref h7, .ref h9, .ref h11, .null, .int (0 : Int32), .int (0 : Int32), .int (0 : Int32), .int (0 : Int32), .int (0 : Int32), .int (0 : Int32), .int (0 : Int32), .int (0 : Int32)])), (h1, .inr (0, [.ref b2, .int (-1 : Int32)])), (b2, .inl (cI, 6, .inl (fun _ => 0))), (h3, .inr (0, [.ref b4, .int (-1 : Int32)])), (b4, .inl (cI, 6, .inl (fun _ => 0))), (h5, .inr (0, [.ref b6, .int (-1 : Int32)])), (b6, .inl (cI, 6, .inl (fun _ => 0))), (h7, .inr (0, [.ref b8, .int (-1 : Int32)])), (b8, .inl (cI, 6, .inl (fun _ => 0))), (h9, .inr (0, [.ref b10, .int (-1 : Int32)])), (b10, .inl (cI, 6, .inl (fun _ => 0))), (h11, .inr (0, [.ref b12, .int (-1 : Int32)])), (b12, .inl (cI, 6, .inl (fun _ => 0))), (h13, .inr (0, [.null, .int (0 : Int32)]))]) rfl rfl ?_
  refine K_dup C dX4_init_86 rfl rfl ?_
  refine K_bipush (v := (40 : Int32)) C dX4_init_87 rfl (by decide) ?_
  refine K_init (h := h13) (wr := [(h0, .inr (3, [.ref h1, .ref h3, .ref h5, .ref h7, .ref h9, .ref h11, .null, .int (0 : Int32), .int (0 : Int32), .int (0 : Int32), .int (0 : Int32), .int (0 : Int32), .int (0 : Int32), .int (0 : Int32), .int (0 : Int32)])), (h1, .inr (0, [.ref b2, .int (-1 : Int32)])), (b2, .inl (cI, 6, .inl (fun _ => 0))), (h3, .inr (0, [.ref b4, .int (-1 : Int32)])), (b4, .inl (cI, 6, .inl (fun _ => 0))), (h5, .inr (0, [.ref b6, .int (-1 : Int32)])), (b6, .inl (cI, 6, .inl (fun _ => 0))), (h7, .inr (0, [.ref b8, .int (-1 : Int32)])), (b8, .inl (cI, 6, .inl (fun _ => 0))), (h9, .inr (0, [.ref b10, .int (-1 : Int32)])), (b10, .inl (cI, 6, .inl (fun _ => 0))), (h11, .inr (0, [.ref b12, .int (-1 : Int32)])), (b12, .inl (cI, 6, .inl (fun _ => 0)))]) (rest := [.ref h13, .ref h0]) C (c_X0_init_40 l D cI cR) ok_X0_init kM_X4_11 rfl rfl rfl ⟨Nat.le_of_ble_eq_true rfl, Nat.le_of_ble_eq_true rfl⟩ (Nat.le_of_ble_eq_true rfl) ⟨Nat.le_of_ble_eq_true rfl, Nat.le_of_ble_eq_true rfl⟩ dX4_init_89 rfl (fun w1 hw => ?_)
  obtain ⟨b14, rfl⟩ := hw
  refine K_st (st' := [.ref h13, .ref h0]) (ws' := [(h0, .inr (3, [.ref h1, .ref h3, .ref h5, .ref h7, .ref h9, .ref h11, .null, .int (0 : Int32), .int (0 : Int32), .int (0 : Int32), .int (0 : Int32), .int (0 : Int32), .int (0 : Int32), .int (0 : Int32), .int (0 : Int32)])), (h1, .inr (0, [.ref b2, .int (-1 : Int32)])), (b2, .inl (cI, 6, .inl (fun _ => 0))), (h3, .inr (0, [.ref b4, .int (-1 : Int32)])), (b4, .inl (cI, 6, .inl (fun _ => 0))), (h5, .inr (0, [.ref b6, .int (-1 : Int32)])), (b6, .inl (cI, 6, .inl (fun _ => 0))), (h7, .inr (0, [.ref b8, .int (-1 : Int32)])), (b8, .inl (cI, 6, .inl (fun _ => 0))), (h9, .inr (0, [.ref b10, .int (-1 : Int32)])), (b10, .inl (cI, 6, .inl (fun _ => 0))), (h11, .inr (0, [.ref b12, .int (-1 : Int32)])), (b12, .inl (cI, 6, .inl (fun _ => 0))), (h13, .inr (0, [.ref b14, .int (-1 : Int32)])), (b14, .inl (cI, 40, .inl (fun _ => 0)))]) rfl rfl ?_
  refine K_putF (Cn := RX4) (T := TX4) (Nf := 15) (ci := 3) (v := .ref h13) (ws' := [(h0, .inr (3, [.ref h1, .ref h3, .ref h5, .ref h7, .ref h9, .ref h11, .ref h13, .int (0 : Int32), .int (0 : Int32), .int (0 : Int32), .int (0 : Int32), .int (0 : Int32), .int (0 : Int32), .int (0 : Int32), .int (0 : Int32)])), (h1, .inr (0, [.ref b2, .int (-1 : Int32)])), (b2, .inl (cI, 6, .inl (fun _ => 0))), (h3, .inr (0, [.ref b4, .int (-1 : Int32)])), (b4, .inl (cI, 6, .inl (fun _ => 0))), (h5, .inr (0, [.ref b6, .int (-1 : Int32)])), (b6, .inl (cI, 6, .inl (fun _ => 0))), (h7, .inr (0, [.ref b8, .int (-1 : Int32)])), (b8, .inl (cI, 6, .inl (fun _ => 0))), (h9, .inr (0, [.ref b10, .int (-1 : Int32)])), (b10, .inl (cI, 6, .inl (fun _ => 0))), (h11, .inr (0, [.ref b12, .int (-1 : Int32)])), (b12, .inl (cI, 6, .inl (fun _ => 0))), (h13, .inr (0, [.ref b14, .int (-1 : Int32)])), (b14, .inl (cI, 40, .inl (fun _ => 0)))]) C inX4 tyX4 tyX4_ok nmX4 0 rfl rfl 6 (by decide) kF_X4_35 rfl hin2 rfl rfl rfl rfl (Nat.le_of_ble_eq_true rfl) rfl dX4_init_92 rfl ?_
  refine K_aload_n C dX4_init_95 rfl rfl 0 rfl ?_
  refine K_get (Cn := RX4) (T := TX4) (Nf := 15) (ci := 3) (v := .ref h13) C inX4 0 rfl rfl 6 (by decide) kF_X4_35 rfl dX4_init_96 rfl ?_
  refine K_iconst (v := (0 : Int32)) C dX4_init_99 rfl (by decide) ?_
  refine K_iconst (v := (0 : Int32)) C dX4_init_100 rfl (by decide) ?_
  refine K_callV (wc := [(h13, .inr (0, [.ref b14, .int (-1 : Int32)])), (b14, .inl (cI, 40, .inl (fun _ => 0)))]) (w1 := [(h13, .inr (0, [.ref b14, .int (0 : Int32)])), (b14, .inl (cI, 40, .inl (fun _ => 0)))]) (wr := [(h0, .inr (3, [.ref h1, .ref h3, .ref h5, .ref h7, .ref h9, .ref h11, .ref h13, .int (0 : Int32), .int (0 : Int32), .int (0 : Int32), .int (0 : Int32), .int (0 : Int32), .int (0 : Int32), .int (0 : Int32), .int (0 : Int32)])), (h1, .inr (0, [.ref b2, .int (-1 : Int32)])), (b2, .inl (cI, 6, .inl (fun _ => 0))), (h3, .inr (0, [.ref b4, .int (-1 : Int32)])), (b4, .inl (cI, 6, .inl (fun _ => 0))), (h5, .inr (0, [.ref b6, .int (-1 : Int32)])), (b6, .inl (cI, 6, .inl (fun _ => 0))), (h7, .inr (0, [.ref b8, .int (-1 : Int32)])), (b8, .inl (cI, 6, .inl (fun _ => 0))), (h9, .inr (0, [.ref b10, .int (-1 : Int32)])), (b10, .inl (cI, 6, .inl (fun _ => 0))), (h11, .inr (0, [.ref b12, .int (-1 : Int32)])), (b12, .inl (cI, 6, .inl (fun _ => 0)))]) (rest := []) C [13, 14] [0, 1, 2, 3, 4, 5, 6, 7, 8, 9, 10, 11, 12] rfl rfl (by decide) (by decide) (by decide) (c_fill_0_40 l D cI cR) ok_X0_fill kM_X4_38 (Cn := RX0) (T := TX0) (Nf := 2) (ci := 0) rfl rfl rfl rfl rfl ⟨Nat.le_of_ble_eq_true rfl, Nat.le_of_ble_eq_true rfl⟩ (Nat.le_of_ble_eq_true rfl) ⟨Nat.le_of_ble_eq_true rfl, Nat.le_of_ble_eq_true rfl⟩ dX4_init_101 rfl ?_
  refine K_st (st' := []) (ws' := [(h0, .inr (3, [.ref h1, .ref h3, .ref h5, .ref h7, .ref h9, .ref h11, .ref h13, .int (0 : Int32), .int (0 : Int32), .int (0 : Int32), .int (0 : Int32), .int (0 : Int32), .int (0 : Int32), .int (0 : Int32), .int (0 : Int32)])), (h1, .inr (0, [.ref b2, .int (-1 : Int32)])), (b2, .inl (cI, 6, .inl (fun _ => 0))), (h3, .inr (0, [.ref b4, .int (-1 : Int32)])), (b4, .inl (cI, 6, .inl (fun _ => 0))), (h5, .inr (0, [.ref b6, .int (-1 : Int32)])), (b6, .inl (cI, 6, .inl (fun _ => 0))), (h7, .inr (0, [.ref b8, .int (-1 : Int32)])), (b8, .inl (cI, 6, .inl (fun _ => 0))), (h9, .inr (0, [.ref b10, .int (-1 : Int32)])), (b10, .inl (cI, 6, .inl (fun _ => 0))), (h11, .inr (0, [.ref b12, .int (-1 : Int32)])), (b12, .inl (cI, 6, .inl (fun _ => 0))), (h13, .inr (0, [.ref b14, .int (0 : Int32)])), (b14, .inl (cI, 40, .inl (fun _ => 0)))]) rfl rfl ?_
  exact K_vret C (⟨h1, b2, h3, b4, h5, b6, h7, b8, h9, b10, h11, b12, h13, b14, rfl⟩) (Nat.le_of_ble_eq_true rfl) (Nat.le_of_ble_eq_true rfl) dX4_init_104
set_option maxHeartbeats 4000000 in
set_option maxRecDepth 100000 in
theorem c_missing_6_40 (l : Launch) (D : va_G) (cI cR : ClassId) : MQK l D cI cR yX5_missing cX5_missing 4 (.array (.object "WokenYears$Ints")) 2 80 13 258 [.int 6, .int 40] (fun r w1 => ∃ z0 z1 z2 z3 z4 z5 z6 z7 z8 z9 z10 z11 z12 : Nat, r = some z0 ∧ w1 = [(z0, .inl (cR, 6, .inr (.inr (.inr (.inr (va_up (va_up (va_up (va_up (va_up (va_up (fun _ => none) 0 (some z1)) 1 (some z3)) 2 (some z5)) 3 (some z7)) 4 (some z9)) 5 (some z11))))))), (z1, .inr (0, [.ref z2, .int (-1 : Int32)])), (z2, .inl (cI, 40, .inl (fun _ => 0))), (z3, .inr (0, [.ref z4, .int (-1 : Int32)])), (z4, .inl (cI, 40, .inl (fun _ => 0))), (z5, .inr (0, [.ref z6, .int (-1 : Int32)])), (z6, .inl (cI, 40, .inl (fun _ => 0))), (z7, .inr (0, [.ref z8, .int (-1 : Int32)])), (z8, .inl (cI, 40, .inl (fun _ => 0))), (z9, .inr (0, [.ref z10, .int (-1 : Int32)])), (z10, .inl (cI, 40, .inl (fun _ => 0))), (z11, .inr (0, [.ref z12, .int (-1 : Int32)])), (z12, .inl (cI, 40, .inl (fun _ => 0)))]) := by
  refine entKQ RX5 (by decide +kernel) rfl (by decide) (fun p e s m args below meth c A C => ?_)
  refine K_iconst (v := (0 : Int32)) C dX5_missing_0 rfl (by decide) ?_
  refine K_iload_n C dX5_missing_1 rfl rfl 0 rfl ?_
  refine K_mmax (v := (6 : Int32)) C (by decide) kM_X5_79 kMath_max_s kMath_max_c (Nat.le_of_ble_eq_true rfl) (Nat.le_of_ble_eq_true rfl) (Nat.le_of_ble_eq_true rfl) (Nat.le_of_ble_eq_true rfl) dX5_missing_2 rfl ?_
  refine K_newq (n' := 6) C kC_X5_37 (by decide) (by decide) (by decide) (Nat.le_of_ble_eq_true rfl) (Nat.le_of_ble_eq_true rfl) dX5_missing_5 rfl (fun a1 => ?_)
  refine K_st (st' := [.ref a1]) (ws' := [(a1, .inl (cR, 6, .inr (.inr (.inr (.inr (fun _ => none))))))]) rfl rfl ?_
  refine K_astore_n (lv' := [(2, .ref a1), (0, .int (6 : Int32)), (1, .int (40 : Int32))]) C dX5_missing_8 rfl rfl (by decide) rfl ?_
  refine K_iconst (v := (0 : Int32)) C dX5_missing_9 rfl (by decide) ?_
  refine K_istore_n (lv' := [(3, .int (0 : Int32)), (2, .ref a1), (0, .int (6 : Int32)), (1, .int (40 : Int32))]) C dX5_missing_10 rfl rfl (by decide) rfl ?_
  refine K_iload_n C dX5_missing_11 rfl rfl 0 rfl ?_
  refine K_aload_n C dX5_missing_12 rfl rfl 1 rfl ?_
  refine K_alen (v := (6 : Int32)) C 0 1 rfl rfl (show nI 6 = (6 : Int32) from by decide) dX5_missing_13 rfl ?_
  refine K_icmp_ge_f C dX5_missing_14 rfl 34 (by decide) (by decide) ?_
  refine K_aload_n C dX5_missing_17 rfl rfl 1 rfl ?_
  refine K_iload_n C dX5_missing_18 rfl rfl 0 rfl ?_
  refine K_new (Cn := RX0) (T := TX0) (Nf := 2) (ci := 0) (fs := [.null, .int (0 : Int32)]) C inX0 tyX0 tyX0_ok kC_X5_37 kI_RX0 kZ_RX0 rfl dfX0 (Nat.le_of_ble_eq_true rfl) (Nat.le_of_ble_eq_true rfl) dX5_missing_19 rfl (fun h2 => ?_)
  refine K_st (st' := [.ref h2, .int (0 : Int32), .ref a1]) (ws' := [(a1, .inl (cR, 6, .inr (.inr (.inr (.inr (fun _ => none)))))), (h2, .inr (0, [.null, .int (0 : Int32)]))]) rfl rfl ?_
  refine K_dup C dX5_missing_22 rfl rfl ?_
  refine K_iload_n C dX5_missing_23 rfl rfl 3 rfl ?_
  refine K_init (h := h2) (wr := [(a1, .inl (cR, 6, .inr (.inr (.inr (.inr (fun _ => none))))))]) (rest := [.ref h2, .int (0 : Int32), .ref a1]) C (c_X0_init_40 l D cI cR) ok_X0_init kM_X5_39 rfl rfl rfl ⟨Nat.le_of_ble_eq_true rfl, Nat.le_of_ble_eq_true rfl⟩ (Nat.le_of_ble_eq_true rfl) ⟨Nat.le_of_ble_eq_true rfl, Nat.le_of_ble_eq_true rfl⟩ dX5_missing_24 rfl (fun w1 hw => ?_)
  obtain ⟨b3, rfl⟩ := hw
  refine K_st (st' := [.ref h2, .int (0 : Int32), .ref a1]) (ws' := [(a1, .inl (cR, 6, .inr (.inr (.inr (.inr (fun _ => none)))))), (h2, .inr (0, [.ref b3, .int (-1 : Int32)])), (b3, .inl (cI, 40, .inl (fun _ => 0)))]) rfl rfl ?_
  refine K_aast (i' := 0) (ws' := [(a1, .inl (cR, 6, .inr (.inr (.inr (.inr (va_up (fun _ => none) 0 (some h2))))))), (h2, .inr (0, [.ref b3, .int (-1 : Int32)])), (b3, .inl (cI, 40, .inl (fun _ => 0)))]) C 0 1 rfl rfl (by decide) (by decide) rfl dX5_missing_27 rfl ?_
  refine K_iinc (v := (1 : Int32)) (lv' := [(3, .int (1 : Int32)), (2, .ref a1), (0, .int (6 : Int32)), (1, .int (40 : Int32))]) C dX5_missing_28 rfl 0 rfl (by decide) (by decide) rfl ?_
  refine K_goto (tgt := 11) C dX5_missing_31 (by decide) ?_
  refine K_iload_n C dX5_missing_11 rfl rfl 0 rfl ?_
  refine K_aload_n C dX5_missing_12 rfl rfl 1 rfl ?_
  refine K_alen (v := (6 : Int32)) C 0 1 rfl rfl (show nI 6 = (6 : Int32) from by decide) dX5_missing_13 rfl ?_
  refine K_icmp_ge_f C dX5_missing_14 rfl 34 (by decide) (by decide) ?_
  refine K_aload_n C dX5_missing_17 rfl rfl 1 rfl ?_
  refine K_iload_n C dX5_missing_18 rfl rfl 0 rfl ?_
  refine K_new (Cn := RX0) (T := TX0) (Nf := 2) (ci := 0) (fs := [.null, .int (0 : Int32)]) C inX0 tyX0 tyX0_ok kC_X5_37 kI_RX0 kZ_RX0 rfl dfX0 (Nat.le_of_ble_eq_true rfl) (Nat.le_of_ble_eq_true rfl) dX5_missing_19 rfl (fun h4 => ?_)
  refine K_st (st' := [.ref h4, .int (1 : Int32), .ref a1]) (ws' := [(a1, .inl (cR, 6, .inr (.inr (.inr (.inr (va_up (fun _ => none) 0 (some h2))))))), (h2, .inr (0, [.ref b3, .int (-1 : Int32)])), (b3, .inl (cI, 40, .inl (fun _ => 0))), (h4, .inr (0, [.null, .int (0 : Int32)]))]) rfl rfl ?_
  refine K_dup C dX5_missing_22 rfl rfl ?_
  refine K_iload_n C dX5_missing_23 rfl rfl 3 rfl ?_
  refine K_init (h := h4) (wr := [(a1, .inl (cR, 6, .inr (.inr (.inr (.inr (va_up (fun _ => none) 0 (some h2))))))), (h2, .inr (0, [.ref b3, .int (-1 : Int32)])), (b3, .inl (cI, 40, .inl (fun _ => 0)))]) (rest := [.ref h4, .int (1 : Int32), .ref a1]) C (c_X0_init_40 l D cI cR) ok_X0_init kM_X5_39 rfl rfl rfl ⟨Nat.le_of_ble_eq_true rfl, Nat.le_of_ble_eq_true rfl⟩ (Nat.le_of_ble_eq_true rfl) ⟨Nat.le_of_ble_eq_true rfl, Nat.le_of_ble_eq_true rfl⟩ dX5_missing_24 rfl (fun w1 hw => ?_)
  obtain ⟨b5, rfl⟩ := hw
  refine K_st (st' := [.ref h4, .int (1 : Int32), .ref a1]) (ws' := [(a1, .inl (cR, 6, .inr (.inr (.inr (.inr (va_up (fun _ => none) 0 (some h2))))))), (h2, .inr (0, [.ref b3, .int (-1 : Int32)])), (b3, .inl (cI, 40, .inl (fun _ => 0))), (h4, .inr (0, [.ref b5, .int (-1 : Int32)])), (b5, .inl (cI, 40, .inl (fun _ => 0)))]) rfl rfl ?_
  refine K_aast (i' := 1) (ws' := [(a1, .inl (cR, 6, .inr (.inr (.inr (.inr (va_up (va_up (fun _ => none) 0 (some h2)) 1 (some h4))))))), (h2, .inr (0, [.ref b3, .int (-1 : Int32)])), (b3, .inl (cI, 40, .inl (fun _ => 0))), (h4, .inr (0, [.ref b5, .int (-1 : Int32)])), (b5, .inl (cI, 40, .inl (fun _ => 0)))]) C 0 3 rfl rfl (by decide) (by decide) rfl dX5_missing_27 rfl ?_
  refine K_iinc (v := (2 : Int32)) (lv' := [(3, .int (2 : Int32)), (2, .ref a1), (0, .int (6 : Int32)), (1, .int (40 : Int32))]) C dX5_missing_28 rfl 0 rfl (by decide) (by decide) rfl ?_
  refine K_goto (tgt := 11) C dX5_missing_31 (by decide) ?_
  refine K_iload_n C dX5_missing_11 rfl rfl 0 rfl ?_
  refine K_aload_n C dX5_missing_12 rfl rfl 1 rfl ?_
  refine K_alen (v := (6 : Int32)) C 0 1 rfl rfl (show nI 6 = (6 : Int32) from by decide) dX5_missing_13 rfl ?_
  refine K_icmp_ge_f C dX5_missing_14 rfl 34 (by decide) (by decide) ?_
  refine K_aload_n C dX5_missing_17 rfl rfl 1 rfl ?_
  refine K_iload_n C dX5_missing_18 rfl rfl 0 rfl ?_
  refine K_new (Cn := RX0) (T := TX0) (Nf := 2) (ci := 0) (fs := [.null, .int (0 : Int32)]) C inX0 tyX0 tyX0_ok kC_X5_37 kI_RX0 kZ_RX0 rfl dfX0 (Nat.le_of_ble_eq_true rfl) (Nat.le_of_ble_eq_true rfl) dX5_missing_19 rfl (fun h6 => ?_)
  refine K_st (st' := [.ref h6, .int (2 : Int32), .ref a1]) (ws' := [(a1, .inl (cR, 6, .inr (.inr (.inr (.inr (va_up (va_up (fun _ => none) 0 (some h2)) 1 (some h4))))))), (h2, .inr (0, [.ref b3, .int (-1 : Int32)])), (b3, .inl (cI, 40, .inl (fun _ => 0))), (h4, .inr (0, [.ref b5, .int (-1 : Int32)])), (b5, .inl (cI, 40, .inl (fun _ => 0))), (h6, .inr (0, [.null, .int (0 : Int32)]))]) rfl rfl ?_
  refine K_dup C dX5_missing_22 rfl rfl ?_
  refine K_iload_n C dX5_missing_23 rfl rfl 3 rfl ?_
  refine K_init (h := h6) (wr := [(a1, .inl (cR, 6, .inr (.inr (.inr (.inr (va_up (va_up (fun _ => none) 0 (some h2)) 1 (some h4))))))), (h2, .inr (0, [.ref b3, .int (-1 : Int32)])), (b3, .inl (cI, 40, .inl (fun _ => 0))), (h4, .inr (0, [.ref b5, .int (-1 : Int32)])), (b5, .inl (cI, 40, .inl (fun _ => 0)))]) (rest := [.ref h6, .int (2 : Int32), .ref a1]) C (c_X0_init_40 l D cI cR) ok_X0_init kM_X5_39 rfl rfl rfl ⟨Nat.le_of_ble_eq_true rfl, Nat.le_of_ble_eq_true rfl⟩ (Nat.le_of_ble_eq_true rfl) ⟨Nat.le_of_ble_eq_true rfl, Nat.le_of_ble_eq_true rfl⟩ dX5_missing_24 rfl (fun w1 hw => ?_)
  obtain ⟨b7, rfl⟩ := hw
  refine K_st (st' := [.ref h6, .int (2 : Int32), .ref a1]) (ws' := [(a1, .inl (cR, 6, .inr (.inr (.inr (.inr (va_up (va_up (fun _ => none) 0 (some h2)) 1 (some h4))))))), (h2, .inr (0, [.ref b3, .int (-1 : Int32)])), (b3, .inl (cI, 40, .inl (fun _ => 0))), (h4, .inr (0, [.ref b5, .int (-1 : Int32)])), (b5, .inl (cI, 40, .inl (fun _ => 0))), (h6, .inr (0, [.ref b7, .int (-1 : Int32)])), (b7, .inl (cI, 40, .inl (fun _ => 0)))]) rfl rfl ?_
  refine K_aast (i' := 2) (ws' := [(a1, .inl (cR, 6, .inr (.inr (.inr (.inr (va_up (va_up (va_up (fun _ => none) 0 (some h2)) 1 (some h4)) 2 (some h6))))))), (h2, .inr (0, [.ref b3, .int (-1 : Int32)])), (b3, .inl (cI, 40, .inl (fun _ => 0))), (h4, .inr (0, [.ref b5, .int (-1 : Int32)])), (b5, .inl (cI, 40, .inl (fun _ => 0))), (h6, .inr (0, [.ref b7, .int (-1 : Int32)])), (b7, .inl (cI, 40, .inl (fun _ => 0)))]) C 0 5 rfl rfl (by decide) (by decide) rfl dX5_missing_27 rfl ?_
  refine K_iinc (v := (3 : Int32)) (lv' := [(3, .int (3 : Int32)), (2, .ref a1), (0, .int (6 : Int32)), (1, .int (40 : Int32))]) C dX5_missing_28 rfl 0 rfl (by decide) (by decide) rfl ?_
  refine K_goto (tgt := 11) C dX5_missing_31 (by decide) ?_
  refine K_iload_n C dX5_missing_11 rfl rfl 0 rfl ?_
  refine K_aload_n C dX5_missing_12 rfl rfl 1 rfl ?_
  refine K_alen (v := (6 : Int32)) C 0 1 rfl rfl (show nI 6 = (6 : Int32) from by decide) dX5_missing_13 rfl ?_
  refine K_icmp_ge_f C dX5_missing_14 rfl 34 (by decide) (by decide) ?_
  refine K_aload_n C dX5_missing_17 rfl rfl 1 rfl ?_
  refine K_iload_n C dX5_missing_18 rfl rfl 0 rfl ?_
  refine K_new (Cn := RX0) (T := TX0) (Nf := 2) (ci := 0) (fs := [.null, .int (0 : Int32)]) C inX0 tyX0 tyX0_ok kC_X5_37 kI_RX0 kZ_RX0 rfl dfX0 (Nat.le_of_ble_eq_true rfl) (Nat.le_of_ble_eq_true rfl) dX5_missing_19 rfl (fun h8 => ?_)
  refine K_st (st' := [.ref h8, .int (3 : Int32), .ref a1]) (ws' := [(a1, .inl (cR, 6, .inr (.inr (.inr (.inr (va_up (va_up (va_up (fun _ => none) 0 (some h2)) 1 (some h4)) 2 (some h6))))))), (h2, .inr (0, [.ref b3, .int (-1 : Int32)])), (b3, .inl (cI, 40, .inl (fun _ => 0))), (h4, .inr (0, [.ref b5, .int (-1 : Int32)])), (b5, .inl (cI, 40, .inl (fun _ => 0))), (h6, .inr (0, [.ref b7, .int (-1 : Int32)])), (b7, .inl (cI, 40, .inl (fun _ => 0))), (h8, .inr (0, [.null, .int (0 : Int32)]))]) rfl rfl ?_
  refine K_dup C dX5_missing_22 rfl rfl ?_
  refine K_iload_n C dX5_missing_23 rfl rfl 3 rfl ?_
  refine K_init (h := h8) (wr := [(a1, .inl (cR, 6, .inr (.inr (.inr (.inr (va_up (va_up (va_up (fun _ => none) 0 (some h2)) 1 (some h4)) 2 (some h6))))))), (h2, .inr (0, [.ref b3, .int (-1 : Int32)])), (b3, .inl (cI, 40, .inl (fun _ => 0))), (h4, .inr (0, [.ref b5, .int (-1 : Int32)])), (b5, .inl (cI, 40, .inl (fun _ => 0))), (h6, .inr (0, [.ref b7, .int (-1 : Int32)])), (b7, .inl (cI, 40, .inl (fun _ => 0)))]) (rest := [.ref h8, .int (3 : Int32), .ref a1]) C (c_X0_init_40 l D cI cR) ok_X0_init kM_X5_39 rfl rfl rfl ⟨Nat.le_of_ble_eq_true rfl, Nat.le_of_ble_eq_true rfl⟩ (Nat.le_of_ble_eq_true rfl) ⟨Nat.le_of_ble_eq_true rfl, Nat.le_of_ble_eq_true rfl⟩ dX5_missing_24 rfl (fun w1 hw => ?_)
  obtain ⟨b9, rfl⟩ := hw
  refine K_st (st' := [.ref h8, .int (3 : Int32), .ref a1]) (ws' := [(a1, .inl (cR, 6, .inr (.inr (.inr (.inr (va_up (va_up (va_up (fun _ => none) 0 (some h2)) 1 (some h4)) 2 (some h6))))))), (h2, .inr (0, [.ref b3, .int (-1 : Int32)])), (b3, .inl (cI, 40, .inl (fun _ => 0))), (h4, .inr (0, [.ref b5, .int (-1 : Int32)])), (b5, .inl (cI, 40, .inl (fun _ => 0))), (h6, .inr (0, [.ref b7, .int (-1 : Int32)])), (b7, .inl (cI, 40, .inl (fun _ => 0))), (h8, .inr (0, [.ref b9, .int (-1 : Int32)])), (b9, .inl (cI, 40, .inl (fun _ => 0)))]) rfl rfl ?_
  refine K_aast (i' := 3) (ws' := [(a1, .inl (cR, 6, .inr (.inr (.inr (.inr (va_up (va_up (va_up (va_up (fun _ => none) 0 (some h2)) 1 (some h4)) 2 (some h6)) 3 (some h8))))))), (h2, .inr (0, [.ref b3, .int (-1 : Int32)])), (b3, .inl (cI, 40, .inl (fun _ => 0))), (h4, .inr (0, [.ref b5, .int (-1 : Int32)])), (b5, .inl (cI, 40, .inl (fun _ => 0))), (h6, .inr (0, [.ref b7, .int (-1 : Int32)])), (b7, .inl (cI, 40, .inl (fun _ => 0))), (h8, .inr (0, [.ref b9, .int (-1 : Int32)])), (b9, .inl (cI, 40, .inl (fun _ => 0)))]) C 0 7 rfl rfl (by decide) (by decide) rfl dX5_missing_27 rfl ?_
  refine K_iinc (v := (4 : Int32)) (lv' := [(3, .int (4 : Int32)), (2, .ref a1), (0, .int (6 : Int32)), (1, .int (40 : Int32))]) C dX5_missing_28 rfl 0 rfl (by decide) (by decide) rfl ?_
  refine K_goto (tgt := 11) C dX5_missing_31 (by decide) ?_
  refine K_iload_n C dX5_missing_11 rfl rfl 0 rfl ?_
  refine K_aload_n C dX5_missing_12 rfl rfl 1 rfl ?_
  refine K_alen (v := (6 : Int32)) C 0 1 rfl rfl (show nI 6 = (6 : Int32) from by decide) dX5_missing_13 rfl ?_
  refine K_icmp_ge_f C dX5_missing_14 rfl 34 (by decide) (by decide) ?_
  refine K_aload_n C dX5_missing_17 rfl rfl 1 rfl ?_
  refine K_iload_n C dX5_missing_18 rfl rfl 0 rfl ?_
  refine K_new (Cn := RX0) (T := TX0) (Nf := 2) (ci := 0) (fs := [.null, .int (0 : Int32)]) C inX0 tyX0 tyX0_ok kC_X5_37 kI_RX0 kZ_RX0 rfl dfX0 (Nat.le_of_ble_eq_true rfl) (Nat.le_of_ble_eq_true rfl) dX5_missing_19 rfl (fun h10 => ?_)
  refine K_st (st' := [.ref h10, .int (4 : Int32), .ref a1]) (ws' := [(a1, .inl (cR, 6, .inr (.inr (.inr (.inr (va_up (va_up (va_up (va_up (fun _ => none) 0 (some h2)) 1 (some h4)) 2 (some h6)) 3 (some h8))))))), (h2, .inr (0, [.ref b3, .int (-1 : Int32)])), (b3, .inl (cI, 40, .inl (fun _ => 0))), (h4, .inr (0, [.ref b5, .int (-1 : Int32)])), (b5, .inl (cI, 40, .inl (fun _ => 0))), (h6, .inr (0, [.ref b7, .int (-1 : Int32)])), (b7, .inl (cI, 40, .inl (fun _ => 0))), (h8, .inr (0, [.ref b9, .int (-1 : Int32)])), (b9, .inl (cI, 40, .inl (fun _ => 0))), (h10, .inr (0, [.null, .int (0 : Int32)]))]) rfl rfl ?_
  refine K_dup C dX5_missing_22 rfl rfl ?_
  refine K_iload_n C dX5_missing_23 rfl rfl 3 rfl ?_
  refine K_init (h := h10) (wr := [(a1, .inl (cR, 6, .inr (.inr (.inr (.inr (va_up (va_up (va_up (va_up (fun _ => none) 0 (some h2)) 1 (some h4)) 2 (some h6)) 3 (some h8))))))), (h2, .inr (0, [.ref b3, .int (-1 : Int32)])), (b3, .inl (cI, 40, .inl (fun _ => 0))), (h4, .inr (0, [.ref b5, .int (-1 : Int32)])), (b5, .inl (cI, 40, .inl (fun _ => 0))), (h6, .inr (0, [.ref b7, .int (-1 : Int32)])), (b7, .inl (cI, 40, .inl (fun _ => 0))), (h8, .inr (0, [.ref b9, .int (-1 : Int32)])), (b9, .inl (cI, 40, .inl (fun _ => 0)))]) (rest := [.ref h10, .int (4 : Int32), .ref a1]) C (c_X0_init_40 l D cI cR) ok_X0_init kM_X5_39 rfl rfl rfl ⟨Nat.le_of_ble_eq_true rfl, Nat.le_of_ble_eq_true rfl⟩ (Nat.le_of_ble_eq_true rfl) ⟨Nat.le_of_ble_eq_true rfl, Nat.le_of_ble_eq_true rfl⟩ dX5_missing_24 rfl (fun w1 hw => ?_)
  obtain ⟨b11, rfl⟩ := hw
  refine K_st (st' := [.ref h10, .int (4 : Int32), .ref a1]) (ws' := [(a1, .inl (cR, 6, .inr (.inr (.inr (.inr (va_up (va_up (va_up (va_up (fun _ => none) 0 (some h2)) 1 (some h4)) 2 (some h6)) 3 (some h8))))))), (h2, .inr (0, [.ref b3, .int (-1 : Int32)])), (b3, .inl (cI, 40, .inl (fun _ => 0))), (h4, .inr (0, [.ref b5, .int (-1 : Int32)])), (b5, .inl (cI, 40, .inl (fun _ => 0))), (h6, .inr (0, [.ref b7, .int (-1 : Int32)])), (b7, .inl (cI, 40, .inl (fun _ => 0))), (h8, .inr (0, [.ref b9, .int (-1 : Int32)])), (b9, .inl (cI, 40, .inl (fun _ => 0))), (h10, .inr (0, [.ref b11, .int (-1 : Int32)])), (b11, .inl (cI, 40, .inl (fun _ => 0)))]) rfl rfl ?_
  refine K_aast (i' := 4) (ws' := [(a1, .inl (cR, 6, .inr (.inr (.inr (.inr (va_up (va_up (va_up (va_up (va_up (fun _ => none) 0 (some h2)) 1 (some h4)) 2 (some h6)) 3 (some h8)) 4 (some h10))))))), (h2, .inr (0, [.ref b3, .int (-1 : Int32)])), (b3, .inl (cI, 40, .inl (fun _ => 0))), (h4, .inr (0, [.ref b5, .int (-1 : Int32)])), (b5, .inl (cI, 40, .inl (fun _ => 0))), (h6, .inr (0, [.ref b7, .int (-1 : Int32)])), (b7, .inl (cI, 40, .inl (fun _ => 0))), (h8, .inr (0, [.ref b9, .int (-1 : Int32)])), (b9, .inl (cI, 40, .inl (fun _ => 0))), (h10, .inr (0, [.ref b11, .int (-1 : Int32)])), (b11, .inl (cI, 40, .inl (fun _ => 0)))]) C 0 9 rfl rfl (by decide) (by decide) rfl dX5_missing_27 rfl ?_
  refine K_iinc (v := (5 : Int32)) (lv' := [(3, .int (5 : Int32)), (2, .ref a1), (0, .int (6 : Int32)), (1, .int (40 : Int32))]) C dX5_missing_28 rfl 0 rfl (by decide) (by decide) rfl ?_
  refine K_goto (tgt := 11) C dX5_missing_31 (by decide) ?_
  refine K_iload_n C dX5_missing_11 rfl rfl 0 rfl ?_
  refine K_aload_n C dX5_missing_12 rfl rfl 1 rfl ?_
  refine K_alen (v := (6 : Int32)) C 0 1 rfl rfl (show nI 6 = (6 : Int32) from by decide) dX5_missing_13 rfl ?_
  refine K_icmp_ge_f C dX5_missing_14 rfl 34 (by decide) (by decide) ?_
  refine K_aload_n C dX5_missing_17 rfl rfl 1 rfl ?_
  refine K_iload_n C dX5_missing_18 rfl rfl 0 rfl ?_
  refine K_new (Cn := RX0) (T := TX0) (Nf := 2) (ci := 0) (fs := [.null, .int (0 : Int32)]) C inX0 tyX0 tyX0_ok kC_X5_37 kI_RX0 kZ_RX0 rfl dfX0 (Nat.le_of_ble_eq_true rfl) (Nat.le_of_ble_eq_true rfl) dX5_missing_19 rfl (fun h12 => ?_)
  refine K_st (st' := [.ref h12, .int (5 : Int32), .ref a1]) (ws' := [(a1, .inl (cR, 6, .inr (.inr (.inr (.inr (va_up (va_up (va_up (va_up (va_up (fun _ => none) 0 (some h2)) 1 (some h4)) 2 (some h6)) 3 (some h8)) 4 (some h10))))))), (h2, .inr (0, [.ref b3, .int (-1 : Int32)])), (b3, .inl (cI, 40, .inl (fun _ => 0))), (h4, .inr (0, [.ref b5, .int (-1 : Int32)])), (b5, .inl (cI, 40, .inl (fun _ => 0))), (h6, .inr (0, [.ref b7, .int (-1 : Int32)])), (b7, .inl (cI, 40, .inl (fun _ => 0))), (h8, .inr (0, [.ref b9, .int (-1 : Int32)])), (b9, .inl (cI, 40, .inl (fun _ => 0))), (h10, .inr (0, [.ref b11, .int (-1 : Int32)])), (b11, .inl (cI, 40, .inl (fun _ => 0))), (h12, .inr (0, [.null, .int (0 : Int32)]))]) rfl rfl ?_
  refine K_dup C dX5_missing_22 rfl rfl ?_
  refine K_iload_n C dX5_missing_23 rfl rfl 3 rfl ?_
  refine K_init (h := h12) (wr := [(a1, .inl (cR, 6, .inr (.inr (.inr (.inr (va_up (va_up (va_up (va_up (va_up (fun _ => none) 0 (some h2)) 1 (some h4)) 2 (some h6)) 3 (some h8)) 4 (some h10))))))), (h2, .inr (0, [.ref b3, .int (-1 : Int32)])), (b3, .inl (cI, 40, .inl (fun _ => 0))), (h4, .inr (0, [.ref b5, .int (-1 : Int32)])), (b5, .inl (cI, 40, .inl (fun _ => 0))), (h6, .inr (0, [.ref b7, .int (-1 : Int32)])), (b7, .inl (cI, 40, .inl (fun _ => 0))), (h8, .inr (0, [.ref b9, .int (-1 : Int32)])), (b9, .inl (cI, 40, .inl (fun _ => 0))), (h10, .inr (0, [.ref b11, .int (-1 : Int32)])), (b11, .inl (cI, 40, .inl (fun _ => 0)))]) (rest := [.ref h12, .int (5 : Int32), .ref a1]) C (c_X0_init_40 l D cI cR) ok_X0_init kM_X5_39 rfl rfl rfl ⟨Nat.le_of_ble_eq_true rfl, Nat.le_of_ble_eq_true rfl⟩ (Nat.le_of_ble_eq_true rfl) ⟨Nat.le_of_ble_eq_true rfl, Nat.le_of_ble_eq_true rfl⟩ dX5_missing_24 rfl (fun w1 hw => ?_)
  obtain ⟨b13, rfl⟩ := hw
  refine K_st (st' := [.ref h12, .int (5 : Int32), .ref a1]) (ws' := [(a1, .inl (cR, 6, .inr (.inr (.inr (.inr (va_up (va_up (va_up (va_up (va_up (fun _ => none) 0 (some h2)) 1 (some h4)) 2 (some h6)) 3 (some h8)) 4 (some h10))))))), (h2, .inr (0, [.ref b3, .int (-1 : Int32)])), (b3, .inl (cI, 40, .inl (fun _ => 0))), (h4, .inr (0, [.ref b5, .int (-1 : Int32)])), (b5, .inl (cI, 40, .inl (fun _ => 0))), (h6, .inr (0, [.ref b7, .int (-1 : Int32)])), (b7, .inl (cI, 40, .inl (fun _ => 0))), (h8, .inr (0, [.ref b9, .int (-1 : Int32)])), (b9, .inl (cI, 40, .inl (fun _ => 0))), (h10, .inr (0, [.ref b11, .int (-1 : Int32)])), (b11, .inl (cI, 40, .inl (fun _ => 0))), (h12, .inr (0, [.ref b13, .int (-1 : Int32)])), (b13, .inl (cI, 40, .inl (fun _ => 0)))]) rfl rfl ?_
  refine K_aast (i' := 5) (ws' := [(a1, .inl (cR, 6, .inr (.inr (.inr (.inr (va_up (va_up (va_up (va_up (va_up (va_up (fun _ => none) 0 (some h2)) 1 (some h4)) 2 (some h6)) 3 (some h8)) 4 (some h10)) 5 (some h12))))))), (h2, .inr (0, [.ref b3, .int (-1 : Int32)])), (b3, .inl (cI, 40, .inl (fun _ => 0))), (h4, .inr (0, [.ref b5, .int (-1 : Int32)])), (b5, .inl (cI, 40, .inl (fun _ => 0))), (h6, .inr (0, [.ref b7, .int (-1 : Int32)])), (b7, .inl (cI, 40, .inl (fun _ => 0))), (h8, .inr (0, [.ref b9, .int (-1 : Int32)])), (b9, .inl (cI, 40, .inl (fun _ => 0))), (h10, .inr (0, [.ref b11, .int (-1 : Int32)])), (b11, .inl (cI, 40, .inl (fun _ => 0))), (h12, .inr (0, [.ref b13, .int (-1 : Int32)])), (b13, .inl (cI, 40, .inl (fun _ => 0)))]) C 0 11 rfl rfl (by decide) (by decide) rfl dX5_missing_27 rfl ?_
  refine K_iinc (v := (6 : Int32)) (lv' := [(3, .int (6 : Int32)), (2, .ref a1), (0, .int (6 : Int32)), (1, .int (40 : Int32))]) C dX5_missing_28 rfl 0 rfl (by decide) (by decide) rfl ?_
  refine K_goto (tgt := 11) C dX5_missing_31 (by decide) ?_
  refine K_iload_n C dX5_missing_11 rfl rfl 0 rfl ?_
  refine K_aload_n C dX5_missing_12 rfl rfl 1 rfl ?_
  refine K_alen (v := (6 : Int32)) C 0 1 rfl rfl (show nI 6 = (6 : Int32) from by decide) dX5_missing_13 rfl ?_
  refine K_icmp_ge_t (tgt := 34) C dX5_missing_14 (by decide) (by decide) ?_
  refine K_aload_n C dX5_missing_34 rfl rfl 1 rfl ?_
  exact K_aret C (⟨a1, h2, b3, h4, b5, h6, b7, h8, b9, h10, b11, h12, b13, rfl, rfl⟩) (Nat.le_of_ble_eq_true rfl) (Nat.le_of_ble_eq_true rfl) dX5_missing_35
set_option maxHeartbeats 4000000 in
set_option maxRecDepth 100000 in
theorem c_missing_4_60 (l : Launch) (D : va_G) (cI cR : ClassId) : MQK l D cI cR yX5_missing cX5_missing 4 (.array (.object "WokenYears$Ints")) 2 80 9 252 [.int 4, .int 60] (fun r w1 => ∃ z0 z1 z2 z3 z4 z5 z6 z7 z8 : Nat, r = some z0 ∧ w1 = [(z0, .inl (cR, 4, .inr (.inr (.inr (.inr (va_up (va_up (va_up (va_up (fun _ => none) 0 (some z1)) 1 (some z3)) 2 (some z5)) 3 (some z7))))))), (z1, .inr (0, [.ref z2, .int (-1 : Int32)])), (z2, .inl (cI, 60, .inl (fun _ => 0))), (z3, .inr (0, [.ref z4, .int (-1 : Int32)])), (z4, .inl (cI, 60, .inl (fun _ => 0))), (z5, .inr (0, [.ref z6, .int (-1 : Int32)])), (z6, .inl (cI, 60, .inl (fun _ => 0))), (z7, .inr (0, [.ref z8, .int (-1 : Int32)])), (z8, .inl (cI, 60, .inl (fun _ => 0)))]) := by
  refine entKQ RX5 (by decide +kernel) rfl (by decide) (fun p e s m args below meth c A C => ?_)
  refine K_iconst (v := (0 : Int32)) C dX5_missing_0 rfl (by decide) ?_
  refine K_iload_n C dX5_missing_1 rfl rfl 0 rfl ?_
  refine K_mmax (v := (4 : Int32)) C (by decide) kM_X5_79 kMath_max_s kMath_max_c (Nat.le_of_ble_eq_true rfl) (Nat.le_of_ble_eq_true rfl) (Nat.le_of_ble_eq_true rfl) (Nat.le_of_ble_eq_true rfl) dX5_missing_2 rfl ?_
  refine K_newq (n' := 4) C kC_X5_37 (by decide) (by decide) (by decide) (Nat.le_of_ble_eq_true rfl) (Nat.le_of_ble_eq_true rfl) dX5_missing_5 rfl (fun a1 => ?_)
  refine K_st (st' := [.ref a1]) (ws' := [(a1, .inl (cR, 4, .inr (.inr (.inr (.inr (fun _ => none))))))]) rfl rfl ?_
  refine K_astore_n (lv' := [(2, .ref a1), (0, .int (4 : Int32)), (1, .int (60 : Int32))]) C dX5_missing_8 rfl rfl (by decide) rfl ?_
  refine K_iconst (v := (0 : Int32)) C dX5_missing_9 rfl (by decide) ?_
  refine K_istore_n (lv' := [(3, .int (0 : Int32)), (2, .ref a1), (0, .int (4 : Int32)), (1, .int (60 : Int32))]) C dX5_missing_10 rfl rfl (by decide) rfl ?_
  refine K_iload_n C dX5_missing_11 rfl rfl 0 rfl ?_
  refine K_aload_n C dX5_missing_12 rfl rfl 1 rfl ?_
  refine K_alen (v := (4 : Int32)) C 0 1 rfl rfl (show nI 4 = (4 : Int32) from by decide) dX5_missing_13 rfl ?_
  refine K_icmp_ge_f C dX5_missing_14 rfl 34 (by decide) (by decide) ?_
  refine K_aload_n C dX5_missing_17 rfl rfl 1 rfl ?_
  refine K_iload_n C dX5_missing_18 rfl rfl 0 rfl ?_
  refine K_new (Cn := RX0) (T := TX0) (Nf := 2) (ci := 0) (fs := [.null, .int (0 : Int32)]) C inX0 tyX0 tyX0_ok kC_X5_37 kI_RX0 kZ_RX0 rfl dfX0 (Nat.le_of_ble_eq_true rfl) (Nat.le_of_ble_eq_true rfl) dX5_missing_19 rfl (fun h2 => ?_)
  refine K_st (st' := [.ref h2, .int (0 : Int32), .ref a1]) (ws' := [(a1, .inl (cR, 4, .inr (.inr (.inr (.inr (fun _ => none)))))), (h2, .inr (0, [.null, .int (0 : Int32)]))]) rfl rfl ?_
  refine K_dup C dX5_missing_22 rfl rfl ?_
  refine K_iload_n C dX5_missing_23 rfl rfl 3 rfl ?_
  refine K_init (h := h2) (wr := [(a1, .inl (cR, 4, .inr (.inr (.inr (.inr (fun _ => none))))))]) (rest := [.ref h2, .int (0 : Int32), .ref a1]) C (c_X0_init_60 l D cI cR) ok_X0_init kM_X5_39 rfl rfl rfl ⟨Nat.le_of_ble_eq_true rfl, Nat.le_of_ble_eq_true rfl⟩ (Nat.le_of_ble_eq_true rfl) ⟨Nat.le_of_ble_eq_true rfl, Nat.le_of_ble_eq_true rfl⟩ dX5_missing_24 rfl (fun w1 hw => ?_)
  obtain ⟨b3, rfl⟩ := hw
  refine K_st (st' := [.ref h2, .int (0 : Int32), .ref a1]) (ws' := [(a1, .inl (cR, 4, .inr (.inr (.inr (.inr (fun _ => none)))))), (h2, .inr (0, [.ref b3, .int (-1 : Int32)])), (b3, .inl (cI, 60, .inl (fun _ => 0)))]) rfl rfl ?_
  refine K_aast (i' := 0) (ws' := [(a1, .inl (cR, 4, .inr (.inr (.inr (.inr (va_up (fun _ => none) 0 (some h2))))))), (h2, .inr (0, [.ref b3, .int (-1 : Int32)])), (b3, .inl (cI, 60, .inl (fun _ => 0)))]) C 0 1 rfl rfl (by decide) (by decide) rfl dX5_missing_27 rfl ?_
  refine K_iinc (v := (1 : Int32)) (lv' := [(3, .int (1 : Int32)), (2, .ref a1), (0, .int (4 : Int32)), (1, .int (60 : Int32))]) C dX5_missing_28 rfl 0 rfl (by decide) (by decide) rfl ?_
  refine K_goto (tgt := 11) C dX5_missing_31 (by decide) ?_
  refine K_iload_n C dX5_missing_11 rfl rfl 0 rfl ?_
  refine K_aload_n C dX5_missing_12 rfl rfl 1 rfl ?_
  refine K_alen (v := (4 : Int32)) C 0 1 rfl rfl (show nI 4 = (4 : Int32) from by decide) dX5_missing_13 rfl ?_
  refine K_icmp_ge_f C dX5_missing_14 rfl 34 (by decide) (by decide) ?_
  refine K_aload_n C dX5_missing_17 rfl rfl 1 rfl ?_
  refine K_iload_n C dX5_missing_18 rfl rfl 0 rfl ?_
  refine K_new (Cn := RX0) (T := TX0) (Nf := 2) (ci := 0) (fs := [.null, .int (0 : Int32)]) C inX0 tyX0 tyX0_ok kC_X5_37 kI_RX0 kZ_RX0 rfl dfX0 (Nat.le_of_ble_eq_true rfl) (Nat.le_of_ble_eq_true rfl) dX5_missing_19 rfl (fun h4 => ?_)
  refine K_st (st' := [.ref h4, .int (1 : Int32), .ref a1]) (ws' := [(a1, .inl (cR, 4, .inr (.inr (.inr (.inr (va_up (fun _ => none) 0 (some h2))))))), (h2, .inr (0, [.ref b3, .int (-1 : Int32)])), (b3, .inl (cI, 60, .inl (fun _ => 0))), (h4, .inr (0, [.null, .int (0 : Int32)]))]) rfl rfl ?_
  refine K_dup C dX5_missing_22 rfl rfl ?_
  refine K_iload_n C dX5_missing_23 rfl rfl 3 rfl ?_
  refine K_init (h := h4) (wr := [(a1, .inl (cR, 4, .inr (.inr (.inr (.inr (va_up (fun _ => none) 0 (some h2))))))), (h2, .inr (0, [.ref b3, .int (-1 : Int32)])), (b3, .inl (cI, 60, .inl (fun _ => 0)))]) (rest := [.ref h4, .int (1 : Int32), .ref a1]) C (c_X0_init_60 l D cI cR) ok_X0_init kM_X5_39 rfl rfl rfl ⟨Nat.le_of_ble_eq_true rfl, Nat.le_of_ble_eq_true rfl⟩ (Nat.le_of_ble_eq_true rfl) ⟨Nat.le_of_ble_eq_true rfl, Nat.le_of_ble_eq_true rfl⟩ dX5_missing_24 rfl (fun w1 hw => ?_)
  obtain ⟨b5, rfl⟩ := hw
  refine K_st (st' := [.ref h4, .int (1 : Int32), .ref a1]) (ws' := [(a1, .inl (cR, 4, .inr (.inr (.inr (.inr (va_up (fun _ => none) 0 (some h2))))))), (h2, .inr (0, [.ref b3, .int (-1 : Int32)])), (b3, .inl (cI, 60, .inl (fun _ => 0))), (h4, .inr (0, [.ref b5, .int (-1 : Int32)])), (b5, .inl (cI, 60, .inl (fun _ => 0)))]) rfl rfl ?_
  refine K_aast (i' := 1) (ws' := [(a1, .inl (cR, 4, .inr (.inr (.inr (.inr (va_up (va_up (fun _ => none) 0 (some h2)) 1 (some h4))))))), (h2, .inr (0, [.ref b3, .int (-1 : Int32)])), (b3, .inl (cI, 60, .inl (fun _ => 0))), (h4, .inr (0, [.ref b5, .int (-1 : Int32)])), (b5, .inl (cI, 60, .inl (fun _ => 0)))]) C 0 3 rfl rfl (by decide) (by decide) rfl dX5_missing_27 rfl ?_
  refine K_iinc (v := (2 : Int32)) (lv' := [(3, .int (2 : Int32)), (2, .ref a1), (0, .int (4 : Int32)), (1, .int (60 : Int32))]) C dX5_missing_28 rfl 0 rfl (by decide) (by decide) rfl ?_
  refine K_goto (tgt := 11) C dX5_missing_31 (by decide) ?_
  refine K_iload_n C dX5_missing_11 rfl rfl 0 rfl ?_
  refine K_aload_n C dX5_missing_12 rfl rfl 1 rfl ?_
  refine K_alen (v := (4 : Int32)) C 0 1 rfl rfl (show nI 4 = (4 : Int32) from by decide) dX5_missing_13 rfl ?_
  refine K_icmp_ge_f C dX5_missing_14 rfl 34 (by decide) (by decide) ?_
  refine K_aload_n C dX5_missing_17 rfl rfl 1 rfl ?_
  refine K_iload_n C dX5_missing_18 rfl rfl 0 rfl ?_
  refine K_new (Cn := RX0) (T := TX0) (Nf := 2) (ci := 0) (fs := [.null, .int (0 : Int32)]) C inX0 tyX0 tyX0_ok kC_X5_37 kI_RX0 kZ_RX0 rfl dfX0 (Nat.le_of_ble_eq_true rfl) (Nat.le_of_ble_eq_true rfl) dX5_missing_19 rfl (fun h6 => ?_)
  refine K_st (st' := [.ref h6, .int (2 : Int32), .ref a1]) (ws' := [(a1, .inl (cR, 4, .inr (.inr (.inr (.inr (va_up (va_up (fun _ => none) 0 (some h2)) 1 (some h4))))))), (h2, .inr (0, [.ref b3, .int (-1 : Int32)])), (b3, .inl (cI, 60, .inl (fun _ => 0))), (h4, .inr (0, [.ref b5, .int (-1 : Int32)])), (b5, .inl (cI, 60, .inl (fun _ => 0))), (h6, .inr (0, [.null, .int (0 : Int32)]))]) rfl rfl ?_
  refine K_dup C dX5_missing_22 rfl rfl ?_
  refine K_iload_n C dX5_missing_23 rfl rfl 3 rfl ?_
  refine K_init (h := h6) (wr := [(a1, .inl (cR, 4, .inr (.inr (.inr (.inr (va_up (va_up (fun _ => none) 0 (some h2)) 1 (some h4))))))), (h2, .inr (0, [.ref b3, .int (-1 : Int32)])), (b3, .inl (cI, 60, .inl (fun _ => 0))), (h4, .inr (0, [.ref b5, .int (-1 : Int32)])), (b5, .inl (cI, 60, .inl (fun _ => 0)))]) (rest := [.ref h6, .int (2 : Int32), .ref a1]) C (c_X0_init_60 l D cI cR) ok_X0_init kM_X5_39 rfl rfl rfl ⟨Nat.le_of_ble_eq_true rfl, Nat.le_of_ble_eq_true rfl⟩ (Nat.le_of_ble_eq_true rfl) ⟨Nat.le_of_ble_eq_true rfl, Nat.le_of_ble_eq_true rfl⟩ dX5_missing_24 rfl (fun w1 hw => ?_)
  obtain ⟨b7, rfl⟩ := hw
  refine K_st (st' := [.ref h6, .int (2 : Int32), .ref a1]) (ws' := [(a1, .inl (cR, 4, .inr (.inr (.inr (.inr (va_up (va_up (fun _ => none) 0 (some h2)) 1 (some h4))))))), (h2, .inr (0, [.ref b3, .int (-1 : Int32)])), (b3, .inl (cI, 60, .inl (fun _ => 0))), (h4, .inr (0, [.ref b5, .int (-1 : Int32)])), (b5, .inl (cI, 60, .inl (fun _ => 0))), (h6, .inr (0, [.ref b7, .int (-1 : Int32)])), (b7, .inl (cI, 60, .inl (fun _ => 0)))]) rfl rfl ?_
  refine K_aast (i' := 2) (ws' := [(a1, .inl (cR, 4, .inr (.inr (.inr (.inr (va_up (va_up (va_up (fun _ => none) 0 (some h2)) 1 (some h4)) 2 (some h6))))))), (h2, .inr (0, [.ref b3, .int (-1 : Int32)])), (b3, .inl (cI, 60, .inl (fun _ => 0))), (h4, .inr (0, [.ref b5, .int (-1 : Int32)])), (b5, .inl (cI, 60, .inl (fun _ => 0))), (h6, .inr (0, [.ref b7, .int (-1 : Int32)])), (b7, .inl (cI, 60, .inl (fun _ => 0)))]) C 0 5 rfl rfl (by decide) (by decide) rfl dX5_missing_27 rfl ?_
  refine K_iinc (v := (3 : Int32)) (lv' := [(3, .int (3 : Int32)), (2, .ref a1), (0, .int (4 : Int32)), (1, .int (60 : Int32))]) C dX5_missing_28 rfl 0 rfl (by decide) (by decide) rfl ?_
  refine K_goto (tgt := 11) C dX5_missing_31 (by decide) ?_
  refine K_iload_n C dX5_missing_11 rfl rfl 0 rfl ?_
  refine K_aload_n C dX5_missing_12 rfl rfl 1 rfl ?_
  refine K_alen (v := (4 : Int32)) C 0 1 rfl rfl (show nI 4 = (4 : Int32) from by decide) dX5_missing_13 rfl ?_
  refine K_icmp_ge_f C dX5_missing_14 rfl 34 (by decide) (by decide) ?_
  refine K_aload_n C dX5_missing_17 rfl rfl 1 rfl ?_
  refine K_iload_n C dX5_missing_18 rfl rfl 0 rfl ?_
  refine K_new (Cn := RX0) (T := TX0) (Nf := 2) (ci := 0) (fs := [.null, .int (0 : Int32)]) C inX0 tyX0 tyX0_ok kC_X5_37 kI_RX0 kZ_RX0 rfl dfX0 (Nat.le_of_ble_eq_true rfl) (Nat.le_of_ble_eq_true rfl) dX5_missing_19 rfl (fun h8 => ?_)
  refine K_st (st' := [.ref h8, .int (3 : Int32), .ref a1]) (ws' := [(a1, .inl (cR, 4, .inr (.inr (.inr (.inr (va_up (va_up (va_up (fun _ => none) 0 (some h2)) 1 (some h4)) 2 (some h6))))))), (h2, .inr (0, [.ref b3, .int (-1 : Int32)])), (b3, .inl (cI, 60, .inl (fun _ => 0))), (h4, .inr (0, [.ref b5, .int (-1 : Int32)])), (b5, .inl (cI, 60, .inl (fun _ => 0))), (h6, .inr (0, [.ref b7, .int (-1 : Int32)])), (b7, .inl (cI, 60, .inl (fun _ => 0))), (h8, .inr (0, [.null, .int (0 : Int32)]))]) rfl rfl ?_
  refine K_dup C dX5_missing_22 rfl rfl ?_
  refine K_iload_n C dX5_missing_23 rfl rfl 3 rfl ?_
  refine K_init (h := h8) (wr := [(a1, .inl (cR, 4, .inr (.inr (.inr (.inr (va_up (va_up (va_up (fun _ => none) 0 (some h2)) 1 (some h4)) 2 (some h6))))))), (h2, .inr (0, [.ref b3, .int (-1 : Int32)])), (b3, .inl (cI, 60, .inl (fun _ => 0))), (h4, .inr (0, [.ref b5, .int (-1 : Int32)])), (b5, .inl (cI, 60, .inl (fun _ => 0))), (h6, .inr (0, [.ref b7, .int (-1 : Int32)])), (b7, .inl (cI, 60, .inl (fun _ => 0)))]) (rest := [.ref h8, .int (3 : Int32), .ref a1]) C (c_X0_init_60 l D cI cR) ok_X0_init kM_X5_39 rfl rfl rfl ⟨Nat.le_of_ble_eq_true rfl, Nat.le_of_ble_eq_true rfl⟩ (Nat.le_of_ble_eq_true rfl) ⟨Nat.le_of_ble_eq_true rfl, Nat.le_of_ble_eq_true rfl⟩ dX5_missing_24 rfl (fun w1 hw => ?_)
  obtain ⟨b9, rfl⟩ := hw
  refine K_st (st' := [.ref h8, .int (3 : Int32), .ref a1]) (ws' := [(a1, .inl (cR, 4, .inr (.inr (.inr (.inr (va_up (va_up (va_up (fun _ => none) 0 (some h2)) 1 (some h4)) 2 (some h6))))))), (h2, .inr (0, [.ref b3, .int (-1 : Int32)])), (b3, .inl (cI, 60, .inl (fun _ => 0))), (h4, .inr (0, [.ref b5, .int (-1 : Int32)])), (b5, .inl (cI, 60, .inl (fun _ => 0))), (h6, .inr (0, [.ref b7, .int (-1 : Int32)])), (b7, .inl (cI, 60, .inl (fun _ => 0))), (h8, .inr (0, [.ref b9, .int (-1 : Int32)])), (b9, .inl (cI, 60, .inl (fun _ => 0)))]) rfl rfl ?_
  refine K_aast (i' := 3) (ws' := [(a1, .inl (cR, 4, .inr (.inr (.inr (.inr (va_up (va_up (va_up (va_up (fun _ => none) 0 (some h2)) 1 (some h4)) 2 (some h6)) 3 (some h8))))))), (h2, .inr (0, [.ref b3, .int (-1 : Int32)])), (b3, .inl (cI, 60, .inl (fun _ => 0))), (h4, .inr (0, [.ref b5, .int (-1 : Int32)])), (b5, .inl (cI, 60, .inl (fun _ => 0))), (h6, .inr (0, [.ref b7, .int (-1 : Int32)])), (b7, .inl (cI, 60, .inl (fun _ => 0))), (h8, .inr (0, [.ref b9, .int (-1 : Int32)])), (b9, .inl (cI, 60, .inl (fun _ => 0)))]) C 0 7 rfl rfl (by decide) (by decide) rfl dX5_missing_27 rfl ?_
  refine K_iinc (v := (4 : Int32)) (lv' := [(3, .int (4 : Int32)), (2, .ref a1), (0, .int (4 : Int32)), (1, .int (60 : Int32))]) C dX5_missing_28 rfl 0 rfl (by decide) (by decide) rfl ?_
  refine K_goto (tgt := 11) C dX5_missing_31 (by decide) ?_
  refine K_iload_n C dX5_missing_11 rfl rfl 0 rfl ?_
  refine K_aload_n C dX5_missing_12 rfl rfl 1 rfl ?_
  refine K_alen (v := (4 : Int32)) C 0 1 rfl rfl (show nI 4 = (4 : Int32) from by decide) dX5_missing_13 rfl ?_
  refine K_icmp_ge_t (tgt := 34) C dX5_missing_14 (by decide) (by decide) ?_
  refine K_aload_n C dX5_missing_34 rfl rfl 1 rfl ?_
  exact K_aret C (⟨a1, h2, b3, h4, b5, h6, b7, h8, b9, rfl, rfl⟩) (Nat.le_of_ble_eq_true rfl) (Nat.le_of_ble_eq_true rfl) dX5_missing_35
set_option maxHeartbeats 4000000 in
set_option maxRecDepth 100000 in
theorem c_missing_3_40 (l : Launch) (D : va_G) (cI cR : ClassId) : MQK l D cI cR yX5_missing cX5_missing 4 (.array (.object "WokenYears$Ints")) 2 80 7 129 [.int 3, .int 40] (fun r w1 => ∃ z0 z1 z2 z3 z4 z5 z6 : Nat, r = some z0 ∧ w1 = [(z0, .inl (cR, 3, .inr (.inr (.inr (.inr (va_up (va_up (va_up (fun _ => none) 0 (some z1)) 1 (some z3)) 2 (some z5))))))), (z1, .inr (0, [.ref z2, .int (-1 : Int32)])), (z2, .inl (cI, 40, .inl (fun _ => 0))), (z3, .inr (0, [.ref z4, .int (-1 : Int32)])), (z4, .inl (cI, 40, .inl (fun _ => 0))), (z5, .inr (0, [.ref z6, .int (-1 : Int32)])), (z6, .inl (cI, 40, .inl (fun _ => 0)))]) := by
  refine entKQ RX5 (by decide +kernel) rfl (by decide) (fun p e s m args below meth c A C => ?_)
  refine K_iconst (v := (0 : Int32)) C dX5_missing_0 rfl (by decide) ?_
  refine K_iload_n C dX5_missing_1 rfl rfl 0 rfl ?_
  refine K_mmax (v := (3 : Int32)) C (by decide) kM_X5_79 kMath_max_s kMath_max_c (Nat.le_of_ble_eq_true rfl) (Nat.le_of_ble_eq_true rfl) (Nat.le_of_ble_eq_true rfl) (Nat.le_of_ble_eq_true rfl) dX5_missing_2 rfl ?_
  refine K_newq (n' := 3) C kC_X5_37 (by decide) (by decide) (by decide) (Nat.le_of_ble_eq_true rfl) (Nat.le_of_ble_eq_true rfl) dX5_missing_5 rfl (fun a1 => ?_)
  refine K_st (st' := [.ref a1]) (ws' := [(a1, .inl (cR, 3, .inr (.inr (.inr (.inr (fun _ => none))))))]) rfl rfl ?_
  refine K_astore_n (lv' := [(2, .ref a1), (0, .int (3 : Int32)), (1, .int (40 : Int32))]) C dX5_missing_8 rfl rfl (by decide) rfl ?_
  refine K_iconst (v := (0 : Int32)) C dX5_missing_9 rfl (by decide) ?_
  refine K_istore_n (lv' := [(3, .int (0 : Int32)), (2, .ref a1), (0, .int (3 : Int32)), (1, .int (40 : Int32))]) C dX5_missing_10 rfl rfl (by decide) rfl ?_
  refine K_iload_n C dX5_missing_11 rfl rfl 0 rfl ?_
  refine K_aload_n C dX5_missing_12 rfl rfl 1 rfl ?_
  refine K_alen (v := (3 : Int32)) C 0 1 rfl rfl (show nI 3 = (3 : Int32) from by decide) dX5_missing_13 rfl ?_
  refine K_icmp_ge_f C dX5_missing_14 rfl 34 (by decide) (by decide) ?_
  refine K_aload_n C dX5_missing_17 rfl rfl 1 rfl ?_
  refine K_iload_n C dX5_missing_18 rfl rfl 0 rfl ?_
  refine K_new (Cn := RX0) (T := TX0) (Nf := 2) (ci := 0) (fs := [.null, .int (0 : Int32)]) C inX0 tyX0 tyX0_ok kC_X5_37 kI_RX0 kZ_RX0 rfl dfX0 (Nat.le_of_ble_eq_true rfl) (Nat.le_of_ble_eq_true rfl) dX5_missing_19 rfl (fun h2 => ?_)
  refine K_st (st' := [.ref h2, .int (0 : Int32), .ref a1]) (ws' := [(a1, .inl (cR, 3, .inr (.inr (.inr (.inr (fun _ => none)))))), (h2, .inr (0, [.null, .int (0 : Int32)]))]) rfl rfl ?_
  refine K_dup C dX5_missing_22 rfl rfl ?_
  refine K_iload_n C dX5_missing_23 rfl rfl 3 rfl ?_
  refine K_init (h := h2) (wr := [(a1, .inl (cR, 3, .inr (.inr (.inr (.inr (fun _ => none))))))]) (rest := [.ref h2, .int (0 : Int32), .ref a1]) C (c_X0_init_40 l D cI cR) ok_X0_init kM_X5_39 rfl rfl rfl ⟨Nat.le_of_ble_eq_true rfl, Nat.le_of_ble_eq_true rfl⟩ (Nat.le_of_ble_eq_true rfl) ⟨Nat.le_of_ble_eq_true rfl, Nat.le_of_ble_eq_true rfl⟩ dX5_missing_24 rfl (fun w1 hw => ?_)
  obtain ⟨b3, rfl⟩ := hw
  refine K_st (st' := [.ref h2, .int (0 : Int32), .ref a1]) (ws' := [(a1, .inl (cR, 3, .inr (.inr (.inr (.inr (fun _ => none)))))), (h2, .inr (0, [.ref b3, .int (-1 : Int32)])), (b3, .inl (cI, 40, .inl (fun _ => 0)))]) rfl rfl ?_
  refine K_aast (i' := 0) (ws' := [(a1, .inl (cR, 3, .inr (.inr (.inr (.inr (va_up (fun _ => none) 0 (some h2))))))), (h2, .inr (0, [.ref b3, .int (-1 : Int32)])), (b3, .inl (cI, 40, .inl (fun _ => 0)))]) C 0 1 rfl rfl (by decide) (by decide) rfl dX5_missing_27 rfl ?_
  refine K_iinc (v := (1 : Int32)) (lv' := [(3, .int (1 : Int32)), (2, .ref a1), (0, .int (3 : Int32)), (1, .int (40 : Int32))]) C dX5_missing_28 rfl 0 rfl (by decide) (by decide) rfl ?_
  refine K_goto (tgt := 11) C dX5_missing_31 (by decide) ?_
  refine K_iload_n C dX5_missing_11 rfl rfl 0 rfl ?_
  refine K_aload_n C dX5_missing_12 rfl rfl 1 rfl ?_
  refine K_alen (v := (3 : Int32)) C 0 1 rfl rfl (show nI 3 = (3 : Int32) from by decide) dX5_missing_13 rfl ?_
  refine K_icmp_ge_f C dX5_missing_14 rfl 34 (by decide) (by decide) ?_
  refine K_aload_n C dX5_missing_17 rfl rfl 1 rfl ?_
  refine K_iload_n C dX5_missing_18 rfl rfl 0 rfl ?_
  refine K_new (Cn := RX0) (T := TX0) (Nf := 2) (ci := 0) (fs := [.null, .int (0 : Int32)]) C inX0 tyX0 tyX0_ok kC_X5_37 kI_RX0 kZ_RX0 rfl dfX0 (Nat.le_of_ble_eq_true rfl) (Nat.le_of_ble_eq_true rfl) dX5_missing_19 rfl (fun h4 => ?_)
  refine K_st (st' := [.ref h4, .int (1 : Int32), .ref a1]) (ws' := [(a1, .inl (cR, 3, .inr (.inr (.inr (.inr (va_up (fun _ => none) 0 (some h2))))))), (h2, .inr (0, [.ref b3, .int (-1 : Int32)])), (b3, .inl (cI, 40, .inl (fun _ => 0))), (h4, .inr (0, [.null, .int (0 : Int32)]))]) rfl rfl ?_
  refine K_dup C dX5_missing_22 rfl rfl ?_
  refine K_iload_n C dX5_missing_23 rfl rfl 3 rfl ?_
  refine K_init (h := h4) (wr := [(a1, .inl (cR, 3, .inr (.inr (.inr (.inr (va_up (fun _ => none) 0 (some h2))))))), (h2, .inr (0, [.ref b3, .int (-1 : Int32)])), (b3, .inl (cI, 40, .inl (fun _ => 0)))]) (rest := [.ref h4, .int (1 : Int32), .ref a1]) C (c_X0_init_40 l D cI cR) ok_X0_init kM_X5_39 rfl rfl rfl ⟨Nat.le_of_ble_eq_true rfl, Nat.le_of_ble_eq_true rfl⟩ (Nat.le_of_ble_eq_true rfl) ⟨Nat.le_of_ble_eq_true rfl, Nat.le_of_ble_eq_true rfl⟩ dX5_missing_24 rfl (fun w1 hw => ?_)
  obtain ⟨b5, rfl⟩ := hw
  refine K_st (st' := [.ref h4, .int (1 : Int32), .ref a1]) (ws' := [(a1, .inl (cR, 3, .inr (.inr (.inr (.inr (va_up (fun _ => none) 0 (some h2))))))), (h2, .inr (0, [.ref b3, .int (-1 : Int32)])), (b3, .inl (cI, 40, .inl (fun _ => 0))), (h4, .inr (0, [.ref b5, .int (-1 : Int32)])), (b5, .inl (cI, 40, .inl (fun _ => 0)))]) rfl rfl ?_
  refine K_aast (i' := 1) (ws' := [(a1, .inl (cR, 3, .inr (.inr (.inr (.inr (va_up (va_up (fun _ => none) 0 (some h2)) 1 (some h4))))))), (h2, .inr (0, [.ref b3, .int (-1 : Int32)])), (b3, .inl (cI, 40, .inl (fun _ => 0))), (h4, .inr (0, [.ref b5, .int (-1 : Int32)])), (b5, .inl (cI, 40, .inl (fun _ => 0)))]) C 0 3 rfl rfl (by decide) (by decide) rfl dX5_missing_27 rfl ?_
  refine K_iinc (v := (2 : Int32)) (lv' := [(3, .int (2 : Int32)), (2, .ref a1), (0, .int (3 : Int32)), (1, .int (40 : Int32))]) C dX5_missing_28 rfl 0 rfl (by decide) (by decide) rfl ?_
  refine K_goto (tgt := 11) C dX5_missing_31 (by decide) ?_
  refine K_iload_n C dX5_missing_11 rfl rfl 0 rfl ?_
  refine K_aload_n C dX5_missing_12 rfl rfl 1 rfl ?_
  refine K_alen (v := (3 : Int32)) C 0 1 rfl rfl (show nI 3 = (3 : Int32) from by decide) dX5_missing_13 rfl ?_
  refine K_icmp_ge_f C dX5_missing_14 rfl 34 (by decide) (by decide) ?_
  refine K_aload_n C dX5_missing_17 rfl rfl 1 rfl ?_
  refine K_iload_n C dX5_missing_18 rfl rfl 0 rfl ?_
  refine K_new (Cn := RX0) (T := TX0) (Nf := 2) (ci := 0) (fs := [.null, .int (0 : Int32)]) C inX0 tyX0 tyX0_ok kC_X5_37 kI_RX0 kZ_RX0 rfl dfX0 (Nat.le_of_ble_eq_true rfl) (Nat.le_of_ble_eq_true rfl) dX5_missing_19 rfl (fun h6 => ?_)
  refine K_st (st' := [.ref h6, .int (2 : Int32), .ref a1]) (ws' := [(a1, .inl (cR, 3, .inr (.inr (.inr (.inr (va_up (va_up (fun _ => none) 0 (some h2)) 1 (some h4))))))), (h2, .inr (0, [.ref b3, .int (-1 : Int32)])), (b3, .inl (cI, 40, .inl (fun _ => 0))), (h4, .inr (0, [.ref b5, .int (-1 : Int32)])), (b5, .inl (cI, 40, .inl (fun _ => 0))), (h6, .inr (0, [.null, .int (0 : Int32)]))]) rfl rfl ?_
  refine K_dup C dX5_missing_22 rfl rfl ?_
  refine K_iload_n C dX5_missing_23 rfl rfl 3 rfl ?_
  refine K_init (h := h6) (wr := [(a1, .inl (cR, 3, .inr (.inr (.inr (.inr (va_up (va_up (fun _ => none) 0 (some h2)) 1 (some h4))))))), (h2, .inr (0, [.ref b3, .int (-1 : Int32)])), (b3, .inl (cI, 40, .inl (fun _ => 0))), (h4, .inr (0, [.ref b5, .int (-1 : Int32)])), (b5, .inl (cI, 40, .inl (fun _ => 0)))]) (rest := [.ref h6, .int (2 : Int32), .ref a1]) C (c_X0_init_40 l D cI cR) ok_X0_init kM_X5_39 rfl rfl rfl ⟨Nat.le_of_ble_eq_true rfl, Nat.le_of_ble_eq_true rfl⟩ (Nat.le_of_ble_eq_true rfl) ⟨Nat.le_of_ble_eq_true rfl, Nat.le_of_ble_eq_true rfl⟩ dX5_missing_24 rfl (fun w1 hw => ?_)
  obtain ⟨b7, rfl⟩ := hw
  refine K_st (st' := [.ref h6, .int (2 : Int32), .ref a1]) (ws' := [(a1, .inl (cR, 3, .inr (.inr (.inr (.inr (va_up (va_up (fun _ => none) 0 (some h2)) 1 (some h4))))))), (h2, .inr (0, [.ref b3, .int (-1 : Int32)])), (b3, .inl (cI, 40, .inl (fun _ => 0))), (h4, .inr (0, [.ref b5, .int (-1 : Int32)])), (b5, .inl (cI, 40, .inl (fun _ => 0))), (h6, .inr (0, [.ref b7, .int (-1 : Int32)])), (b7, .inl (cI, 40, .inl (fun _ => 0)))]) rfl rfl ?_
  refine K_aast (i' := 2) (ws' := [(a1, .inl (cR, 3, .inr (.inr (.inr (.inr (va_up (va_up (va_up (fun _ => none) 0 (some h2)) 1 (some h4)) 2 (some h6))))))), (h2, .inr (0, [.ref b3, .int (-1 : Int32)])), (b3, .inl (cI, 40, .inl (fun _ => 0))), (h4, .inr (0, [.ref b5, .int (-1 : Int32)])), (b5, .inl (cI, 40, .inl (fun _ => 0))), (h6, .inr (0, [.ref b7, .int (-1 : Int32)])), (b7, .inl (cI, 40, .inl (fun _ => 0)))]) C 0 5 rfl rfl (by decide) (by decide) rfl dX5_missing_27 rfl ?_
  refine K_iinc (v := (3 : Int32)) (lv' := [(3, .int (3 : Int32)), (2, .ref a1), (0, .int (3 : Int32)), (1, .int (40 : Int32))]) C dX5_missing_28 rfl 0 rfl (by decide) (by decide) rfl ?_
  refine K_goto (tgt := 11) C dX5_missing_31 (by decide) ?_
  refine K_iload_n C dX5_missing_11 rfl rfl 0 rfl ?_
  refine K_aload_n C dX5_missing_12 rfl rfl 1 rfl ?_
  refine K_alen (v := (3 : Int32)) C 0 1 rfl rfl (show nI 3 = (3 : Int32) from by decide) dX5_missing_13 rfl ?_
  refine K_icmp_ge_t (tgt := 34) C dX5_missing_14 (by decide) (by decide) ?_
  refine K_aload_n C dX5_missing_34 rfl rfl 1 rfl ?_
  exact K_aret C (⟨a1, h2, b3, h4, b5, h6, b7, rfl, rfl⟩) (Nat.le_of_ble_eq_true rfl) (Nat.le_of_ble_eq_true rfl) dX5_missing_35
