theorem dX0_init_0 : decode cX0_init 0 = .ok (.aload_n 0, 1) := by decide +kernel
theorem dX0_init_1 : decode cX0_init 1 = .ok (.invokespecial 1, 3) := by decide +kernel
theorem dX0_init_4 : decode cX0_init 4 = .ok (.aload_n 0, 1) := by decide +kernel
theorem dX0_init_5 : decode cX0_init 5 = .ok (.iconst (-1), 1) := by decide +kernel
theorem dX0_init_6 : decode cX0_init 6 = .ok (.putfield 7, 3) := by decide +kernel
theorem dX0_init_9 : decode cX0_init 9 = .ok (.aload_n 0, 1) := by decide +kernel
theorem dX0_init_10 : decode cX0_init 10 = .ok (.iconst 0, 1) := by decide +kernel
theorem dX0_init_11 : decode cX0_init 11 = .ok (.iload_n 1, 1) := by decide +kernel
theorem dX0_init_12 : decode cX0_init 12 = .ok (.invokestatic 13, 3) := by decide +kernel
theorem dX0_init_15 : decode cX0_init 15 = .ok (.newarray .int, 2) := by decide +kernel
theorem dX0_init_17 : decode cX0_init 17 = .ok (.putfield 19, 3) := by decide +kernel
theorem dX0_init_20 : decode cX0_init 20 = .ok (.return_, 1) := by decide +kernel
theorem dX0_has_0 : decode cX0_has 0 = .ok (.iload_n 1, 1) := by decide +kernel
theorem dX0_has_1 : decode cX0_has 1 = .ok (.ifCond .lt 24, 3) := by decide +kernel
theorem dX0_has_4 : decode cX0_has 4 = .ok (.iload_n 1, 1) := by decide +kernel
theorem dX0_has_5 : decode cX0_has 5 = .ok (.aload_n 0, 1) := by decide +kernel
theorem dX0_has_6 : decode cX0_has 6 = .ok (.getfield 7, 3) := by decide +kernel
theorem dX0_has_9 : decode cX0_has 9 = .ok (.if_icmp .ge 16, 3) := by decide +kernel
theorem dX0_has_12 : decode cX0_has 12 = .ok (.iload_n 1, 1) := by decide +kernel
theorem dX0_has_13 : decode cX0_has 13 = .ok (.aload_n 0, 1) := by decide +kernel
theorem dX0_has_14 : decode cX0_has 14 = .ok (.getfield 19, 3) := by decide +kernel
theorem dX0_has_17 : decode cX0_has 17 = .ok (.arraylength, 1) := by decide +kernel
theorem dX0_has_18 : decode cX0_has 18 = .ok (.if_icmp .ge 7, 3) := by decide +kernel
theorem dX0_has_21 : decode cX0_has 21 = .ok (.iconst 1, 1) := by decide +kernel
theorem dX0_has_22 : decode cX0_has 22 = .ok (.goto 4, 3) := by decide +kernel
theorem dX0_has_25 : decode cX0_has 25 = .ok (.iconst 0, 1) := by decide +kernel
theorem dX0_has_26 : decode cX0_has 26 = .ok (.ireturn, 1) := by decide +kernel
theorem dX0_get_0 : decode cX0_get 0 = .ok (.iload_n 1, 1) := by decide +kernel
theorem dX0_get_1 : decode cX0_get 1 = .ok (.ifCond .lt 29, 3) := by decide +kernel
theorem dX0_get_4 : decode cX0_get 4 = .ok (.iload_n 1, 1) := by decide +kernel
theorem dX0_get_5 : decode cX0_get 5 = .ok (.aload_n 0, 1) := by decide +kernel
theorem dX0_get_6 : decode cX0_get 6 = .ok (.getfield 7, 3) := by decide +kernel
theorem dX0_get_9 : decode cX0_get 9 = .ok (.if_icmp .ge 21, 3) := by decide +kernel
theorem dX0_get_12 : decode cX0_get 12 = .ok (.iload_n 1, 1) := by decide +kernel
theorem dX0_get_13 : decode cX0_get 13 = .ok (.aload_n 0, 1) := by decide +kernel
theorem dX0_get_14 : decode cX0_get 14 = .ok (.getfield 19, 3) := by decide +kernel
theorem dX0_get_17 : decode cX0_get 17 = .ok (.arraylength, 1) := by decide +kernel
theorem dX0_get_18 : decode cX0_get 18 = .ok (.if_icmp .ge 12, 3) := by decide +kernel
theorem dX0_get_21 : decode cX0_get 21 = .ok (.aload_n 0, 1) := by decide +kernel
theorem dX0_get_22 : decode cX0_get 22 = .ok (.getfield 19, 3) := by decide +kernel
theorem dX0_get_25 : decode cX0_get 25 = .ok (.iload_n 1, 1) := by decide +kernel
theorem dX0_get_26 : decode cX0_get 26 = .ok (.iaload, 1) := by decide +kernel
theorem dX0_get_27 : decode cX0_get 27 = .ok (.goto 4, 3) := by decide +kernel
theorem dX0_get_30 : decode cX0_get 30 = .ok (.iconst 0, 1) := by decide +kernel
theorem dX0_get_31 : decode cX0_get 31 = .ok (.ireturn, 1) := by decide +kernel
theorem dX0_set_0 : decode cX0_set 0 = .ok (.iload_n 1, 1) := by decide +kernel
theorem dX0_set_1 : decode cX0_set 1 = .ok (.ifCond .lt 27, 3) := by decide +kernel
theorem dX0_set_4 : decode cX0_set 4 = .ok (.iload_n 1, 1) := by decide +kernel
theorem dX0_set_5 : decode cX0_set 5 = .ok (.aload_n 0, 1) := by decide +kernel
theorem dX0_set_6 : decode cX0_set 6 = .ok (.getfield 7, 3) := by decide +kernel
theorem dX0_set_9 : decode cX0_set 9 = .ok (.if_icmp .ge 19, 3) := by decide +kernel
theorem dX0_set_12 : decode cX0_set 12 = .ok (.iload_n 1, 1) := by decide +kernel
theorem dX0_set_13 : decode cX0_set 13 = .ok (.aload_n 0, 1) := by decide +kernel
theorem dX0_set_14 : decode cX0_set 14 = .ok (.getfield 19, 3) := by decide +kernel
theorem dX0_set_17 : decode cX0_set 17 = .ok (.arraylength, 1) := by decide +kernel
theorem dX0_set_18 : decode cX0_set 18 = .ok (.if_icmp .ge 10, 3) := by decide +kernel
theorem dX0_set_21 : decode cX0_set 21 = .ok (.aload_n 0, 1) := by decide +kernel
theorem dX0_set_22 : decode cX0_set 22 = .ok (.getfield 19, 3) := by decide +kernel
theorem dX0_set_25 : decode cX0_set 25 = .ok (.iload_n 1, 1) := by decide +kernel
theorem dX0_set_26 : decode cX0_set 26 = .ok (.iload_n 2, 1) := by decide +kernel
theorem dX0_set_27 : decode cX0_set 27 = .ok (.iastore, 1) := by decide +kernel
theorem dX0_set_28 : decode cX0_set 28 = .ok (.return_, 1) := by decide +kernel
theorem dX0_fill_0 : decode cX0_fill 0 = .ok (.aload_n 0, 1) := by decide +kernel
theorem dX0_fill_1 : decode cX0_fill 1 = .ok (.iconst 0, 1) := by decide +kernel
theorem dX0_fill_2 : decode cX0_fill 2 = .ok (.iload_n 1, 1) := by decide +kernel
theorem dX0_fill_3 : decode cX0_fill 3 = .ok (.aload_n 0, 1) := by decide +kernel
theorem dX0_fill_4 : decode cX0_fill 4 = .ok (.getfield 19, 3) := by decide +kernel
theorem dX0_fill_7 : decode cX0_fill 7 = .ok (.arraylength, 1) := by decide +kernel
theorem dX0_fill_8 : decode cX0_fill 8 = .ok (.invokestatic 23, 3) := by decide +kernel
theorem dX0_fill_11 : decode cX0_fill 11 = .ok (.invokestatic 13, 3) := by decide +kernel
theorem dX0_fill_14 : decode cX0_fill 14 = .ok (.putfield 7, 3) := by decide +kernel
theorem dX0_fill_17 : decode cX0_fill 17 = .ok (.iconst 0, 1) := by decide +kernel
theorem dX0_fill_18 : decode cX0_fill 18 = .ok (.istore_n 3, 1) := by decide +kernel
theorem dX0_fill_19 : decode cX0_fill 19 = .ok (.iload_n 3, 1) := by decide +kernel
theorem dX0_fill_20 : decode cX0_fill 20 = .ok (.aload_n 0, 1) := by decide +kernel
theorem dX0_fill_21 : decode cX0_fill 21 = .ok (.getfield 7, 3) := by decide +kernel
theorem dX0_fill_24 : decode cX0_fill 24 = .ok (.if_icmp .ge 25, 3) := by decide +kernel
theorem dX0_fill_27 : decode cX0_fill 27 = .ok (.iload_n 3, 1) := by decide +kernel
theorem dX0_fill_28 : decode cX0_fill 28 = .ok (.aload_n 0, 1) := by decide +kernel
theorem dX0_fill_29 : decode cX0_fill 29 = .ok (.getfield 19, 3) := by decide +kernel
theorem dX0_fill_32 : decode cX0_fill 32 = .ok (.arraylength, 1) := by decide +kernel
theorem dX0_fill_33 : decode cX0_fill 33 = .ok (.if_icmp .ge 16, 3) := by decide +kernel
theorem dX0_fill_36 : decode cX0_fill 36 = .ok (.aload_n 0, 1) := by decide +kernel
theorem dX0_fill_37 : decode cX0_fill 37 = .ok (.getfield 19, 3) := by decide +kernel
theorem dX0_fill_40 : decode cX0_fill 40 = .ok (.iload_n 3, 1) := by decide +kernel
theorem dX0_fill_41 : decode cX0_fill 41 = .ok (.iload_n 2, 1) := by decide +kernel
theorem dX0_fill_42 : decode cX0_fill 42 = .ok (.iastore, 1) := by decide +kernel
theorem dX0_fill_43 : decode cX0_fill 43 = .ok (.iinc 3 1, 3) := by decide +kernel
theorem dX0_fill_46 : decode cX0_fill 46 = .ok (.goto (-27), 3) := by decide +kernel
theorem dX0_fill_49 : decode cX0_fill 49 = .ok (.return_, 1) := by decide +kernel
theorem dX0_add_0 : decode cX0_add 0 = .ok (.aload_n 0, 1) := by decide +kernel
theorem dX0_add_1 : decode cX0_add 1 = .ok (.getfield 7, 3) := by decide +kernel
theorem dX0_add_4 : decode cX0_add 4 = .ok (.ifCond .lt 35, 3) := by decide +kernel
theorem dX0_add_7 : decode cX0_add 7 = .ok (.aload_n 0, 1) := by decide +kernel
theorem dX0_add_8 : decode cX0_add 8 = .ok (.getfield 7, 3) := by decide +kernel
theorem dX0_add_11 : decode cX0_add 11 = .ok (.aload_n 0, 1) := by decide +kernel
theorem dX0_add_12 : decode cX0_add 12 = .ok (.getfield 19, 3) := by decide +kernel
theorem dX0_add_15 : decode cX0_add 15 = .ok (.arraylength, 1) := by decide +kernel
theorem dX0_add_16 : decode cX0_add 16 = .ok (.if_icmp .ge 23, 3) := by decide +kernel
theorem dX0_add_19 : decode cX0_add 19 = .ok (.aload_n 0, 1) := by decide +kernel
theorem dX0_add_20 : decode cX0_add 20 = .ok (.getfield 19, 3) := by decide +kernel
theorem dX0_add_23 : decode cX0_add 23 = .ok (.aload_n 0, 1) := by decide +kernel
theorem dX0_add_24 : decode cX0_add 24 = .ok (.getfield 7, 3) := by decide +kernel
theorem dX0_add_27 : decode cX0_add 27 = .ok (.iload_n 1, 1) := by decide +kernel
theorem dX0_add_28 : decode cX0_add 28 = .ok (.iastore, 1) := by decide +kernel
theorem dX0_add_29 : decode cX0_add 29 = .ok (.aload_n 0, 1) := by decide +kernel
theorem dX0_add_30 : decode cX0_add 30 = .ok (.dup, 1) := by decide +kernel
theorem dX0_add_31 : decode cX0_add 31 = .ok (.getfield 7, 3) := by decide +kernel
theorem dX0_add_34 : decode cX0_add 34 = .ok (.iconst 1, 1) := by decide +kernel
theorem dX0_add_35 : decode cX0_add 35 = .ok (.iadd, 1) := by decide +kernel
theorem dX0_add_36 : decode cX0_add 36 = .ok (.putfield 7, 3) := by decide +kernel
theorem dX0_add_39 : decode cX0_add 39 = .ok (.return_, 1) := by decide +kernel
theorem dX0_cut_0 : decode cX0_cut 0 = .ok (.aload_n 0, 1) := by decide +kernel
theorem dX0_cut_1 : decode cX0_cut 1 = .ok (.aload_n 0, 1) := by decide +kernel
theorem dX0_cut_2 : decode cX0_cut 2 = .ok (.getfield 7, 3) := by decide +kernel
theorem dX0_cut_5 : decode cX0_cut 5 = .ok (.iconst 0, 1) := by decide +kernel
theorem dX0_cut_6 : decode cX0_cut 6 = .ok (.iload_n 1, 1) := by decide +kernel
theorem dX0_cut_7 : decode cX0_cut 7 = .ok (.invokestatic 13, 3) := by decide +kernel
theorem dX0_cut_10 : decode cX0_cut 10 = .ok (.invokestatic 23, 3) := by decide +kernel
theorem dX0_cut_13 : decode cX0_cut 13 = .ok (.putfield 7, 3) := by decide +kernel
theorem dX0_cut_16 : decode cX0_cut 16 = .ok (.return_, 1) := by decide +kernel
theorem dX0_drop_0 : decode cX0_drop 0 = .ok (.aload_n 0, 1) := by decide +kernel
theorem dX0_drop_1 : decode cX0_drop 1 = .ok (.iconst (-1), 1) := by decide +kernel
theorem dX0_drop_2 : decode cX0_drop 2 = .ok (.putfield 7, 3) := by decide +kernel
theorem dX0_drop_5 : decode cX0_drop 5 = .ok (.return_, 1) := by decide +kernel
theorem dX0_spans_0 : decode cX0_spans 0 = .ok (.iload_n 1, 1) := by decide +kernel
theorem dX0_spans_1 : decode cX0_spans 1 = .ok (.ifCond .lt 33, 3) := by decide +kernel
theorem dX0_spans_4 : decode cX0_spans 4 = .ok (.iload_n 2, 1) := by decide +kernel
theorem dX0_spans_5 : decode cX0_spans 5 = .ok (.ifCond .lt 29, 3) := by decide +kernel
theorem dX0_spans_8 : decode cX0_spans 8 = .ok (.iload_n 1, 1) := by decide +kernel
theorem dX0_spans_9 : decode cX0_spans 9 = .ok (.aload_n 0, 1) := by decide +kernel
theorem dX0_spans_10 : decode cX0_spans 10 = .ok (.getfield 7, 3) := by decide +kernel
theorem dX0_spans_13 : decode cX0_spans 13 = .ok (.iload_n 2, 1) := by decide +kernel
theorem dX0_spans_14 : decode cX0_spans 14 = .ok (.isub, 1) := by decide +kernel
theorem dX0_spans_15 : decode cX0_spans 15 = .ok (.if_icmp .gt 19, 3) := by decide +kernel
theorem dX0_spans_18 : decode cX0_spans 18 = .ok (.aload_n 0, 1) := by decide +kernel
theorem dX0_spans_19 : decode cX0_spans 19 = .ok (.getfield 7, 3) := by decide +kernel
theorem dX0_spans_22 : decode cX0_spans 22 = .ok (.aload_n 0, 1) := by decide +kernel
theorem dX0_spans_23 : decode cX0_spans 23 = .ok (.getfield 19, 3) := by decide +kernel
theorem dX0_spans_26 : decode cX0_spans 26 = .ok (.arraylength, 1) := by decide +kernel
theorem dX0_spans_27 : decode cX0_spans 27 = .ok (.if_icmp .gt 7, 3) := by decide +kernel
theorem dX0_spans_30 : decode cX0_spans 30 = .ok (.iconst 1, 1) := by decide +kernel
theorem dX0_spans_31 : decode cX0_spans 31 = .ok (.goto 4, 3) := by decide +kernel
theorem dX0_spans_34 : decode cX0_spans 34 = .ok (.iconst 0, 1) := by decide +kernel
theorem dX0_spans_35 : decode cX0_spans 35 = .ok (.ireturn, 1) := by decide +kernel
theorem dX0_copyOut_0 : decode cX0_copyOut 0 = .ok (.aload_n 0, 1) := by decide +kernel
theorem dX0_copyOut_1 : decode cX0_copyOut 1 = .ok (.iload_n 1, 1) := by decide +kernel
theorem dX0_copyOut_2 : decode cX0_copyOut 2 = .ok (.iload 4, 2) := by decide +kernel
theorem dX0_copyOut_4 : decode cX0_copyOut 4 = .ok (.invokevirtual 26, 3) := by decide +kernel
theorem dX0_copyOut_7 : decode cX0_copyOut 7 = .ok (.ifCond .eq 28, 3) := by decide +kernel
theorem dX0_copyOut_10 : decode cX0_copyOut 10 = .ok (.aload_n 2, 1) := by decide +kernel
theorem dX0_copyOut_11 : decode cX0_copyOut 11 = .ok (.iload_n 3, 1) := by decide +kernel
theorem dX0_copyOut_12 : decode cX0_copyOut 12 = .ok (.iload 4, 2) := by decide +kernel
theorem dX0_copyOut_14 : decode cX0_copyOut 14 = .ok (.invokevirtual 26, 3) := by decide +kernel
theorem dX0_copyOut_17 : decode cX0_copyOut 17 = .ok (.ifCond .eq 18, 3) := by decide +kernel
theorem dX0_copyOut_20 : decode cX0_copyOut 20 = .ok (.aload_n 0, 1) := by decide +kernel
theorem dX0_copyOut_21 : decode cX0_copyOut 21 = .ok (.getfield 19, 3) := by decide +kernel
theorem dX0_copyOut_24 : decode cX0_copyOut 24 = .ok (.iload_n 1, 1) := by decide +kernel
theorem dX0_copyOut_25 : decode cX0_copyOut 25 = .ok (.aload_n 2, 1) := by decide +kernel
theorem dX0_copyOut_26 : decode cX0_copyOut 26 = .ok (.getfield 19, 3) := by decide +kernel
theorem dX0_copyOut_29 : decode cX0_copyOut 29 = .ok (.iload_n 3, 1) := by decide +kernel
theorem dX0_copyOut_30 : decode cX0_copyOut 30 = .ok (.iload 4, 2) := by decide +kernel
theorem dX0_copyOut_32 : decode cX0_copyOut 32 = .ok (.invokestatic 30, 3) := by decide +kernel
theorem dX0_copyOut_35 : decode cX0_copyOut 35 = .ok (.return_, 1) := by decide +kernel
theorem dX0_takeFrom_0 : decode cX0_takeFrom 0 = .ok (.aload_n 0, 1) := by decide +kernel
theorem dX0_takeFrom_1 : decode cX0_takeFrom 1 = .ok (.aload_n 1, 1) := by decide +kernel
theorem dX0_takeFrom_2 : decode cX0_takeFrom 2 = .ok (.getfield 7, 3) := by decide +kernel
theorem dX0_takeFrom_5 : decode cX0_takeFrom 5 = .ok (.iconst 0, 1) := by decide +kernel
theorem dX0_takeFrom_6 : decode cX0_takeFrom 6 = .ok (.invokevirtual 36, 3) := by decide +kernel
theorem dX0_takeFrom_9 : decode cX0_takeFrom 9 = .ok (.aload_n 1, 1) := by decide +kernel
theorem dX0_takeFrom_10 : decode cX0_takeFrom 10 = .ok (.iconst 0, 1) := by decide +kernel
theorem dX0_takeFrom_11 : decode cX0_takeFrom 11 = .ok (.aload_n 0, 1) := by decide +kernel
theorem dX0_takeFrom_12 : decode cX0_takeFrom 12 = .ok (.iconst 0, 1) := by decide +kernel
theorem dX0_takeFrom_13 : decode cX0_takeFrom 13 = .ok (.aload_n 0, 1) := by decide +kernel
theorem dX0_takeFrom_14 : decode cX0_takeFrom 14 = .ok (.getfield 7, 3) := by decide +kernel
theorem dX0_takeFrom_17 : decode cX0_takeFrom 17 = .ok (.invokevirtual 40, 3) := by decide +kernel
theorem dX0_takeFrom_20 : decode cX0_takeFrom 20 = .ok (.return_, 1) := by decide +kernel
theorem dX1_byLetter_0 : decode cX1_byLetter 0 = .ok (.iload_n 0, 1) := by decide +kernel
theorem dX1_byLetter_1 : decode cX1_byLetter 1 = .ok (.tableswitch 103 100 118 #[97, 103, 103, 103, 91, 99, 103, 103, 103, 101, 103, 103, 103, 103, 95, 103, 103, 103, 93], 91) := by decide +kernel
theorem dX1_byLetter_92 : decode cX1_byLetter 92 = .ok (.iconst 0, 1) := by decide +kernel
theorem dX1_byLetter_93 : decode cX1_byLetter 93 = .ok (.ireturn, 1) := by decide +kernel
theorem dX1_byLetter_94 : decode cX1_byLetter 94 = .ok (.iconst 1, 1) := by decide +kernel
theorem dX1_byLetter_95 : decode cX1_byLetter 95 = .ok (.ireturn, 1) := by decide +kernel
theorem dX1_byLetter_96 : decode cX1_byLetter 96 = .ok (.iconst 2, 1) := by decide +kernel
theorem dX1_byLetter_97 : decode cX1_byLetter 97 = .ok (.ireturn, 1) := by decide +kernel
theorem dX1_byLetter_98 : decode cX1_byLetter 98 = .ok (.iconst 3, 1) := by decide +kernel
theorem dX1_byLetter_99 : decode cX1_byLetter 99 = .ok (.ireturn, 1) := by decide +kernel
theorem dX1_byLetter_100 : decode cX1_byLetter 100 = .ok (.iconst 4, 1) := by decide +kernel
theorem dX1_byLetter_101 : decode cX1_byLetter 101 = .ok (.ireturn, 1) := by decide +kernel
theorem dX1_byLetter_102 : decode cX1_byLetter 102 = .ok (.iconst 5, 1) := by decide +kernel
theorem dX1_byLetter_103 : decode cX1_byLetter 103 = .ok (.ireturn, 1) := by decide +kernel
theorem dX1_byLetter_104 : decode cX1_byLetter 104 = .ok (.bipush (-9), 2) := by decide +kernel
theorem dX1_byLetter_106 : decode cX1_byLetter 106 = .ok (.ireturn, 1) := by decide +kernel
theorem dX1_isOf_0 : decode cX1_isOf 0 = .ok (.iload_n 1, 1) := by decide +kernel
theorem dX1_isOf_1 : decode cX1_isOf 1 = .ok (.tableswitch 61 0 2 #[27, 29, 45], 27) := by decide +kernel
theorem dX1_isOf_28 : decode cX1_isOf 28 = .ok (.iconst 1, 1) := by decide +kernel
theorem dX1_isOf_29 : decode cX1_isOf 29 = .ok (.ireturn, 1) := by decide +kernel
theorem dX1_isOf_30 : decode cX1_isOf 30 = .ok (.iload_n 0, 1) := by decide +kernel
theorem dX1_isOf_31 : decode cX1_isOf 31 = .ok (.iconst 1, 1) := by decide +kernel
theorem dX1_isOf_32 : decode cX1_isOf 32 = .ok (.if_icmp .eq 8, 3) := by decide +kernel
theorem dX1_isOf_35 : decode cX1_isOf 35 = .ok (.iload_n 0, 1) := by decide +kernel
theorem dX1_isOf_36 : decode cX1_isOf 36 = .ok (.iconst 4, 1) := by decide +kernel
theorem dX1_isOf_37 : decode cX1_isOf 37 = .ok (.if_icmp .ne 7, 3) := by decide +kernel
theorem dX1_isOf_40 : decode cX1_isOf 40 = .ok (.iconst 1, 1) := by decide +kernel
theorem dX1_isOf_41 : decode cX1_isOf 41 = .ok (.goto 4, 3) := by decide +kernel
theorem dX1_isOf_44 : decode cX1_isOf 44 = .ok (.iconst 0, 1) := by decide +kernel
theorem dX1_isOf_45 : decode cX1_isOf 45 = .ok (.ireturn, 1) := by decide +kernel
theorem dX1_isOf_46 : decode cX1_isOf 46 = .ok (.iload_n 0, 1) := by decide +kernel
theorem dX1_isOf_47 : decode cX1_isOf 47 = .ok (.iconst 2, 1) := by decide +kernel
theorem dX1_isOf_48 : decode cX1_isOf 48 = .ok (.if_icmp .eq 8, 3) := by decide +kernel
theorem dX1_isOf_51 : decode cX1_isOf 51 = .ok (.iload_n 0, 1) := by decide +kernel
theorem dX1_isOf_52 : decode cX1_isOf 52 = .ok (.iconst 5, 1) := by decide +kernel
theorem dX1_isOf_53 : decode cX1_isOf 53 = .ok (.if_icmp .ne 7, 3) := by decide +kernel
theorem dX1_isOf_56 : decode cX1_isOf 56 = .ok (.iconst 1, 1) := by decide +kernel
theorem dX1_isOf_57 : decode cX1_isOf 57 = .ok (.goto 4, 3) := by decide +kernel
theorem dX1_isOf_60 : decode cX1_isOf 60 = .ok (.iconst 0, 1) := by decide +kernel
theorem dX1_isOf_61 : decode cX1_isOf 61 = .ok (.ireturn, 1) := by decide +kernel
theorem dX1_isOf_62 : decode cX1_isOf 62 = .ok (.iload_n 0, 1) := by decide +kernel
theorem dX1_isOf_63 : decode cX1_isOf 63 = .ok (.iload_n 1, 1) := by decide +kernel
theorem dX1_isOf_64 : decode cX1_isOf 64 = .ok (.if_icmp .ne 7, 3) := by decide +kernel
theorem dX1_isOf_67 : decode cX1_isOf 67 = .ok (.iconst 1, 1) := by decide +kernel
theorem dX1_isOf_68 : decode cX1_isOf 68 = .ok (.goto 4, 3) := by decide +kernel
theorem dX1_isOf_71 : decode cX1_isOf 71 = .ok (.iconst 0, 1) := by decide +kernel
theorem dX1_isOf_72 : decode cX1_isOf 72 = .ok (.ireturn, 1) := by decide +kernel
theorem dX1_taps_0 : decode cX1_taps 0 = .ok (.iload_n 2, 1) := by decide +kernel
theorem dX1_taps_1 : decode cX1_taps 1 = .ok (.ifCond .eq 24, 3) := by decide +kernel
theorem dX1_taps_4 : decode cX1_taps 4 = .ok (.iload_n 1, 1) := by decide +kernel
theorem dX1_taps_5 : decode cX1_taps 5 = .ok (.bipush 40, 2) := by decide +kernel
theorem dX1_taps_7 : decode cX1_taps 7 = .ok (.if_icmp .lt 18, 3) := by decide +kernel
theorem dX1_taps_10 : decode cX1_taps 10 = .ok (.iload_n 1, 1) := by decide +kernel
theorem dX1_taps_11 : decode cX1_taps 11 = .ok (.bipush 49, 2) := by decide +kernel
theorem dX1_taps_13 : decode cX1_taps 13 = .ok (.if_icmp .gt 12, 3) := by decide +kernel
theorem dX1_taps_16 : decode cX1_taps 16 = .ok (.iload_n 0, 1) := by decide +kernel
theorem dX1_taps_17 : decode cX1_taps 17 = .ok (.iconst 5, 1) := by decide +kernel
theorem dX1_taps_18 : decode cX1_taps 18 = .ok (.if_icmp .eq 7, 3) := by decide +kernel
theorem dX1_taps_21 : decode cX1_taps 21 = .ok (.iconst 1, 1) := by decide +kernel
theorem dX1_taps_22 : decode cX1_taps 22 = .ok (.goto 4, 3) := by decide +kernel
theorem dX1_taps_25 : decode cX1_taps 25 = .ok (.iconst 0, 1) := by decide +kernel
theorem dX1_taps_26 : decode cX1_taps 26 = .ok (.istore_n 3, 1) := by decide +kernel
theorem dX1_taps_27 : decode cX1_taps 27 = .ok (.iload_n 0, 1) := by decide +kernel
theorem dX1_taps_28 : decode cX1_taps 28 = .ok (.iconst 3, 1) := by decide +kernel
theorem dX1_taps_29 : decode cX1_taps 29 = .ok (.if_icmp .eq 7, 3) := by decide +kernel
theorem dX1_taps_32 : decode cX1_taps 32 = .ok (.iload_n 3, 1) := by decide +kernel
theorem dX1_taps_33 : decode cX1_taps 33 = .ok (.ifCond .eq 6, 3) := by decide +kernel
theorem dX1_taps_36 : decode cX1_taps 36 = .ok (.bipush (-9), 2) := by decide +kernel
theorem dX1_taps_38 : decode cX1_taps 38 = .ok (.ireturn, 1) := by decide +kernel
theorem dX1_taps_39 : decode cX1_taps 39 = .ok (.iload_n 1, 1) := by decide +kernel
theorem dX1_taps_40 : decode cX1_taps 40 = .ok (.bipush 49, 2) := by decide +kernel
theorem dX1_taps_42 : decode cX1_taps 42 = .ok (.if_icmp .gt 7, 3) := by decide +kernel
theorem dX1_taps_45 : decode cX1_taps 45 = .ok (.iconst 2, 1) := by decide +kernel
theorem dX1_taps_46 : decode cX1_taps 46 = .ok (.goto 4, 3) := by decide +kernel
theorem dX1_taps_49 : decode cX1_taps 49 = .ok (.iconst 1, 1) := by decide +kernel
theorem dX1_taps_50 : decode cX1_taps 50 = .ok (.istore 4, 2) := by decide +kernel
theorem dX1_taps_52 : decode cX1_taps 52 = .ok (.iload_n 0, 1) := by decide +kernel
theorem dX1_taps_53 : decode cX1_taps 53 = .ok (.lookupswitch 39 #[(1, 27), (4, 32)], 27) := by decide +kernel
theorem dX1_taps_80 : decode cX1_taps 80 = .ok (.iconst 2, 1) := by decide +kernel
theorem dX1_taps_81 : decode cX1_taps 81 = .ok (.iload 4, 2) := by decide +kernel
theorem dX1_taps_83 : decode cX1_taps 83 = .ok (.imul, 1) := by decide +kernel
theorem dX1_taps_84 : decode cX1_taps 84 = .ok (.ireturn, 1) := by decide +kernel
theorem dX1_taps_85 : decode cX1_taps 85 = .ok (.iconst 2, 1) := by decide +kernel
theorem dX1_taps_86 : decode cX1_taps 86 = .ok (.iload 4, 2) := by decide +kernel
theorem dX1_taps_88 : decode cX1_taps 88 = .ok (.imul, 1) := by decide +kernel
theorem dX1_taps_89 : decode cX1_taps 89 = .ok (.iconst 1, 1) := by decide +kernel
theorem dX1_taps_90 : decode cX1_taps 90 = .ok (.iadd, 1) := by decide +kernel
theorem dX1_taps_91 : decode cX1_taps 91 = .ok (.ireturn, 1) := by decide +kernel
theorem dX1_taps_92 : decode cX1_taps 92 = .ok (.iload 4, 2) := by decide +kernel
theorem dX1_taps_94 : decode cX1_taps 94 = .ok (.ireturn, 1) := by decide +kernel
theorem dX1_fee_0 : decode cX1_fee 0 = .ok (.iload_n 0, 1) := by decide +kernel
theorem dX1_fee_1 : decode cX1_fee 1 = .ok (.tableswitch 37 2 5 #[31, 33, 37, 35], 31) := by decide +kernel
theorem dX1_fee_32 : decode cX1_fee 32 = .ok (.iconst 2, 1) := by decide +kernel
theorem dX1_fee_33 : decode cX1_fee 33 = .ok (.ireturn, 1) := by decide +kernel
theorem dX1_fee_34 : decode cX1_fee 34 = .ok (.iconst 0, 1) := by decide +kernel
theorem dX1_fee_35 : decode cX1_fee 35 = .ok (.ireturn, 1) := by decide +kernel
theorem dX1_fee_36 : decode cX1_fee 36 = .ok (.iconst 5, 1) := by decide +kernel
theorem dX1_fee_37 : decode cX1_fee 37 = .ok (.ireturn, 1) := by decide +kernel
theorem dX1_fee_38 : decode cX1_fee 38 = .ok (.iconst 1, 1) := by decide +kernel
theorem dX1_fee_39 : decode cX1_fee 39 = .ok (.ireturn, 1) := by decide +kernel
theorem dX2_init_0 : decode cX2_init 0 = .ok (.aload_n 0, 1) := by decide +kernel
theorem dX2_init_1 : decode cX2_init 1 = .ok (.invokespecial 3, 3) := by decide +kernel
theorem dX2_init_4 : decode cX2_init 4 = .ok (.return_, 1) := by decide +kernel
theorem dX2_read_0 : decode cX2_read 0 = .ok (.aload_n 0, 1) := by decide +kernel
theorem dX2_read_1 : decode cX2_read 1 = .ok (.aload_n 1, 1) := by decide +kernel
theorem dX2_read_2 : decode cX2_read 2 = .ok (.putfield 9, 3) := by decide +kernel
theorem dX2_read_5 : decode cX2_read 5 = .ok (.aload_n 0, 1) := by decide +kernel
theorem dX2_read_6 : decode cX2_read 6 = .ok (.iconst 0, 1) := by decide +kernel
theorem dX2_read_7 : decode cX2_read 7 = .ok (.putfield 15, 3) := by decide +kernel
theorem dX2_read_10 : decode cX2_read 10 = .ok (.aload_n 0, 1) := by decide +kernel
theorem dX2_read_11 : decode cX2_read 11 = .ok (.iconst 1, 1) := by decide +kernel
theorem dX2_read_12 : decode cX2_read 12 = .ok (.putfield 19, 3) := by decide +kernel
theorem dX2_read_15 : decode cX2_read 15 = .ok (.aload_n 0, 1) := by decide +kernel
theorem dX2_read_16 : decode cX2_read 16 = .ok (.invokevirtual 23, 3) := by decide +kernel
theorem dX2_read_19 : decode cX2_read 19 = .ok (.aload_n 0, 1) := by decide +kernel
theorem dX2_read_20 : decode cX2_read 20 = .ok (.bipush 115, 2) := by decide +kernel
theorem dX2_read_22 : decode cX2_read 22 = .ok (.invokevirtual 26, 3) := by decide +kernel
theorem dX2_read_25 : decode cX2_read 25 = .ok (.aload_n 0, 1) := by decide +kernel
theorem dX2_read_26 : decode cX2_read 26 = .ok (.iconst 1, 1) := by decide +kernel
theorem dX2_read_27 : decode cX2_read 27 = .ok (.invokevirtual 30, 3) := by decide +kernel
theorem dX2_read_30 : decode cX2_read 30 = .ok (.istore_n 3, 1) := by decide +kernel
theorem dX2_read_31 : decode cX2_read 31 = .ok (.aload_n 2, 1) := by decide +kernel
theorem dX2_read_32 : decode cX2_read 32 = .ok (.iload_n 3, 1) := by decide +kernel
theorem dX2_read_33 : decode cX2_read 33 = .ok (.aload_n 0, 1) := by decide +kernel
theorem dX2_read_34 : decode cX2_read 34 = .ok (.invokevirtual 34, 3) := by decide +kernel
theorem dX2_read_37 : decode cX2_read 37 = .ok (.invokevirtual 38, 3) := by decide +kernel
theorem dX2_read_40 : decode cX2_read 40 = .ok (.iconst 0, 1) := by decide +kernel
theorem dX2_read_41 : decode cX2_read 41 = .ok (.istore 4, 2) := by decide +kernel
theorem dX2_read_43 : decode cX2_read 43 = .ok (.iload 4, 2) := by decide +kernel
theorem dX2_read_45 : decode cX2_read 45 = .ok (.bipush 6, 2) := by decide +kernel
theorem dX2_read_47 : decode cX2_read 47 = .ok (.if_icmp .gt 77, 3) := by decide +kernel
theorem dX2_read_50 : decode cX2_read 50 = .ok (.aload_n 0, 1) := by decide +kernel
theorem dX2_read_51 : decode cX2_read 51 = .ok (.getfield 19, 3) := by decide +kernel
theorem dX2_read_54 : decode cX2_read 54 = .ok (.ifCond .eq 70, 3) := by decide +kernel
theorem dX2_read_57 : decode cX2_read 57 = .ok (.aload_n 0, 1) := by decide +kernel
theorem dX2_read_58 : decode cX2_read 58 = .ok (.invokevirtual 23, 3) := by decide +kernel
theorem dX2_read_61 : decode cX2_read 61 = .ok (.aload_n 0, 1) := by decide +kernel
theorem dX2_read_62 : decode cX2_read 62 = .ok (.getfield 15, 3) := by decide +kernel
theorem dX2_read_65 : decode cX2_read 65 = .ok (.aload_n 1, 1) := by decide +kernel
theorem dX2_read_66 : decode cX2_read 66 = .ok (.getfield 44, 3) := by decide +kernel
theorem dX2_read_69 : decode cX2_read 69 = .ok (.if_icmp .lt 7, 3) := by decide +kernel
theorem dX2_read_72 : decode cX2_read 72 = .ok (.iconst 1, 1) := by decide +kernel
theorem dX2_read_73 : decode cX2_read 73 = .ok (.goto 4, 3) := by decide +kernel
theorem dX2_read_76 : decode cX2_read 76 = .ok (.iconst 0, 1) := by decide +kernel
theorem dX2_read_77 : decode cX2_read 77 = .ok (.istore 5, 2) := by decide +kernel
theorem dX2_read_79 : decode cX2_read 79 = .ok (.iload 5, 2) := by decide +kernel
theorem dX2_read_81 : decode cX2_read 81 = .ok (.ifCond .eq 11, 3) := by decide +kernel
theorem dX2_read_84 : decode cX2_read 84 = .ok (.iload 4, 2) := by decide +kernel
theorem dX2_read_86 : decode cX2_read 86 = .ok (.ifCond .le 6, 3) := by decide +kernel
theorem dX2_read_89 : decode cX2_read 89 = .ok (.bipush (-9), 2) := by decide +kernel
theorem dX2_read_91 : decode cX2_read 91 = .ok (.ireturn, 1) := by decide +kernel
theorem dX2_read_92 : decode cX2_read 92 = .ok (.aload_n 0, 1) := by decide +kernel
theorem dX2_read_93 : decode cX2_read 93 = .ok (.iload 5, 2) := by decide +kernel
theorem dX2_read_95 : decode cX2_read 95 = .ok (.ifCond .ne 14, 3) := by decide +kernel
theorem dX2_read_98 : decode cX2_read 98 = .ok (.iload 4, 2) := by decide +kernel
theorem dX2_read_100 : decode cX2_read 100 = .ok (.bipush 6, 2) := by decide +kernel
theorem dX2_read_102 : decode cX2_read 102 = .ok (.if_icmp .ge 7, 3) := by decide +kernel
theorem dX2_read_105 : decode cX2_read 105 = .ok (.iconst 1, 1) := by decide +kernel
theorem dX2_read_106 : decode cX2_read 106 = .ok (.goto 4, 3) := by decide +kernel
theorem dX2_read_109 : decode cX2_read 109 = .ok (.iconst 0, 1) := by decide +kernel
theorem dX2_read_110 : decode cX2_read 110 = .ok (.putfield 19, 3) := by decide +kernel
theorem dX2_read_113 : decode cX2_read 113 = .ok (.aload_n 0, 1) := by decide +kernel
theorem dX2_read_114 : decode cX2_read 114 = .ok (.aload_n 2, 1) := by decide +kernel
theorem dX2_read_115 : decode cX2_read 115 = .ok (.invokevirtual 49, 3) := by decide +kernel
theorem dX2_read_118 : decode cX2_read 118 = .ok (.iinc 4 1, 3) := by decide +kernel
theorem dX2_read_121 : decode cX2_read 121 = .ok (.goto (-78), 3) := by decide +kernel
theorem dX2_read_124 : decode cX2_read 124 = .ok (.aload_n 0, 1) := by decide +kernel
theorem dX2_read_125 : decode cX2_read 125 = .ok (.getfield 15, 3) := by decide +kernel
theorem dX2_read_128 : decode cX2_read 128 = .ok (.ireturn, 1) := by decide +kernel
theorem dX2_readHouse_0 : decode cX2_readHouse 0 = .ok (.aload_n 0, 1) := by decide +kernel
theorem dX2_readHouse_1 : decode cX2_readHouse 1 = .ok (.invokevirtual 53, 3) := by decide +kernel
theorem dX2_readHouse_4 : decode cX2_readHouse 4 = .ok (.invokestatic 56, 3) := by decide +kernel
theorem dX2_readHouse_7 : decode cX2_readHouse 7 = .ok (.istore_n 2, 1) := by decide +kernel
theorem dX2_readHouse_8 : decode cX2_readHouse 8 = .ok (.aload_n 0, 1) := by decide +kernel
theorem dX2_readHouse_9 : decode cX2_readHouse 9 = .ok (.aload_n 0, 1) := by decide +kernel
theorem dX2_readHouse_10 : decode cX2_readHouse 10 = .ok (.getfield 19, 3) := by decide +kernel
theorem dX2_readHouse_13 : decode cX2_readHouse 13 = .ok (.ifCond .eq 13, 3) := by decide +kernel
theorem dX2_readHouse_16 : decode cX2_readHouse 16 = .ok (.iload_n 2, 1) := by decide +kernel
theorem dX2_readHouse_17 : decode cX2_readHouse 17 = .ok (.bipush (-9), 2) := by decide +kernel
theorem dX2_readHouse_19 : decode cX2_readHouse 19 = .ok (.if_icmp .eq 7, 3) := by decide +kernel
theorem dX2_readHouse_22 : decode cX2_readHouse 22 = .ok (.iconst 1, 1) := by decide +kernel
theorem dX2_readHouse_23 : decode cX2_readHouse 23 = .ok (.goto 4, 3) := by decide +kernel
theorem dX2_readHouse_26 : decode cX2_readHouse 26 = .ok (.iconst 0, 1) := by decide +kernel
theorem dX2_readHouse_27 : decode cX2_readHouse 27 = .ok (.putfield 19, 3) := by decide +kernel
theorem dX2_readHouse_30 : decode cX2_readHouse 30 = .ok (.aload_n 0, 1) := by decide +kernel
theorem dX2_readHouse_31 : decode cX2_readHouse 31 = .ok (.dup, 1) := by decide +kernel
theorem dX2_readHouse_32 : decode cX2_readHouse 32 = .ok (.getfield 15, 3) := by decide +kernel
theorem dX2_readHouse_35 : decode cX2_readHouse 35 = .ok (.aload_n 0, 1) := by decide +kernel
theorem dX2_readHouse_36 : decode cX2_readHouse 36 = .ok (.getfield 19, 3) := by decide +kernel
theorem dX2_readHouse_39 : decode cX2_readHouse 39 = .ok (.ifCond .eq 7, 3) := by decide +kernel
theorem dX2_readHouse_42 : decode cX2_readHouse 42 = .ok (.iconst 1, 1) := by decide +kernel
theorem dX2_readHouse_43 : decode cX2_readHouse 43 = .ok (.goto 4, 3) := by decide +kernel
theorem dX2_readHouse_46 : decode cX2_readHouse 46 = .ok (.iconst 0, 1) := by decide +kernel
theorem dX2_readHouse_47 : decode cX2_readHouse 47 = .ok (.iadd, 1) := by decide +kernel
theorem dX2_readHouse_48 : decode cX2_readHouse 48 = .ok (.putfield 15, 3) := by decide +kernel
theorem dX2_readHouse_51 : decode cX2_readHouse 51 = .ok (.aload_n 0, 1) := by decide +kernel
theorem dX2_readHouse_52 : decode cX2_readHouse 52 = .ok (.invokevirtual 34, 3) := by decide +kernel
theorem dX2_readHouse_55 : decode cX2_readHouse 55 = .ok (.istore_n 3, 1) := by decide +kernel
theorem dX2_readHouse_56 : decode cX2_readHouse 56 = .ok (.aload_n 0, 1) := by decide +kernel
theorem dX2_readHouse_57 : decode cX2_readHouse 57 = .ok (.invokevirtual 34, 3) := by decide +kernel
theorem dX2_readHouse_60 : decode cX2_readHouse 60 = .ok (.istore 4, 2) := by decide +kernel
theorem dX2_readHouse_62 : decode cX2_readHouse 62 = .ok (.aload_n 0, 1) := by decide +kernel
theorem dX2_readHouse_63 : decode cX2_readHouse 63 = .ok (.getfield 19, 3) := by decide +kernel
theorem dX2_readHouse_66 : decode cX2_readHouse 66 = .ok (.ifCond .eq 11, 3) := by decide +kernel
theorem dX2_readHouse_69 : decode cX2_readHouse 69 = .ok (.aload_n 1, 1) := by decide +kernel
theorem dX2_readHouse_70 : decode cX2_readHouse 70 = .ok (.iload_n 2, 1) := by decide +kernel
theorem dX2_readHouse_71 : decode cX2_readHouse 71 = .ok (.iload_n 3, 1) := by decide +kernel
theorem dX2_readHouse_72 : decode cX2_readHouse 72 = .ok (.iload 4, 2) := by decide +kernel
theorem dX2_readHouse_74 : decode cX2_readHouse 74 = .ok (.invokevirtual 61, 3) := by decide +kernel
theorem dX2_readHouse_77 : decode cX2_readHouse 77 = .ok (.return_, 1) := by decide +kernel
theorem dX2_sign_0 : decode cX2_sign 0 = .ok (.aload_n 0, 1) := by decide +kernel
theorem dX2_sign_1 : decode cX2_sign 1 = .ok (.getfield 9, 3) := by decide +kernel
theorem dX2_sign_4 : decode cX2_sign 4 = .ok (.ifnonnull 7, 3) := by decide +kernel
theorem dX2_sign_7 : decode cX2_sign 7 = .ok (.iconst 0, 1) := by decide +kernel
theorem dX2_sign_8 : decode cX2_sign 8 = .ok (.goto 14, 3) := by decide +kernel
theorem dX2_sign_11 : decode cX2_sign 11 = .ok (.aload_n 0, 1) := by decide +kernel
theorem dX2_sign_12 : decode cX2_sign 12 = .ok (.getfield 9, 3) := by decide +kernel
theorem dX2_sign_15 : decode cX2_sign 15 = .ok (.aload_n 0, 1) := by decide +kernel
theorem dX2_sign_16 : decode cX2_sign 16 = .ok (.getfield 15, 3) := by decide +kernel
theorem dX2_sign_19 : decode cX2_sign 19 = .ok (.invokevirtual 65, 3) := by decide +kernel
theorem dX2_sign_22 : decode cX2_sign 22 = .ok (.ireturn, 1) := by decide +kernel
theorem dX2_skipBlanks_0 : decode cX2_skipBlanks 0 = .ok (.iconst 0, 1) := by decide +kernel
theorem dX2_skipBlanks_1 : decode cX2_skipBlanks 1 = .ok (.istore_n 1, 1) := by decide +kernel
theorem dX2_skipBlanks_2 : decode cX2_skipBlanks 2 = .ok (.iload_n 1, 1) := by decide +kernel
theorem dX2_skipBlanks_3 : decode cX2_skipBlanks 3 = .ok (.bipush 60, 2) := by decide +kernel
theorem dX2_skipBlanks_5 : decode cX2_skipBlanks 5 = .ok (.if_icmp .ge 28, 3) := by decide +kernel
theorem dX2_skipBlanks_8 : decode cX2_skipBlanks 8 = .ok (.aload_n 0, 1) := by decide +kernel
theorem dX2_skipBlanks_9 : decode cX2_skipBlanks 9 = .ok (.invokevirtual 53, 3) := by decide +kernel
theorem dX2_skipBlanks_12 : decode cX2_skipBlanks 12 = .ok (.bipush 32, 2) := by decide +kernel
theorem dX2_skipBlanks_14 : decode cX2_skipBlanks 14 = .ok (.if_icmp .ne 19, 3) := by decide +kernel
theorem dX2_skipBlanks_17 : decode cX2_skipBlanks 17 = .ok (.aload_n 0, 1) := by decide +kernel
theorem dX2_skipBlanks_18 : decode cX2_skipBlanks 18 = .ok (.dup, 1) := by decide +kernel
theorem dX2_skipBlanks_19 : decode cX2_skipBlanks 19 = .ok (.getfield 15, 3) := by decide +kernel
theorem dX2_skipBlanks_22 : decode cX2_skipBlanks 22 = .ok (.iconst 1, 1) := by decide +kernel
theorem dX2_skipBlanks_23 : decode cX2_skipBlanks 23 = .ok (.iadd, 1) := by decide +kernel
theorem dX2_skipBlanks_24 : decode cX2_skipBlanks 24 = .ok (.putfield 15, 3) := by decide +kernel
theorem dX2_skipBlanks_27 : decode cX2_skipBlanks 27 = .ok (.iinc 1 1, 3) := by decide +kernel
theorem dX2_skipBlanks_30 : decode cX2_skipBlanks 30 = .ok (.goto (-28), 3) := by decide +kernel
theorem dX2_skipBlanks_33 : decode cX2_skipBlanks 33 = .ok (.return_, 1) := by decide +kernel
theorem dX2_letter_0 : decode cX2_letter 0 = .ok (.aload_n 0, 1) := by decide +kernel
theorem dX2_letter_1 : decode cX2_letter 1 = .ok (.aload_n 0, 1) := by decide +kernel
theorem dX2_letter_2 : decode cX2_letter 2 = .ok (.getfield 19, 3) := by decide +kernel
theorem dX2_letter_5 : decode cX2_letter 5 = .ok (.ifCond .eq 15, 3) := by decide +kernel
theorem dX2_letter_8 : decode cX2_letter 8 = .ok (.aload_n 0, 1) := by decide +kernel
theorem dX2_letter_9 : decode cX2_letter 9 = .ok (.invokevirtual 53, 3) := by decide +kernel
theorem dX2_letter_12 : decode cX2_letter 12 = .ok (.iload_n 1, 1) := by decide +kernel
theorem dX2_letter_13 : decode cX2_letter 13 = .ok (.if_icmp .ne 7, 3) := by decide +kernel
theorem dX2_letter_16 : decode cX2_letter 16 = .ok (.iconst 1, 1) := by decide +kernel
theorem dX2_letter_17 : decode cX2_letter 17 = .ok (.goto 4, 3) := by decide +kernel
theorem dX2_letter_20 : decode cX2_letter 20 = .ok (.iconst 0, 1) := by decide +kernel
theorem dX2_letter_21 : decode cX2_letter 21 = .ok (.putfield 19, 3) := by decide +kernel
theorem dX2_letter_24 : decode cX2_letter 24 = .ok (.aload_n 0, 1) := by decide +kernel
theorem dX2_letter_25 : decode cX2_letter 25 = .ok (.dup, 1) := by decide +kernel
theorem dX2_letter_26 : decode cX2_letter 26 = .ok (.getfield 15, 3) := by decide +kernel
theorem dX2_letter_29 : decode cX2_letter 29 = .ok (.aload_n 0, 1) := by decide +kernel
theorem dX2_letter_30 : decode cX2_letter 30 = .ok (.getfield 19, 3) := by decide +kernel
theorem dX2_letter_33 : decode cX2_letter 33 = .ok (.ifCond .eq 7, 3) := by decide +kernel
theorem dX2_letter_36 : decode cX2_letter 36 = .ok (.iconst 1, 1) := by decide +kernel
theorem dX2_letter_37 : decode cX2_letter 37 = .ok (.goto 4, 3) := by decide +kernel
theorem dX2_letter_40 : decode cX2_letter 40 = .ok (.iconst 0, 1) := by decide +kernel
theorem dX2_letter_41 : decode cX2_letter 41 = .ok (.iadd, 1) := by decide +kernel
theorem dX2_letter_42 : decode cX2_letter 42 = .ok (.putfield 15, 3) := by decide +kernel
theorem dX2_letter_45 : decode cX2_letter 45 = .ok (.return_, 1) := by decide +kernel
theorem dX2_figure_0 : decode cX2_figure 0 = .ok (.aload_n 0, 1) := by decide +kernel
theorem dX2_figure_1 : decode cX2_figure 1 = .ok (.invokevirtual 53, 3) := by decide +kernel
theorem dX2_figure_4 : decode cX2_figure 4 = .ok (.bipush 48, 2) := by decide +kernel
theorem dX2_figure_6 : decode cX2_figure 6 = .ok (.isub, 1) := by decide +kernel
theorem dX2_figure_7 : decode cX2_figure 7 = .ok (.istore_n 2, 1) := by decide +kernel
theorem dX2_figure_8 : decode cX2_figure 8 = .ok (.aload_n 0, 1) := by decide +kernel
theorem dX2_figure_9 : decode cX2_figure 9 = .ok (.aload_n 0, 1) := by decide +kernel
theorem dX2_figure_10 : decode cX2_figure 10 = .ok (.getfield 19, 3) := by decide +kernel
theorem dX2_figure_13 : decode cX2_figure 13 = .ok (.ifCond .eq 16, 3) := by decide +kernel
theorem dX2_figure_16 : decode cX2_figure 16 = .ok (.iload_n 2, 1) := by decide +kernel
theorem dX2_figure_17 : decode cX2_figure 17 = .ok (.ifCond .lt 12, 3) := by decide +kernel
theorem dX2_figure_20 : decode cX2_figure 20 = .ok (.iload_n 2, 1) := by decide +kernel
theorem dX2_figure_21 : decode cX2_figure 21 = .ok (.iload_n 1, 1) := by decide +kernel
theorem dX2_figure_22 : decode cX2_figure 22 = .ok (.if_icmp .gt 7, 3) := by decide +kernel
theorem dX2_figure_25 : decode cX2_figure 25 = .ok (.iconst 1, 1) := by decide +kernel
theorem dX2_figure_26 : decode cX2_figure 26 = .ok (.goto 4, 3) := by decide +kernel
theorem dX2_figure_29 : decode cX2_figure 29 = .ok (.iconst 0, 1) := by decide +kernel
theorem dX2_figure_30 : decode cX2_figure 30 = .ok (.putfield 19, 3) := by decide +kernel
theorem dX2_figure_33 : decode cX2_figure 33 = .ok (.aload_n 0, 1) := by decide +kernel
theorem dX2_figure_34 : decode cX2_figure 34 = .ok (.dup, 1) := by decide +kernel
theorem dX2_figure_35 : decode cX2_figure 35 = .ok (.getfield 15, 3) := by decide +kernel
theorem dX2_figure_38 : decode cX2_figure 38 = .ok (.aload_n 0, 1) := by decide +kernel
theorem dX2_figure_39 : decode cX2_figure 39 = .ok (.getfield 19, 3) := by decide +kernel
theorem dX2_figure_42 : decode cX2_figure 42 = .ok (.ifCond .eq 7, 3) := by decide +kernel
theorem dX2_figure_45 : decode cX2_figure 45 = .ok (.iconst 1, 1) := by decide +kernel
theorem dX2_figure_46 : decode cX2_figure 46 = .ok (.goto 4, 3) := by decide +kernel
theorem dX2_figure_49 : decode cX2_figure 49 = .ok (.iconst 0, 1) := by decide +kernel
theorem dX2_figure_50 : decode cX2_figure 50 = .ok (.iadd, 1) := by decide +kernel
theorem dX2_figure_51 : decode cX2_figure 51 = .ok (.putfield 15, 3) := by decide +kernel
theorem dX2_figure_54 : decode cX2_figure 54 = .ok (.aload_n 0, 1) := by decide +kernel
theorem dX2_figure_55 : decode cX2_figure 55 = .ok (.getfield 19, 3) := by decide +kernel
theorem dX2_figure_58 : decode cX2_figure 58 = .ok (.ifCond .eq 7, 3) := by decide +kernel
theorem dX2_figure_61 : decode cX2_figure 61 = .ok (.iload_n 2, 1) := by decide +kernel
theorem dX2_figure_62 : decode cX2_figure 62 = .ok (.goto 4, 3) := by decide +kernel
theorem dX2_figure_65 : decode cX2_figure 65 = .ok (.iconst 0, 1) := by decide +kernel
theorem dX2_figure_66 : decode cX2_figure 66 = .ok (.ireturn, 1) := by decide +kernel
theorem dX2_twoFigures_0 : decode cX2_twoFigures 0 = .ok (.aload_n 0, 1) := by decide +kernel
theorem dX2_twoFigures_1 : decode cX2_twoFigures 1 = .ok (.bipush 9, 2) := by decide +kernel
theorem dX2_twoFigures_3 : decode cX2_twoFigures 3 = .ok (.invokevirtual 30, 3) := by decide +kernel
theorem dX2_twoFigures_6 : decode cX2_twoFigures 6 = .ok (.istore_n 1, 1) := by decide +kernel
theorem dX2_twoFigures_7 : decode cX2_twoFigures 7 = .ok (.bipush 10, 2) := by decide +kernel
theorem dX2_twoFigures_9 : decode cX2_twoFigures 9 = .ok (.iload_n 1, 1) := by decide +kernel
theorem dX2_twoFigures_10 : decode cX2_twoFigures 10 = .ok (.imul, 1) := by decide +kernel
theorem dX2_twoFigures_11 : decode cX2_twoFigures 11 = .ok (.aload_n 0, 1) := by decide +kernel
theorem dX2_twoFigures_12 : decode cX2_twoFigures 12 = .ok (.bipush 9, 2) := by decide +kernel
theorem dX2_twoFigures_14 : decode cX2_twoFigures 14 = .ok (.invokevirtual 30, 3) := by decide +kernel
theorem dX2_twoFigures_17 : decode cX2_twoFigures 17 = .ok (.iadd, 1) := by decide +kernel
theorem dX2_twoFigures_18 : decode cX2_twoFigures 18 = .ok (.ireturn, 1) := by decide +kernel
theorem dX3_init_0 : decode cX3_init 0 = .ok (.aload_n 0, 1) := by decide +kernel
theorem dX3_init_1 : decode cX3_init 1 = .ok (.invokespecial 3, 3) := by decide +kernel
theorem dX3_init_4 : decode cX3_init 4 = .ok (.aload_n 0, 1) := by decide +kernel
theorem dX3_init_5 : decode cX3_init 5 = .ok (.new 9, 3) := by decide +kernel
theorem dX3_init_8 : decode cX3_init 8 = .ok (.dup, 1) := by decide +kernel
theorem dX3_init_9 : decode cX3_init 9 = .ok (.sipush 384, 3) := by decide +kernel
theorem dX3_init_12 : decode cX3_init 12 = .ok (.invokespecial 11, 3) := by decide +kernel
theorem dX3_init_15 : decode cX3_init 15 = .ok (.putfield 14, 3) := by decide +kernel
theorem dX3_init_18 : decode cX3_init 18 = .ok (.aload_n 0, 1) := by decide +kernel
theorem dX3_init_19 : decode cX3_init 19 = .ok (.new 9, 3) := by decide +kernel
theorem dX3_init_22 : decode cX3_init 22 = .ok (.dup, 1) := by decide +kernel
theorem dX3_init_23 : decode cX3_init 23 = .ok (.bipush 6, 2) := by decide +kernel
theorem dX3_init_25 : decode cX3_init 25 = .ok (.invokespecial 11, 3) := by decide +kernel
theorem dX3_init_28 : decode cX3_init 28 = .ok (.putfield 20, 3) := by decide +kernel
theorem dX3_init_31 : decode cX3_init 31 = .ok (.aload_n 0, 1) := by decide +kernel
theorem dX3_init_32 : decode cX3_init 32 = .ok (.new 9, 3) := by decide +kernel
theorem dX3_init_35 : decode cX3_init 35 = .ok (.dup, 1) := by decide +kernel
theorem dX3_init_36 : decode cX3_init 36 = .ok (.bipush 6, 2) := by decide +kernel
theorem dX3_init_38 : decode cX3_init 38 = .ok (.invokespecial 11, 3) := by decide +kernel
theorem dX3_init_41 : decode cX3_init 41 = .ok (.putfield 23, 3) := by decide +kernel
theorem dX3_init_44 : decode cX3_init 44 = .ok (.aload_n 0, 1) := by decide +kernel
theorem dX3_init_45 : decode cX3_init 45 = .ok (.new 9, 3) := by decide +kernel
theorem dX3_init_48 : decode cX3_init 48 = .ok (.dup, 1) := by decide +kernel
theorem dX3_init_49 : decode cX3_init 49 = .ok (.bipush 6, 2) := by decide +kernel
theorem dX3_init_51 : decode cX3_init 51 = .ok (.invokespecial 11, 3) := by decide +kernel
theorem dX3_init_54 : decode cX3_init 54 = .ok (.putfield 26, 3) := by decide +kernel
theorem dX3_init_57 : decode cX3_init 57 = .ok (.aload_n 0, 1) := by decide +kernel
theorem dX3_init_58 : decode cX3_init 58 = .ok (.new 9, 3) := by decide +kernel
theorem dX3_init_61 : decode cX3_init 61 = .ok (.dup, 1) := by decide +kernel
theorem dX3_init_62 : decode cX3_init 62 = .ok (.bipush 6, 2) := by decide +kernel
theorem dX3_init_64 : decode cX3_init 64 = .ok (.invokespecial 11, 3) := by decide +kernel
theorem dX3_init_67 : decode cX3_init 67 = .ok (.putfield 29, 3) := by decide +kernel
theorem dX3_init_70 : decode cX3_init 70 = .ok (.return_, 1) := by decide +kernel
theorem dX3_start_0 : decode cX3_start 0 = .ok (.aload_n 0, 1) := by decide +kernel
theorem dX3_start_1 : decode cX3_start 1 = .ok (.getfield 23, 3) := by decide +kernel
theorem dX3_start_4 : decode cX3_start 4 = .ok (.aload_n 1, 1) := by decide +kernel
theorem dX3_start_5 : decode cX3_start 5 = .ok (.getfield 32, 3) := by decide +kernel
theorem dX3_start_8 : decode cX3_start 8 = .ok (.iconst 0, 1) := by decide +kernel
theorem dX3_start_9 : decode cX3_start 9 = .ok (.invokevirtual 38, 3) := by decide +kernel
theorem dX3_start_12 : decode cX3_start 12 = .ok (.aload_n 0, 1) := by decide +kernel
theorem dX3_start_13 : decode cX3_start 13 = .ok (.getfield 26, 3) := by decide +kernel
theorem dX3_start_16 : decode cX3_start 16 = .ok (.aload_n 1, 1) := by decide +kernel
theorem dX3_start_17 : decode cX3_start 17 = .ok (.getfield 32, 3) := by decide +kernel
theorem dX3_start_20 : decode cX3_start 20 = .ok (.iconst 0, 1) := by decide +kernel
theorem dX3_start_21 : decode cX3_start 21 = .ok (.invokevirtual 38, 3) := by decide +kernel
theorem dX3_start_24 : decode cX3_start 24 = .ok (.iconst 0, 1) := by decide +kernel
theorem dX3_start_25 : decode cX3_start 25 = .ok (.istore_n 2, 1) := by decide +kernel
theorem dX3_start_26 : decode cX3_start 26 = .ok (.iload_n 2, 1) := by decide +kernel
theorem dX3_start_27 : decode cX3_start 27 = .ok (.aload_n 1, 1) := by decide +kernel
theorem dX3_start_28 : decode cX3_start 28 = .ok (.getfield 32, 3) := by decide +kernel
theorem dX3_start_31 : decode cX3_start 31 = .ok (.if_icmp .ge 43, 3) := by decide +kernel
theorem dX3_start_34 : decode cX3_start 34 = .ok (.aload_n 0, 1) := by decide +kernel
theorem dX3_start_35 : decode cX3_start 35 = .ok (.getfield 23, 3) := by decide +kernel
theorem dX3_start_38 : decode cX3_start 38 = .ok (.iload_n 2, 1) := by decide +kernel
theorem dX3_start_39 : decode cX3_start 39 = .ok (.aload_n 1, 1) := by decide +kernel
theorem dX3_start_40 : decode cX3_start 40 = .ok (.iload_n 2, 1) := by decide +kernel
theorem dX3_start_41 : decode cX3_start 41 = .ok (.invokevirtual 42, 3) := by decide +kernel
theorem dX3_start_44 : decode cX3_start 44 = .ok (.invokevirtual 45, 3) := by decide +kernel
theorem dX3_start_47 : decode cX3_start 47 = .ok (.aload_n 0, 1) := by decide +kernel
theorem dX3_start_48 : decode cX3_start 48 = .ok (.getfield 26, 3) := by decide +kernel
theorem dX3_start_51 : decode cX3_start 51 = .ok (.iload_n 2, 1) := by decide +kernel
theorem dX3_start_52 : decode cX3_start 52 = .ok (.aload_n 1, 1) := by decide +kernel
theorem dX3_start_53 : decode cX3_start 53 = .ok (.getfield 48, 3) := by decide +kernel
theorem dX3_start_56 : decode cX3_start 56 = .ok (.iload_n 2, 1) := by decide +kernel
theorem dX3_start_57 : decode cX3_start 57 = .ok (.invokevirtual 51, 3) := by decide +kernel
theorem dX3_start_60 : decode cX3_start 60 = .ok (.aload_n 1, 1) := by decide +kernel
theorem dX3_start_61 : decode cX3_start 61 = .ok (.getfield 54, 3) := by decide +kernel
theorem dX3_start_64 : decode cX3_start 64 = .ok (.isub, 1) := by decide +kernel
theorem dX3_start_65 : decode cX3_start 65 = .ok (.invokevirtual 45, 3) := by decide +kernel
theorem dX3_start_68 : decode cX3_start 68 = .ok (.iinc 2 1, 3) := by decide +kernel
theorem dX3_start_71 : decode cX3_start 71 = .ok (.goto (-45), 3) := by decide +kernel
theorem dX3_start_74 : decode cX3_start 74 = .ok (.return_, 1) := by decide +kernel
theorem dX3_walkOver_0 : decode cX3_walkOver 0 = .ok (.bipush 6, 2) := by decide +kernel
theorem dX3_walkOver_2 : decode cX3_walkOver 2 = .ok (.istore_n 2, 1) := by decide +kernel
theorem dX3_walkOver_3 : decode cX3_walkOver 3 = .ok (.iconst 0, 1) := by decide +kernel
theorem dX3_walkOver_4 : decode cX3_walkOver 4 = .ok (.istore_n 3, 1) := by decide +kernel
theorem dX3_walkOver_5 : decode cX3_walkOver 5 = .ok (.iconst 0, 1) := by decide +kernel
theorem dX3_walkOver_6 : decode cX3_walkOver 6 = .ok (.istore 4, 2) := by decide +kernel
theorem dX3_walkOver_8 : decode cX3_walkOver 8 = .ok (.iload 4, 2) := by decide +kernel
theorem dX3_walkOver_10 : decode cX3_walkOver 10 = .ok (.bipush 6, 2) := by decide +kernel
theorem dX3_walkOver_12 : decode cX3_walkOver 12 = .ok (.if_icmp .ge 28, 3) := by decide +kernel
theorem dX3_walkOver_15 : decode cX3_walkOver 15 = .ok (.iload_n 0, 1) := by decide +kernel
theorem dX3_walkOver_16 : decode cX3_walkOver 16 = .ok (.iload 4, 2) := by decide +kernel
theorem dX3_walkOver_18 : decode cX3_walkOver 18 = .ok (.invokestatic 57, 3) := by decide +kernel
theorem dX3_walkOver_21 : decode cX3_walkOver 21 = .ok (.ifCond .eq 13, 3) := by decide +kernel
theorem dX3_walkOver_24 : decode cX3_walkOver 24 = .ok (.iload_n 2, 1) := by decide +kernel
theorem dX3_walkOver_25 : decode cX3_walkOver 25 = .ok (.iload 4, 2) := by decide +kernel
theorem dX3_walkOver_27 : decode cX3_walkOver 27 = .ok (.invokestatic 61, 3) := by decide +kernel
theorem dX3_walkOver_30 : decode cX3_walkOver 30 = .ok (.istore_n 2, 1) := by decide +kernel
theorem dX3_walkOver_31 : decode cX3_walkOver 31 = .ok (.iload 4, 2) := by decide +kernel
theorem dX3_walkOver_33 : decode cX3_walkOver 33 = .ok (.istore_n 3, 1) := by decide +kernel
theorem dX3_walkOver_34 : decode cX3_walkOver 34 = .ok (.iinc 4 1, 3) := by decide +kernel
theorem dX3_walkOver_37 : decode cX3_walkOver 37 = .ok (.goto (-29), 3) := by decide +kernel
theorem dX3_walkOver_40 : decode cX3_walkOver 40 = .ok (.iload_n 1, 1) := by decide +kernel
theorem dX3_walkOver_41 : decode cX3_walkOver 41 = .ok (.iload_n 2, 1) := by decide +kernel
theorem dX3_walkOver_42 : decode cX3_walkOver 42 = .ok (.isub, 1) := by decide +kernel
theorem dX3_walkOver_43 : decode cX3_walkOver 43 = .ok (.invokestatic 67, 3) := by decide +kernel
theorem dX3_walkOver_46 : decode cX3_walkOver 46 = .ok (.iload_n 1, 1) := by decide +kernel
theorem dX3_walkOver_47 : decode cX3_walkOver 47 = .ok (.iload_n 3, 1) := by decide +kernel
theorem dX3_walkOver_48 : decode cX3_walkOver 48 = .ok (.isub, 1) := by decide +kernel
theorem dX3_walkOver_49 : decode cX3_walkOver 49 = .ok (.invokestatic 67, 3) := by decide +kernel
theorem dX3_walkOver_52 : decode cX3_walkOver 52 = .ok (.invokestatic 61, 3) := by decide +kernel
theorem dX3_walkOver_55 : decode cX3_walkOver 55 = .ok (.istore 4, 2) := by decide +kernel
theorem dX3_walkOver_57 : decode cX3_walkOver 57 = .ok (.iload_n 0, 1) := by decide +kernel
theorem dX3_walkOver_58 : decode cX3_walkOver 58 = .ok (.ifCond .ne 7, 3) := by decide +kernel
theorem dX3_walkOver_61 : decode cX3_walkOver 61 = .ok (.iconst 0, 1) := by decide +kernel
theorem dX3_walkOver_62 : decode cX3_walkOver 62 = .ok (.goto 9, 3) := by decide +kernel
theorem dX3_walkOver_65 : decode cX3_walkOver 65 = .ok (.iload_n 3, 1) := by decide +kernel
theorem dX3_walkOver_66 : decode cX3_walkOver 66 = .ok (.iload_n 2, 1) := by decide +kernel
theorem dX3_walkOver_67 : decode cX3_walkOver 67 = .ok (.isub, 1) := by decide +kernel
theorem dX3_walkOver_68 : decode cX3_walkOver 68 = .ok (.iload 4, 2) := by decide +kernel
theorem dX3_walkOver_70 : decode cX3_walkOver 70 = .ok (.iadd, 1) := by decide +kernel
theorem dX3_walkOver_71 : decode cX3_walkOver 71 = .ok (.ireturn, 1) := by decide +kernel
theorem dX3_fewest_0 : decode cX3_fewest 0 = .ok (.aload_n 0, 1) := by decide +kernel
theorem dX3_fewest_1 : decode cX3_fewest 1 = .ok (.aload_n 1, 1) := by decide +kernel
theorem dX3_fewest_2 : decode cX3_fewest 2 = .ok (.invokevirtual 70, 3) := by decide +kernel
theorem dX3_fewest_5 : decode cX3_fewest 5 = .ok (.aload_n 1, 1) := by decide +kernel
theorem dX3_fewest_6 : decode cX3_fewest 6 = .ok (.iload_n 2, 1) := by decide +kernel
theorem dX3_fewest_7 : decode cX3_fewest 7 = .ok (.invokevirtual 74, 3) := by decide +kernel
theorem dX3_fewest_10 : decode cX3_fewest 10 = .ok (.istore_n 3, 1) := by decide +kernel
theorem dX3_fewest_11 : decode cX3_fewest 11 = .ok (.sipush 1000, 3) := by decide +kernel
theorem dX3_fewest_14 : decode cX3_fewest 14 = .ok (.istore 4, 2) := by decide +kernel
theorem dX3_fewest_16 : decode cX3_fewest 16 = .ok (.aload_n 0, 1) := by decide +kernel
theorem dX3_fewest_17 : decode cX3_fewest 17 = .ok (.iload 4, 2) := by decide +kernel
theorem dX3_fewest_19 : decode cX3_fewest 19 = .ok (.putfield 77, 3) := by decide +kernel
theorem dX3_fewest_22 : decode cX3_fewest 22 = .ok (.aload_n 0, 1) := by decide +kernel
theorem dX3_fewest_23 : decode cX3_fewest 23 = .ok (.getfield 20, 3) := by decide +kernel
theorem dX3_fewest_26 : decode cX3_fewest 26 = .ok (.iload_n 2, 1) := by decide +kernel
theorem dX3_fewest_27 : decode cX3_fewest 27 = .ok (.invokestatic 80, 3) := by decide +kernel
theorem dX3_fewest_30 : decode cX3_fewest 30 = .ok (.iconst 0, 1) := by decide +kernel
theorem dX3_fewest_31 : decode cX3_fewest 31 = .ok (.invokevirtual 38, 3) := by decide +kernel
theorem dX3_fewest_34 : decode cX3_fewest 34 = .ok (.aload_n 0, 1) := by decide +kernel
theorem dX3_fewest_35 : decode cX3_fewest 35 = .ok (.iconst 0, 1) := by decide +kernel
theorem dX3_fewest_36 : decode cX3_fewest 36 = .ok (.iload_n 2, 1) := by decide +kernel
theorem dX3_fewest_37 : decode cX3_fewest 37 = .ok (.aload_n 1, 1) := by decide +kernel
theorem dX3_fewest_38 : decode cX3_fewest 38 = .ok (.getfield 85, 3) := by decide +kernel
theorem dX3_fewest_41 : decode cX3_fewest 41 = .ok (.iconst 0, 1) := by decide +kernel
theorem dX3_fewest_42 : decode cX3_fewest 42 = .ok (.iconst 0, 1) := by decide +kernel
theorem dX3_fewest_43 : decode cX3_fewest 43 = .ok (.invokestatic 88, 3) := by decide +kernel
theorem dX3_fewest_46 : decode cX3_fewest 46 = .ok (.aload_n 0, 1) := by decide +kernel
theorem dX3_fewest_47 : decode cX3_fewest 47 = .ok (.getfield 77, 3) := by decide +kernel
theorem dX3_fewest_50 : decode cX3_fewest 50 = .ok (.iload 4, 2) := by decide +kernel
theorem dX3_fewest_52 : decode cX3_fewest 52 = .ok (.if_icmp .ne 8, 3) := by decide +kernel
theorem dX3_fewest_55 : decode cX3_fewest 55 = .ok (.bipush (-9), 2) := by decide +kernel
theorem dX3_fewest_57 : decode cX3_fewest 57 = .ok (.goto 9, 3) := by decide +kernel
theorem dX3_fewest_60 : decode cX3_fewest 60 = .ok (.aload_n 0, 1) := by decide +kernel
theorem dX3_fewest_61 : decode cX3_fewest 61 = .ok (.getfield 77, 3) := by decide +kernel
theorem dX3_fewest_64 : decode cX3_fewest 64 = .ok (.iload_n 3, 1) := by decide +kernel
theorem dX3_fewest_65 : decode cX3_fewest 65 = .ok (.iadd, 1) := by decide +kernel
theorem dX3_fewest_66 : decode cX3_fewest 66 = .ok (.ireturn, 1) := by decide +kernel
theorem dX3_seek_0 : decode cX3_seek 0 = .ok (.iload_n 1, 1) := by decide +kernel
theorem dX3_seek_1 : decode cX3_seek 1 = .ok (.bipush 6, 2) := by decide +kernel
theorem dX3_seek_3 : decode cX3_seek 3 = .ok (.if_icmp .gt 18, 3) := by decide +kernel
theorem dX3_seek_6 : decode cX3_seek 6 = .ok (.iload 5, 2) := by decide +kernel
theorem dX3_seek_8 : decode cX3_seek 8 = .ok (.iload_n 2, 1) := by decide +kernel
theorem dX3_seek_9 : decode cX3_seek 9 = .ok (.iload_n 3, 1) := by decide +kernel
theorem dX3_seek_10 : decode cX3_seek 10 = .ok (.invokestatic 92, 3) := by decide +kernel
theorem dX3_seek_13 : decode cX3_seek 13 = .ok (.iadd, 1) := by decide +kernel
theorem dX3_seek_14 : decode cX3_seek 14 = .ok (.aload_n 0, 1) := by decide +kernel
theorem dX3_seek_15 : decode cX3_seek 15 = .ok (.getfield 77, 3) := by decide +kernel
theorem dX3_seek_18 : decode cX3_seek 18 = .ok (.if_icmp .lt 4, 3) := by decide +kernel
theorem dX3_seek_21 : decode cX3_seek 21 = .ok (.return_, 1) := by decide +kernel
theorem dX3_seek_22 : decode cX3_seek 22 = .ok (.iload_n 2, 1) := by decide +kernel
theorem dX3_seek_23 : decode cX3_seek 23 = .ok (.ifCond .ne 21, 3) := by decide +kernel
theorem dX3_seek_26 : decode cX3_seek 26 = .ok (.aload_n 0, 1) := by decide +kernel
theorem dX3_seek_27 : decode cX3_seek 27 = .ok (.iload 5, 2) := by decide +kernel
theorem dX3_seek_29 : decode cX3_seek 29 = .ok (.putfield 77, 3) := by decide +kernel
theorem dX3_seek_32 : decode cX3_seek 32 = .ok (.aload_n 0, 1) := by decide +kernel
theorem dX3_seek_33 : decode cX3_seek 33 = .ok (.getfield 29, 3) := by decide +kernel
theorem dX3_seek_36 : decode cX3_seek 36 = .ok (.aload_n 0, 1) := by decide +kernel
theorem dX3_seek_37 : decode cX3_seek 37 = .ok (.getfield 20, 3) := by decide +kernel
theorem dX3_seek_40 : decode cX3_seek 40 = .ok (.invokevirtual 95, 3) := by decide +kernel
theorem dX3_seek_43 : decode cX3_seek 43 = .ok (.return_, 1) := by decide +kernel
theorem dX3_seek_44 : decode cX3_seek 44 = .ok (.iconst 0, 1) := by decide +kernel
theorem dX3_seek_45 : decode cX3_seek 45 = .ok (.istore 6, 2) := by decide +kernel
theorem dX3_seek_47 : decode cX3_seek 47 = .ok (.iload 6, 2) := by decide +kernel
theorem dX3_seek_49 : decode cX3_seek 49 = .ok (.bipush 6, 2) := by decide +kernel
theorem dX3_seek_51 : decode cX3_seek 51 = .ok (.if_icmp .ge 92, 3) := by decide +kernel
theorem dX3_seek_54 : decode cX3_seek 54 = .ok (.iload 6, 2) := by decide +kernel
theorem dX3_seek_56 : decode cX3_seek 56 = .ok (.iload_n 3, 1) := by decide +kernel
theorem dX3_seek_57 : decode cX3_seek 57 = .ok (.isub, 1) := by decide +kernel
theorem dX3_seek_58 : decode cX3_seek 58 = .ok (.invokestatic 67, 3) := by decide +kernel
theorem dX3_seek_61 : decode cX3_seek 61 = .ok (.istore 7, 2) := by decide +kernel
theorem dX3_seek_63 : decode cX3_seek 63 = .ok (.iload 4, 2) := by decide +kernel
theorem dX3_seek_65 : decode cX3_seek 65 = .ok (.iload 7, 2) := by decide +kernel
theorem dX3_seek_67 : decode cX3_seek 67 = .ok (.iadd, 1) := by decide +kernel
theorem dX3_seek_68 : decode cX3_seek 68 = .ok (.aload_n 0, 1) := by decide +kernel
theorem dX3_seek_69 : decode cX3_seek 69 = .ok (.getfield 23, 3) := by decide +kernel
theorem dX3_seek_72 : decode cX3_seek 72 = .ok (.iload 6, 2) := by decide +kernel
theorem dX3_seek_74 : decode cX3_seek 74 = .ok (.invokevirtual 51, 3) := by decide +kernel
theorem dX3_seek_77 : decode cX3_seek 77 = .ok (.iadd, 1) := by decide +kernel
theorem dX3_seek_78 : decode cX3_seek 78 = .ok (.istore 8, 2) := by decide +kernel
theorem dX3_seek_80 : decode cX3_seek 80 = .ok (.iload_n 2, 1) := by decide +kernel
theorem dX3_seek_81 : decode cX3_seek 81 = .ok (.iload 6, 2) := by decide +kernel
theorem dX3_seek_83 : decode cX3_seek 83 = .ok (.invokestatic 57, 3) := by decide +kernel
theorem dX3_seek_86 : decode cX3_seek 86 = .ok (.ifCond .eq 51, 3) := by decide +kernel
theorem dX3_seek_89 : decode cX3_seek 89 = .ok (.iload 8, 2) := by decide +kernel
theorem dX3_seek_91 : decode cX3_seek 91 = .ok (.aload_n 0, 1) := by decide +kernel
theorem dX3_seek_92 : decode cX3_seek 92 = .ok (.getfield 26, 3) := by decide +kernel
theorem dX3_seek_95 : decode cX3_seek 95 = .ok (.iload 6, 2) := by decide +kernel
theorem dX3_seek_97 : decode cX3_seek 97 = .ok (.invokevirtual 51, 3) := by decide +kernel
theorem dX3_seek_100 : decode cX3_seek 100 = .ok (.if_icmp .gt 37, 3) := by decide +kernel
theorem dX3_seek_103 : decode cX3_seek 103 = .ok (.aload_n 0, 1) := by decide +kernel
theorem dX3_seek_104 : decode cX3_seek 104 = .ok (.getfield 20, 3) := by decide +kernel
theorem dX3_seek_107 : decode cX3_seek 107 = .ok (.iload_n 1, 1) := by decide +kernel
theorem dX3_seek_108 : decode cX3_seek 108 = .ok (.iload 6, 2) := by decide +kernel
theorem dX3_seek_110 : decode cX3_seek 110 = .ok (.invokevirtual 45, 3) := by decide +kernel
theorem dX3_seek_113 : decode cX3_seek 113 = .ok (.aload_n 0, 1) := by decide +kernel
theorem dX3_seek_114 : decode cX3_seek 114 = .ok (.iload_n 1, 1) := by decide +kernel
theorem dX3_seek_115 : decode cX3_seek 115 = .ok (.iconst 1, 1) := by decide +kernel
theorem dX3_seek_116 : decode cX3_seek 116 = .ok (.iadd, 1) := by decide +kernel
theorem dX3_seek_117 : decode cX3_seek 117 = .ok (.iload_n 2, 1) := by decide +kernel
theorem dX3_seek_118 : decode cX3_seek 118 = .ok (.iconst 1, 1) := by decide +kernel
theorem dX3_seek_119 : decode cX3_seek 119 = .ok (.iload 6, 2) := by decide +kernel
theorem dX3_seek_121 : decode cX3_seek 121 = .ok (.ishl, 1) := by decide +kernel
theorem dX3_seek_122 : decode cX3_seek 122 = .ok (.iconst (-1), 1) := by decide +kernel
theorem dX3_seek_123 : decode cX3_seek 123 = .ok (.ixor, 1) := by decide +kernel
theorem dX3_seek_124 : decode cX3_seek 124 = .ok (.iand, 1) := by decide +kernel
theorem dX3_seek_125 : decode cX3_seek 125 = .ok (.iload 6, 2) := by decide +kernel
theorem dX3_seek_127 : decode cX3_seek 127 = .ok (.iload 8, 2) := by decide +kernel
theorem dX3_seek_129 : decode cX3_seek 129 = .ok (.iload 5, 2) := by decide +kernel
theorem dX3_seek_131 : decode cX3_seek 131 = .ok (.iload 7, 2) := by decide +kernel
theorem dX3_seek_133 : decode cX3_seek 133 = .ok (.iadd, 1) := by decide +kernel
theorem dX3_seek_134 : decode cX3_seek 134 = .ok (.invokestatic 88, 3) := by decide +kernel
theorem dX3_seek_137 : decode cX3_seek 137 = .ok (.iinc 6 1, 3) := by decide +kernel
theorem dX3_seek_140 : decode cX3_seek 140 = .ok (.goto (-93), 3) := by decide +kernel
theorem dX3_seek_143 : decode cX3_seek 143 = .ok (.return_, 1) := by decide +kernel
theorem dX3_greatest_0 : decode cX3_greatest 0 = .ok (.aload_n 0, 1) := by decide +kernel
theorem dX3_greatest_1 : decode cX3_greatest 1 = .ok (.aload_n 1, 1) := by decide +kernel
theorem dX3_greatest_2 : decode cX3_greatest 2 = .ok (.invokevirtual 70, 3) := by decide +kernel
theorem dX3_greatest_5 : decode cX3_greatest 5 = .ok (.aload_n 0, 1) := by decide +kernel
theorem dX3_greatest_6 : decode cX3_greatest 6 = .ok (.getfield 14, 3) := by decide +kernel
theorem dX3_greatest_9 : decode cX3_greatest 9 = .ok (.bipush 6, 2) := by decide +kernel
theorem dX3_greatest_11 : decode cX3_greatest 11 = .ok (.aload_n 1, 1) := by decide +kernel
theorem dX3_greatest_12 : decode cX3_greatest 12 = .ok (.getfield 32, 3) := by decide +kernel
theorem dX3_greatest_15 : decode cX3_greatest 15 = .ok (.ishl, 1) := by decide +kernel
theorem dX3_greatest_16 : decode cX3_greatest 16 = .ok (.bipush (-9), 2) := by decide +kernel
theorem dX3_greatest_18 : decode cX3_greatest 18 = .ok (.invokevirtual 38, 3) := by decide +kernel
theorem dX3_greatest_21 : decode cX3_greatest 21 = .ok (.iconst 0, 1) := by decide +kernel
theorem dX3_greatest_22 : decode cX3_greatest 22 = .ok (.istore_n 2, 1) := by decide +kernel
theorem dX3_greatest_23 : decode cX3_greatest 23 = .ok (.iconst 1, 1) := by decide +kernel
theorem dX3_greatest_24 : decode cX3_greatest 24 = .ok (.istore_n 3, 1) := by decide +kernel
theorem dX3_greatest_25 : decode cX3_greatest 25 = .ok (.iload_n 3, 1) := by decide +kernel
theorem dX3_greatest_26 : decode cX3_greatest 26 = .ok (.iconst 1, 1) := by decide +kernel
theorem dX3_greatest_27 : decode cX3_greatest 27 = .ok (.aload_n 1, 1) := by decide +kernel
theorem dX3_greatest_28 : decode cX3_greatest 28 = .ok (.getfield 32, 3) := by decide +kernel
theorem dX3_greatest_31 : decode cX3_greatest 31 = .ok (.ishl, 1) := by decide +kernel
theorem dX3_greatest_32 : decode cX3_greatest 32 = .ok (.if_icmp .ge 114, 3) := by decide +kernel
theorem dX3_greatest_35 : decode cX3_greatest 35 = .ok (.iconst 0, 1) := by decide +kernel
theorem dX3_greatest_36 : decode cX3_greatest 36 = .ok (.istore 4, 2) := by decide +kernel
theorem dX3_greatest_38 : decode cX3_greatest 38 = .ok (.iconst 0, 1) := by decide +kernel
theorem dX3_greatest_39 : decode cX3_greatest 39 = .ok (.istore 5, 2) := by decide +kernel
theorem dX3_greatest_41 : decode cX3_greatest 41 = .ok (.iload 5, 2) := by decide +kernel
theorem dX3_greatest_43 : decode cX3_greatest 43 = .ok (.aload_n 1, 1) := by decide +kernel
theorem dX3_greatest_44 : decode cX3_greatest 44 = .ok (.getfield 32, 3) := by decide +kernel
theorem dX3_greatest_47 : decode cX3_greatest 47 = .ok (.if_icmp .ge 71, 3) := by decide +kernel
theorem dX3_greatest_50 : decode cX3_greatest 50 = .ok (.iload_n 3, 1) := by decide +kernel
theorem dX3_greatest_51 : decode cX3_greatest 51 = .ok (.iload 5, 2) := by decide +kernel
theorem dX3_greatest_53 : decode cX3_greatest 53 = .ok (.invokestatic 57, 3) := by decide +kernel
theorem dX3_greatest_56 : decode cX3_greatest 56 = .ok (.ifCond .eq 17, 3) := by decide +kernel
theorem dX3_greatest_59 : decode cX3_greatest 59 = .ok (.aload_n 0, 1) := by decide +kernel
theorem dX3_greatest_60 : decode cX3_greatest 60 = .ok (.iload_n 3, 1) := by decide +kernel
theorem dX3_greatest_61 : decode cX3_greatest 61 = .ok (.iload 5, 2) := by decide +kernel
theorem dX3_greatest_63 : decode cX3_greatest 63 = .ok (.aload_n 1, 1) := by decide +kernel
theorem dX3_greatest_64 : decode cX3_greatest 64 = .ok (.getfield 85, 3) := by decide +kernel
theorem dX3_greatest_67 : decode cX3_greatest 67 = .ok (.invokevirtual 99, 3) := by decide +kernel
theorem dX3_greatest_70 : decode cX3_greatest 70 = .ok (.goto 5, 3) := by decide +kernel
theorem dX3_greatest_73 : decode cX3_greatest 73 = .ok (.bipush (-9), 2) := by decide +kernel
theorem dX3_greatest_75 : decode cX3_greatest 75 = .ok (.istore 6, 2) := by decide +kernel
theorem dX3_greatest_77 : decode cX3_greatest 77 = .ok (.aload_n 0, 1) := by decide +kernel
theorem dX3_greatest_78 : decode cX3_greatest 78 = .ok (.getfield 14, 3) := by decide +kernel
theorem dX3_greatest_81 : decode cX3_greatest 81 = .ok (.iload_n 3, 1) := by decide +kernel
theorem dX3_greatest_82 : decode cX3_greatest 82 = .ok (.bipush 6, 2) := by decide +kernel
theorem dX3_greatest_84 : decode cX3_greatest 84 = .ok (.imul, 1) := by decide +kernel
theorem dX3_greatest_85 : decode cX3_greatest 85 = .ok (.iload 5, 2) := by decide +kernel
theorem dX3_greatest_87 : decode cX3_greatest 87 = .ok (.iadd, 1) := by decide +kernel
theorem dX3_greatest_88 : decode cX3_greatest 88 = .ok (.iload 6, 2) := by decide +kernel
theorem dX3_greatest_90 : decode cX3_greatest 90 = .ok (.invokevirtual 45, 3) := by decide +kernel
theorem dX3_greatest_93 : decode cX3_greatest 93 = .ok (.iload 4, 2) := by decide +kernel
theorem dX3_greatest_95 : decode cX3_greatest 95 = .ok (.ifCond .ne 10, 3) := by decide +kernel
theorem dX3_greatest_98 : decode cX3_greatest 98 = .ok (.iload 6, 2) := by decide +kernel
theorem dX3_greatest_100 : decode cX3_greatest 100 = .ok (.bipush (-9), 2) := by decide +kernel
theorem dX3_greatest_102 : decode cX3_greatest 102 = .ok (.if_icmp .eq 7, 3) := by decide +kernel
theorem dX3_greatest_105 : decode cX3_greatest 105 = .ok (.iconst 1, 1) := by decide +kernel
theorem dX3_greatest_106 : decode cX3_greatest 106 = .ok (.goto 4, 3) := by decide +kernel
theorem dX3_greatest_109 : decode cX3_greatest 109 = .ok (.iconst 0, 1) := by decide +kernel
theorem dX3_greatest_110 : decode cX3_greatest 110 = .ok (.istore 4, 2) := by decide +kernel
theorem dX3_greatest_112 : decode cX3_greatest 112 = .ok (.iinc 5 1, 3) := by decide +kernel
theorem dX3_greatest_115 : decode cX3_greatest 115 = .ok (.goto (-74), 3) := by decide +kernel
theorem dX3_greatest_118 : decode cX3_greatest 118 = .ok (.iload 4, 2) := by decide +kernel
theorem dX3_greatest_120 : decode cX3_greatest 120 = .ok (.ifCond .eq 18, 3) := by decide +kernel
theorem dX3_greatest_123 : decode cX3_greatest 123 = .ok (.iload_n 3, 1) := by decide +kernel
theorem dX3_greatest_124 : decode cX3_greatest 124 = .ok (.invokestatic 80, 3) := by decide +kernel
theorem dX3_greatest_127 : decode cX3_greatest 127 = .ok (.iload_n 2, 1) := by decide +kernel
theorem dX3_greatest_128 : decode cX3_greatest 128 = .ok (.invokestatic 80, 3) := by decide +kernel
theorem dX3_greatest_131 : decode cX3_greatest 131 = .ok (.if_icmp .le 7, 3) := by decide +kernel
theorem dX3_greatest_134 : decode cX3_greatest 134 = .ok (.iload_n 3, 1) := by decide +kernel
theorem dX3_greatest_135 : decode cX3_greatest 135 = .ok (.goto 4, 3) := by decide +kernel
theorem dX3_greatest_138 : decode cX3_greatest 138 = .ok (.iload_n 2, 1) := by decide +kernel
theorem dX3_greatest_139 : decode cX3_greatest 139 = .ok (.istore_n 2, 1) := by decide +kernel
theorem dX3_greatest_140 : decode cX3_greatest 140 = .ok (.iinc 3 1, 3) := by decide +kernel
theorem dX3_greatest_143 : decode cX3_greatest 143 = .ok (.goto (-118), 3) := by decide +kernel
theorem dX3_greatest_146 : decode cX3_greatest 146 = .ok (.iload_n 2, 1) := by decide +kernel
theorem dX3_greatest_147 : decode cX3_greatest 147 = .ok (.ireturn, 1) := by decide +kernel
theorem dX3_endAt_0 : decode cX3_endAt 0 = .ok (.aload_n 0, 1) := by decide +kernel
theorem dX3_endAt_1 : decode cX3_endAt 1 = .ok (.getfield 23, 3) := by decide +kernel
theorem dX3_endAt_4 : decode cX3_endAt 4 = .ok (.iload_n 2, 1) := by decide +kernel
theorem dX3_endAt_5 : decode cX3_endAt 5 = .ok (.invokevirtual 51, 3) := by decide +kernel
theorem dX3_endAt_8 : decode cX3_endAt 8 = .ok (.ifCond .gt 6, 3) := by decide +kernel
theorem dX3_endAt_11 : decode cX3_endAt 11 = .ok (.bipush (-9), 2) := by decide +kernel
theorem dX3_endAt_13 : decode cX3_endAt 13 = .ok (.ireturn, 1) := by decide +kernel
theorem dX3_endAt_14 : decode cX3_endAt 14 = .ok (.iload_n 1, 1) := by decide +kernel
theorem dX3_endAt_15 : decode cX3_endAt 15 = .ok (.iconst 1, 1) := by decide +kernel
theorem dX3_endAt_16 : decode cX3_endAt 16 = .ok (.iload_n 2, 1) := by decide +kernel
theorem dX3_endAt_17 : decode cX3_endAt 17 = .ok (.ishl, 1) := by decide +kernel
theorem dX3_endAt_18 : decode cX3_endAt 18 = .ok (.iconst (-1), 1) := by decide +kernel
theorem dX3_endAt_19 : decode cX3_endAt 19 = .ok (.ixor, 1) := by decide +kernel
theorem dX3_endAt_20 : decode cX3_endAt 20 = .ok (.iand, 1) := by decide +kernel
theorem dX3_endAt_21 : decode cX3_endAt 21 = .ok (.istore 4, 2) := by decide +kernel
theorem dX3_endAt_23 : decode cX3_endAt 23 = .ok (.iload 4, 2) := by decide +kernel
theorem dX3_endAt_25 : decode cX3_endAt 25 = .ok (.ifCond .ne 12, 3) := by decide +kernel
theorem dX3_endAt_28 : decode cX3_endAt 28 = .ok (.iload_n 2, 1) := by decide +kernel
theorem dX3_endAt_29 : decode cX3_endAt 29 = .ok (.iload_n 3, 1) := by decide +kernel
theorem dX3_endAt_30 : decode cX3_endAt 30 = .ok (.isub, 1) := by decide +kernel
theorem dX3_endAt_31 : decode cX3_endAt 31 = .ok (.invokestatic 67, 3) := by decide +kernel
theorem dX3_endAt_34 : decode cX3_endAt 34 = .ok (.goto 5, 3) := by decide +kernel
theorem dX3_endAt_37 : decode cX3_endAt 37 = .ok (.bipush (-9), 2) := by decide +kernel
theorem dX3_endAt_39 : decode cX3_endAt 39 = .ok (.istore 5, 2) := by decide +kernel
theorem dX3_endAt_41 : decode cX3_endAt 41 = .ok (.iconst 0, 1) := by decide +kernel
theorem dX3_endAt_42 : decode cX3_endAt 42 = .ok (.istore 6, 2) := by decide +kernel
theorem dX3_endAt_44 : decode cX3_endAt 44 = .ok (.iload 6, 2) := by decide +kernel
theorem dX3_endAt_46 : decode cX3_endAt 46 = .ok (.bipush 6, 2) := by decide +kernel
theorem dX3_endAt_48 : decode cX3_endAt 48 = .ok (.if_icmp .ge 78, 3) := by decide +kernel
theorem dX3_endAt_51 : decode cX3_endAt 51 = .ok (.iload 4, 2) := by decide +kernel
theorem dX3_endAt_53 : decode cX3_endAt 53 = .ok (.iload 6, 2) := by decide +kernel
theorem dX3_endAt_55 : decode cX3_endAt 55 = .ok (.invokestatic 57, 3) := by decide +kernel
theorem dX3_endAt_58 : decode cX3_endAt 58 = .ok (.ifCond .eq 21, 3) := by decide +kernel
theorem dX3_endAt_61 : decode cX3_endAt 61 = .ok (.aload_n 0, 1) := by decide +kernel
theorem dX3_endAt_62 : decode cX3_endAt 62 = .ok (.getfield 14, 3) := by decide +kernel
theorem dX3_endAt_65 : decode cX3_endAt 65 = .ok (.iload 4, 2) := by decide +kernel
theorem dX3_endAt_67 : decode cX3_endAt 67 = .ok (.bipush 6, 2) := by decide +kernel
theorem dX3_endAt_69 : decode cX3_endAt 69 = .ok (.imul, 1) := by decide +kernel
theorem dX3_endAt_70 : decode cX3_endAt 70 = .ok (.iload 6, 2) := by decide +kernel
theorem dX3_endAt_72 : decode cX3_endAt 72 = .ok (.iadd, 1) := by decide +kernel
theorem dX3_endAt_73 : decode cX3_endAt 73 = .ok (.invokevirtual 51, 3) := by decide +kernel
theorem dX3_endAt_76 : decode cX3_endAt 76 = .ok (.goto 5, 3) := by decide +kernel
theorem dX3_endAt_79 : decode cX3_endAt 79 = .ok (.bipush (-9), 2) := by decide +kernel
theorem dX3_endAt_81 : decode cX3_endAt 81 = .ok (.istore 7, 2) := by decide +kernel
theorem dX3_endAt_83 : decode cX3_endAt 83 = .ok (.iload 7, 2) := by decide +kernel
theorem dX3_endAt_85 : decode cX3_endAt 85 = .ok (.iload_n 2, 1) := by decide +kernel
theorem dX3_endAt_86 : decode cX3_endAt 86 = .ok (.iload 6, 2) := by decide +kernel
theorem dX3_endAt_88 : decode cX3_endAt 88 = .ok (.isub, 1) := by decide +kernel
theorem dX3_endAt_89 : decode cX3_endAt 89 = .ok (.invokestatic 67, 3) := by decide +kernel
theorem dX3_endAt_92 : decode cX3_endAt 92 = .ok (.iadd, 1) := by decide +kernel
theorem dX3_endAt_93 : decode cX3_endAt 93 = .ok (.istore 8, 2) := by decide +kernel
theorem dX3_endAt_95 : decode cX3_endAt 95 = .ok (.iload 7, 2) := by decide +kernel
theorem dX3_endAt_97 : decode cX3_endAt 97 = .ok (.bipush (-9), 2) := by decide +kernel
theorem dX3_endAt_99 : decode cX3_endAt 99 = .ok (.if_icmp .eq 21, 3) := by decide +kernel
theorem dX3_endAt_102 : decode cX3_endAt 102 = .ok (.iload 5, 2) := by decide +kernel
theorem dX3_endAt_104 : decode cX3_endAt 104 = .ok (.bipush (-9), 2) := by decide +kernel
theorem dX3_endAt_106 : decode cX3_endAt 106 = .ok (.if_icmp .eq 10, 3) := by decide +kernel
theorem dX3_endAt_109 : decode cX3_endAt 109 = .ok (.iload 8, 2) := by decide +kernel
theorem dX3_endAt_111 : decode cX3_endAt 111 = .ok (.iload 5, 2) := by decide +kernel
theorem dX3_endAt_113 : decode cX3_endAt 113 = .ok (.if_icmp .ge 7, 3) := by decide +kernel
theorem dX3_endAt_116 : decode cX3_endAt 116 = .ok (.iload 8, 2) := by decide +kernel
theorem dX3_endAt_118 : decode cX3_endAt 118 = .ok (.istore 5, 2) := by decide +kernel
theorem dX3_endAt_120 : decode cX3_endAt 120 = .ok (.iinc 6 1, 3) := by decide +kernel
theorem dX3_endAt_123 : decode cX3_endAt 123 = .ok (.goto (-79), 3) := by decide +kernel
theorem dX3_endAt_126 : decode cX3_endAt 126 = .ok (.iload 5, 2) := by decide +kernel
theorem dX3_endAt_128 : decode cX3_endAt 128 = .ok (.bipush (-9), 2) := by decide +kernel
theorem dX3_endAt_130 : decode cX3_endAt 130 = .ok (.if_icmp .eq 29, 3) := by decide +kernel
theorem dX3_endAt_133 : decode cX3_endAt 133 = .ok (.iload 5, 2) := by decide +kernel
theorem dX3_endAt_135 : decode cX3_endAt 135 = .ok (.aload_n 0, 1) := by decide +kernel
theorem dX3_endAt_136 : decode cX3_endAt 136 = .ok (.getfield 23, 3) := by decide +kernel
theorem dX3_endAt_139 : decode cX3_endAt 139 = .ok (.iload_n 2, 1) := by decide +kernel
theorem dX3_endAt_140 : decode cX3_endAt 140 = .ok (.invokevirtual 51, 3) := by decide +kernel
theorem dX3_endAt_143 : decode cX3_endAt 143 = .ok (.iadd, 1) := by decide +kernel
theorem dX3_endAt_144 : decode cX3_endAt 144 = .ok (.aload_n 0, 1) := by decide +kernel
theorem dX3_endAt_145 : decode cX3_endAt 145 = .ok (.getfield 26, 3) := by decide +kernel
theorem dX3_endAt_148 : decode cX3_endAt 148 = .ok (.iload_n 2, 1) := by decide +kernel
theorem dX3_endAt_149 : decode cX3_endAt 149 = .ok (.invokevirtual 51, 3) := by decide +kernel
theorem dX3_endAt_152 : decode cX3_endAt 152 = .ok (.if_icmp .gt 7, 3) := by decide +kernel
theorem dX3_endAt_155 : decode cX3_endAt 155 = .ok (.iconst 1, 1) := by decide +kernel
theorem dX3_endAt_156 : decode cX3_endAt 156 = .ok (.goto 4, 3) := by decide +kernel
theorem dX3_endAt_159 : decode cX3_endAt 159 = .ok (.iconst 0, 1) := by decide +kernel
theorem dX3_endAt_160 : decode cX3_endAt 160 = .ok (.istore 6, 2) := by decide +kernel
theorem dX3_endAt_162 : decode cX3_endAt 162 = .ok (.iload 6, 2) := by decide +kernel
theorem dX3_endAt_164 : decode cX3_endAt 164 = .ok (.ifCond .eq 17, 3) := by decide +kernel
theorem dX3_endAt_167 : decode cX3_endAt 167 = .ok (.iload 5, 2) := by decide +kernel
theorem dX3_endAt_169 : decode cX3_endAt 169 = .ok (.aload_n 0, 1) := by decide +kernel
theorem dX3_endAt_170 : decode cX3_endAt 170 = .ok (.getfield 23, 3) := by decide +kernel
theorem dX3_endAt_173 : decode cX3_endAt 173 = .ok (.iload_n 2, 1) := by decide +kernel
theorem dX3_endAt_174 : decode cX3_endAt 174 = .ok (.invokevirtual 51, 3) := by decide +kernel
theorem dX3_endAt_177 : decode cX3_endAt 177 = .ok (.iadd, 1) := by decide +kernel
theorem dX3_endAt_178 : decode cX3_endAt 178 = .ok (.goto 5, 3) := by decide +kernel
theorem dX3_endAt_181 : decode cX3_endAt 181 = .ok (.bipush (-9), 2) := by decide +kernel
theorem dX3_endAt_183 : decode cX3_endAt 183 = .ok (.ireturn, 1) := by decide +kernel
theorem dX4_init_0 : decode cX4_init 0 = .ok (.aload_n 0, 1) := by decide +kernel
theorem dX4_init_1 : decode cX4_init 1 = .ok (.invokespecial 3, 3) := by decide +kernel
theorem dX4_init_4 : decode cX4_init 4 = .ok (.aload_n 0, 1) := by decide +kernel
theorem dX4_init_5 : decode cX4_init 5 = .ok (.new 9, 3) := by decide +kernel
theorem dX4_init_8 : decode cX4_init 8 = .ok (.dup, 1) := by decide +kernel
theorem dX4_init_9 : decode cX4_init 9 = .ok (.bipush 6, 2) := by decide +kernel
theorem dX4_init_11 : decode cX4_init 11 = .ok (.invokespecial 11, 3) := by decide +kernel
theorem dX4_init_14 : decode cX4_init 14 = .ok (.putfield 14, 3) := by decide +kernel
theorem dX4_init_17 : decode cX4_init 17 = .ok (.aload_n 0, 1) := by decide +kernel
theorem dX4_init_18 : decode cX4_init 18 = .ok (.new 9, 3) := by decide +kernel
theorem dX4_init_21 : decode cX4_init 21 = .ok (.dup, 1) := by decide +kernel
theorem dX4_init_22 : decode cX4_init 22 = .ok (.bipush 6, 2) := by decide +kernel
theorem dX4_init_24 : decode cX4_init 24 = .ok (.invokespecial 11, 3) := by decide +kernel
theorem dX4_init_27 : decode cX4_init 27 = .ok (.putfield 20, 3) := by decide +kernel
theorem dX4_init_30 : decode cX4_init 30 = .ok (.aload_n 0, 1) := by decide +kernel
theorem dX4_init_31 : decode cX4_init 31 = .ok (.new 9, 3) := by decide +kernel
theorem dX4_init_34 : decode cX4_init 34 = .ok (.dup, 1) := by decide +kernel
theorem dX4_init_35 : decode cX4_init 35 = .ok (.bipush 6, 2) := by decide +kernel
theorem dX4_init_37 : decode cX4_init 37 = .ok (.invokespecial 11, 3) := by decide +kernel
theorem dX4_init_40 : decode cX4_init 40 = .ok (.putfield 23, 3) := by decide +kernel
theorem dX4_init_43 : decode cX4_init 43 = .ok (.aload_n 0, 1) := by decide +kernel
theorem dX4_init_44 : decode cX4_init 44 = .ok (.new 9, 3) := by decide +kernel
theorem dX4_init_47 : decode cX4_init 47 = .ok (.dup, 1) := by decide +kernel
theorem dX4_init_48 : decode cX4_init 48 = .ok (.bipush 6, 2) := by decide +kernel
theorem dX4_init_50 : decode cX4_init 50 = .ok (.invokespecial 11, 3) := by decide +kernel
theorem dX4_init_53 : decode cX4_init 53 = .ok (.putfield 26, 3) := by decide +kernel
theorem dX4_init_56 : decode cX4_init 56 = .ok (.aload_n 0, 1) := by decide +kernel
theorem dX4_init_57 : decode cX4_init 57 = .ok (.new 9, 3) := by decide +kernel
theorem dX4_init_60 : decode cX4_init 60 = .ok (.dup, 1) := by decide +kernel
theorem dX4_init_61 : decode cX4_init 61 = .ok (.bipush 6, 2) := by decide +kernel
theorem dX4_init_63 : decode cX4_init 63 = .ok (.invokespecial 11, 3) := by decide +kernel
theorem dX4_init_66 : decode cX4_init 66 = .ok (.putfield 29, 3) := by decide +kernel
theorem dX4_init_69 : decode cX4_init 69 = .ok (.aload_n 0, 1) := by decide +kernel
theorem dX4_init_70 : decode cX4_init 70 = .ok (.new 9, 3) := by decide +kernel
theorem dX4_init_73 : decode cX4_init 73 = .ok (.dup, 1) := by decide +kernel
theorem dX4_init_74 : decode cX4_init 74 = .ok (.bipush 6, 2) := by decide +kernel
theorem dX4_init_76 : decode cX4_init 76 = .ok (.invokespecial 11, 3) := by decide +kernel
theorem dX4_init_79 : decode cX4_init 79 = .ok (.putfield 32, 3) := by decide +kernel
theorem dX4_init_82 : decode cX4_init 82 = .ok (.aload_n 0, 1) := by decide +kernel
theorem dX4_init_83 : decode cX4_init 83 = .ok (.new 9, 3) := by decide +kernel
theorem dX4_init_86 : decode cX4_init 86 = .ok (.dup, 1) := by decide +kernel
theorem dX4_init_87 : decode cX4_init 87 = .ok (.bipush 40, 2) := by decide +kernel
theorem dX4_init_89 : decode cX4_init 89 = .ok (.invokespecial 11, 3) := by decide +kernel
theorem dX4_init_92 : decode cX4_init 92 = .ok (.putfield 35, 3) := by decide +kernel
theorem dX4_init_95 : decode cX4_init 95 = .ok (.aload_n 0, 1) := by decide +kernel
theorem dX4_init_96 : decode cX4_init 96 = .ok (.getfield 35, 3) := by decide +kernel
theorem dX4_init_99 : decode cX4_init 99 = .ok (.iconst 0, 1) := by decide +kernel
theorem dX4_init_100 : decode cX4_init 100 = .ok (.iconst 0, 1) := by decide +kernel
theorem dX4_init_101 : decode cX4_init 101 = .ok (.invokevirtual 38, 3) := by decide +kernel
theorem dX4_init_104 : decode cX4_init 104 = .ok (.return_, 1) := by decide +kernel
theorem dX4_begin_0 : decode cX4_begin 0 = .ok (.aload_n 0, 1) := by decide +kernel
theorem dX4_begin_1 : decode cX4_begin 1 = .ok (.iconst 0, 1) := by decide +kernel
theorem dX4_begin_2 : decode cX4_begin 2 = .ok (.putfield 42, 3) := by decide +kernel
theorem dX4_begin_5 : decode cX4_begin 5 = .ok (.aload_n 0, 1) := by decide +kernel
theorem dX4_begin_6 : decode cX4_begin 6 = .ok (.iload_n 1, 1) := by decide +kernel
theorem dX4_begin_7 : decode cX4_begin 7 = .ok (.putfield 46, 3) := by decide +kernel
theorem dX4_begin_10 : decode cX4_begin 10 = .ok (.aload_n 0, 1) := by decide +kernel
theorem dX4_begin_11 : decode cX4_begin 11 = .ok (.iload_n 2, 1) := by decide +kernel
theorem dX4_begin_12 : decode cX4_begin 12 = .ok (.putfield 49, 3) := by decide +kernel
theorem dX4_begin_15 : decode cX4_begin 15 = .ok (.aload_n 0, 1) := by decide +kernel
theorem dX4_begin_16 : decode cX4_begin 16 = .ok (.getfield 14, 3) := by decide +kernel
theorem dX4_begin_19 : decode cX4_begin 19 = .ok (.iconst 0, 1) := by decide +kernel
theorem dX4_begin_20 : decode cX4_begin 20 = .ok (.iconst 0, 1) := by decide +kernel
theorem dX4_begin_21 : decode cX4_begin 21 = .ok (.invokevirtual 38, 3) := by decide +kernel
theorem dX4_begin_24 : decode cX4_begin 24 = .ok (.aload_n 0, 1) := by decide +kernel
theorem dX4_begin_25 : decode cX4_begin 25 = .ok (.getfield 20, 3) := by decide +kernel
theorem dX4_begin_28 : decode cX4_begin 28 = .ok (.iconst 0, 1) := by decide +kernel
theorem dX4_begin_29 : decode cX4_begin 29 = .ok (.iconst 0, 1) := by decide +kernel
theorem dX4_begin_30 : decode cX4_begin 30 = .ok (.invokevirtual 38, 3) := by decide +kernel
theorem dX4_begin_33 : decode cX4_begin 33 = .ok (.aload_n 0, 1) := by decide +kernel
theorem dX4_begin_34 : decode cX4_begin 34 = .ok (.getfield 23, 3) := by decide +kernel
theorem dX4_begin_37 : decode cX4_begin 37 = .ok (.iconst 0, 1) := by decide +kernel
theorem dX4_begin_38 : decode cX4_begin 38 = .ok (.iconst 0, 1) := by decide +kernel
theorem dX4_begin_39 : decode cX4_begin 39 = .ok (.invokevirtual 38, 3) := by decide +kernel
theorem dX4_begin_42 : decode cX4_begin 42 = .ok (.return_, 1) := by decide +kernel
theorem dX4_build_0 : decode cX4_build 0 = .ok (.aload_n 0, 1) := by decide +kernel
theorem dX4_build_1 : decode cX4_build 1 = .ok (.getfield 14, 3) := by decide +kernel
theorem dX4_build_4 : decode cX4_build 4 = .ok (.iload_n 1, 1) := by decide +kernel
theorem dX4_build_5 : decode cX4_build 5 = .ok (.invokevirtual 52, 3) := by decide +kernel
theorem dX4_build_8 : decode cX4_build 8 = .ok (.aload_n 0, 1) := by decide +kernel
theorem dX4_build_9 : decode cX4_build 9 = .ok (.getfield 23, 3) := by decide +kernel
theorem dX4_build_12 : decode cX4_build 12 = .ok (.iload_n 2, 1) := by decide +kernel
theorem dX4_build_13 : decode cX4_build 13 = .ok (.invokevirtual 52, 3) := by decide +kernel
theorem dX4_build_16 : decode cX4_build 16 = .ok (.aload_n 0, 1) := by decide +kernel
theorem dX4_build_17 : decode cX4_build 17 = .ok (.getfield 20, 3) := by decide +kernel
theorem dX4_build_20 : decode cX4_build 20 = .ok (.iload_n 3, 1) := by decide +kernel
theorem dX4_build_21 : decode cX4_build 21 = .ok (.invokevirtual 52, 3) := by decide +kernel
theorem dX4_build_24 : decode cX4_build 24 = .ok (.aload_n 0, 1) := by decide +kernel
theorem dX4_build_25 : decode cX4_build 25 = .ok (.aload_n 0, 1) := by decide +kernel
theorem dX4_build_26 : decode cX4_build 26 = .ok (.getfield 14, 3) := by decide +kernel
theorem dX4_build_29 : decode cX4_build 29 = .ok (.getfield 55, 3) := by decide +kernel
theorem dX4_build_32 : decode cX4_build 32 = .ok (.putfield 42, 3) := by decide +kernel
theorem dX4_build_35 : decode cX4_build 35 = .ok (.return_, 1) := by decide +kernel
theorem dX4_sleep_0 : decode cX4_sleep 0 = .ok (.aload_n 0, 1) := by decide +kernel
theorem dX4_sleep_1 : decode cX4_sleep 1 = .ok (.getfield 29, 3) := by decide +kernel
theorem dX4_sleep_4 : decode cX4_sleep 4 = .ok (.aload_n 0, 1) := by decide +kernel
theorem dX4_sleep_5 : decode cX4_sleep 5 = .ok (.getfield 42, 3) := by decide +kernel
theorem dX4_sleep_8 : decode cX4_sleep 8 = .ok (.iconst 0, 1) := by decide +kernel
theorem dX4_sleep_9 : decode cX4_sleep 9 = .ok (.invokevirtual 38, 3) := by decide +kernel
theorem dX4_sleep_12 : decode cX4_sleep 12 = .ok (.aload_n 0, 1) := by decide +kernel
theorem dX4_sleep_13 : decode cX4_sleep 13 = .ok (.getfield 32, 3) := by decide +kernel
theorem dX4_sleep_16 : decode cX4_sleep 16 = .ok (.aload_n 0, 1) := by decide +kernel
theorem dX4_sleep_17 : decode cX4_sleep 17 = .ok (.getfield 42, 3) := by decide +kernel
theorem dX4_sleep_20 : decode cX4_sleep 20 = .ok (.bipush (-9), 2) := by decide +kernel
theorem dX4_sleep_22 : decode cX4_sleep 22 = .ok (.invokevirtual 38, 3) := by decide +kernel
theorem dX4_sleep_25 : decode cX4_sleep 25 = .ok (.aload_n 0, 1) := by decide +kernel
theorem dX4_sleep_26 : decode cX4_sleep 26 = .ok (.iconst 0, 1) := by decide +kernel
theorem dX4_sleep_27 : decode cX4_sleep 27 = .ok (.putfield 56, 3) := by decide +kernel
theorem dX4_sleep_30 : decode cX4_sleep 30 = .ok (.aload_n 0, 1) := by decide +kernel
theorem dX4_sleep_31 : decode cX4_sleep 31 = .ok (.iconst 0, 1) := by decide +kernel
theorem dX4_sleep_32 : decode cX4_sleep 32 = .ok (.putfield 59, 3) := by decide +kernel
theorem dX4_sleep_35 : decode cX4_sleep 35 = .ok (.return_, 1) := by decide +kernel
theorem dX4_replay_0 : decode cX4_replay 0 = .ok (.aload_n 0, 1) := by decide +kernel
theorem dX4_replay_1 : decode cX4_replay 1 = .ok (.getfield 26, 3) := by decide +kernel
theorem dX4_replay_4 : decode cX4_replay 4 = .ok (.aload_n 0, 1) := by decide +kernel
theorem dX4_replay_5 : decode cX4_replay 5 = .ok (.getfield 23, 3) := by decide +kernel
theorem dX4_replay_8 : decode cX4_replay 8 = .ok (.invokevirtual 62, 3) := by decide +kernel
theorem dX4_replay_11 : decode cX4_replay 11 = .ok (.aload_n 0, 1) := by decide +kernel
theorem dX4_replay_12 : decode cX4_replay 12 = .ok (.aload_n 0, 1) := by decide +kernel
theorem dX4_replay_13 : decode cX4_replay 13 = .ok (.getfield 46, 3) := by decide +kernel
theorem dX4_replay_16 : decode cX4_replay 16 = .ok (.putfield 66, 3) := by decide +kernel
theorem dX4_replay_19 : decode cX4_replay 19 = .ok (.aload_n 0, 1) := by decide +kernel
theorem dX4_replay_20 : decode cX4_replay 20 = .ok (.iconst 0, 1) := by decide +kernel
theorem dX4_replay_21 : decode cX4_replay 21 = .ok (.putfield 69, 3) := by decide +kernel
theorem dX4_replay_24 : decode cX4_replay 24 = .ok (.aload_n 0, 1) := by decide +kernel
theorem dX4_replay_25 : decode cX4_replay 25 = .ok (.iconst 0, 1) := by decide +kernel
theorem dX4_replay_26 : decode cX4_replay 26 = .ok (.putfield 72, 3) := by decide +kernel
theorem dX4_replay_29 : decode cX4_replay 29 = .ok (.aload_n 0, 1) := by decide +kernel
theorem dX4_replay_30 : decode cX4_replay 30 = .ok (.invokevirtual 75, 3) := by decide +kernel
theorem dX4_replay_33 : decode cX4_replay 33 = .ok (.iconst 0, 1) := by decide +kernel
theorem dX4_replay_34 : decode cX4_replay 34 = .ok (.istore_n 1, 1) := by decide +kernel
theorem dX4_replay_35 : decode cX4_replay 35 = .ok (.iload_n 1, 1) := by decide +kernel
theorem dX4_replay_36 : decode cX4_replay 36 = .ok (.aload_n 0, 1) := by decide +kernel
theorem dX4_replay_37 : decode cX4_replay 37 = .ok (.getfield 35, 3) := by decide +kernel
theorem dX4_replay_40 : decode cX4_replay 40 = .ok (.getfield 55, 3) := by decide +kernel
theorem dX4_replay_43 : decode cX4_replay 43 = .ok (.if_icmp .ge 21, 3) := by decide +kernel
theorem dX4_replay_46 : decode cX4_replay 46 = .ok (.aload_n 0, 1) := by decide +kernel
theorem dX4_replay_47 : decode cX4_replay 47 = .ok (.aload_n 0, 1) := by decide +kernel
theorem dX4_replay_48 : decode cX4_replay 48 = .ok (.getfield 35, 3) := by decide +kernel
theorem dX4_replay_51 : decode cX4_replay 51 = .ok (.iload_n 1, 1) := by decide +kernel
theorem dX4_replay_52 : decode cX4_replay 52 = .ok (.invokevirtual 78, 3) := by decide +kernel
theorem dX4_replay_55 : decode cX4_replay 55 = .ok (.invokevirtual 82, 3) := by decide +kernel
theorem dX4_replay_58 : decode cX4_replay 58 = .ok (.iinc 1 1, 3) := by decide +kernel
theorem dX4_replay_61 : decode cX4_replay 61 = .ok (.goto (-26), 3) := by decide +kernel
theorem dX4_replay_64 : decode cX4_replay 64 = .ok (.return_, 1) := by decide +kernel
theorem dX4_does_0 : decode cX4_does 0 = .ok (.iload_n 1, 1) := by decide +kernel
theorem dX4_does_1 : decode cX4_does 1 = .ok (.sipush 1000, 3) := by decide +kernel
theorem dX4_does_4 : decode cX4_does 4 = .ok (.imul, 1) := by decide +kernel
theorem dX4_does_5 : decode cX4_does 5 = .ok (.iload_n 2, 1) := by decide +kernel
theorem dX4_does_6 : decode cX4_does 6 = .ok (.bipush 100, 2) := by decide +kernel
theorem dX4_does_8 : decode cX4_does 8 = .ok (.imul, 1) := by decide +kernel
theorem dX4_does_9 : decode cX4_does 9 = .ok (.iadd, 1) := by decide +kernel
theorem dX4_does_10 : decode cX4_does 10 = .ok (.iload_n 3, 1) := by decide +kernel
theorem dX4_does_11 : decode cX4_does 11 = .ok (.iadd, 1) := by decide +kernel
theorem dX4_does_12 : decode cX4_does 12 = .ok (.istore 4, 2) := by decide +kernel
theorem dX4_does_14 : decode cX4_does 14 = .ok (.aload_n 0, 1) := by decide +kernel
theorem dX4_does_15 : decode cX4_does 15 = .ok (.getfield 35, 3) := by decide +kernel
theorem dX4_does_18 : decode cX4_does 18 = .ok (.iload 4, 2) := by decide +kernel
theorem dX4_does_20 : decode cX4_does 20 = .ok (.invokevirtual 52, 3) := by decide +kernel
theorem dX4_does_23 : decode cX4_does 23 = .ok (.aload_n 0, 1) := by decide +kernel
theorem dX4_does_24 : decode cX4_does 24 = .ok (.iload 4, 2) := by decide +kernel
theorem dX4_does_26 : decode cX4_does 26 = .ok (.invokevirtual 82, 3) := by decide +kernel
theorem dX4_does_29 : decode cX4_does 29 = .ok (.return_, 1) := by decide +kernel
theorem dX4_perform_0 : decode cX4_perform 0 = .ok (.iload_n 1, 1) := by decide +kernel
theorem dX4_perform_1 : decode cX4_perform 1 = .ok (.bipush 100, 2) := by decide +kernel
theorem dX4_perform_3 : decode cX4_perform 3 = .ok (.idiv, 1) := by decide +kernel
theorem dX4_perform_4 : decode cX4_perform 4 = .ok (.bipush 10, 2) := by decide +kernel
theorem dX4_perform_6 : decode cX4_perform 6 = .ok (.irem, 1) := by decide +kernel
theorem dX4_perform_7 : decode cX4_perform 7 = .ok (.istore_n 2, 1) := by decide +kernel
theorem dX4_perform_8 : decode cX4_perform 8 = .ok (.iload_n 1, 1) := by decide +kernel
theorem dX4_perform_9 : decode cX4_perform 9 = .ok (.bipush 100, 2) := by decide +kernel
theorem dX4_perform_11 : decode cX4_perform 11 = .ok (.irem, 1) := by decide +kernel
theorem dX4_perform_12 : decode cX4_perform 12 = .ok (.istore_n 3, 1) := by decide +kernel
theorem dX4_perform_13 : decode cX4_perform 13 = .ok (.iload_n 1, 1) := by decide +kernel
theorem dX4_perform_14 : decode cX4_perform 14 = .ok (.sipush 1000, 3) := by decide +kernel
theorem dX4_perform_17 : decode cX4_perform 17 = .ok (.idiv, 1) := by decide +kernel
theorem dX4_perform_18 : decode cX4_perform 18 = .ok (.tableswitch 106 0 3 #[30, 56, 77, 98], 30) := by decide +kernel
theorem dX4_perform_48 : decode cX4_perform 48 = .ok (.aload_n 0, 1) := by decide +kernel
theorem dX4_perform_49 : decode cX4_perform 49 = .ok (.dup, 1) := by decide +kernel
theorem dX4_perform_50 : decode cX4_perform 50 = .ok (.getfield 56, 3) := by decide +kernel
theorem dX4_perform_53 : decode cX4_perform 53 = .ok (.iload_n 2, 1) := by decide +kernel
theorem dX4_perform_54 : decode cX4_perform 54 = .ok (.aload_n 0, 1) := by decide +kernel
theorem dX4_perform_55 : decode cX4_perform 55 = .ok (.getfield 59, 3) := by decide +kernel
theorem dX4_perform_58 : decode cX4_perform 58 = .ok (.isub, 1) := by decide +kernel
theorem dX4_perform_59 : decode cX4_perform 59 = .ok (.invokestatic 89, 3) := by decide +kernel
theorem dX4_perform_62 : decode cX4_perform 62 = .ok (.iadd, 1) := by decide +kernel
theorem dX4_perform_63 : decode cX4_perform 63 = .ok (.putfield 56, 3) := by decide +kernel
theorem dX4_perform_66 : decode cX4_perform 66 = .ok (.aload_n 0, 1) := by decide +kernel
theorem dX4_perform_67 : decode cX4_perform 67 = .ok (.iload_n 2, 1) := by decide +kernel
theorem dX4_perform_68 : decode cX4_perform 68 = .ok (.putfield 59, 3) := by decide +kernel
theorem dX4_perform_71 : decode cX4_perform 71 = .ok (.goto 67, 3) := by decide +kernel
theorem dX4_perform_74 : decode cX4_perform 74 = .ok (.aload_n 0, 1) := by decide +kernel
theorem dX4_perform_75 : decode cX4_perform 75 = .ok (.dup, 1) := by decide +kernel
theorem dX4_perform_76 : decode cX4_perform 76 = .ok (.getfield 56, 3) := by decide +kernel
theorem dX4_perform_79 : decode cX4_perform 79 = .ok (.iconst 1, 1) := by decide +kernel
theorem dX4_perform_80 : decode cX4_perform 80 = .ok (.iadd, 1) := by decide +kernel
theorem dX4_perform_81 : decode cX4_perform 81 = .ok (.putfield 56, 3) := by decide +kernel
theorem dX4_perform_84 : decode cX4_perform 84 = .ok (.aload_n 0, 1) := by decide +kernel
theorem dX4_perform_85 : decode cX4_perform 85 = .ok (.aload_n 0, 1) := by decide +kernel
theorem dX4_perform_86 : decode cX4_perform 86 = .ok (.getfield 59, 3) := by decide +kernel
theorem dX4_perform_89 : decode cX4_perform 89 = .ok (.invokevirtual 94, 3) := by decide +kernel
theorem dX4_perform_92 : decode cX4_perform 92 = .ok (.goto 46, 3) := by decide +kernel
theorem dX4_perform_95 : decode cX4_perform 95 = .ok (.aload_n 0, 1) := by decide +kernel
theorem dX4_perform_96 : decode cX4_perform 96 = .ok (.getfield 26, 3) := by decide +kernel
theorem dX4_perform_99 : decode cX4_perform 99 = .ok (.iload_n 2, 1) := by decide +kernel
theorem dX4_perform_100 : decode cX4_perform 100 = .ok (.iload_n 3, 1) := by decide +kernel
theorem dX4_perform_101 : decode cX4_perform 101 = .ok (.invokevirtual 97, 3) := by decide +kernel
theorem dX4_perform_104 : decode cX4_perform 104 = .ok (.aload_n 0, 1) := by decide +kernel
theorem dX4_perform_105 : decode cX4_perform 105 = .ok (.getfield 29, 3) := by decide +kernel
theorem dX4_perform_108 : decode cX4_perform 108 = .ok (.iload_n 2, 1) := by decide +kernel
theorem dX4_perform_109 : decode cX4_perform 109 = .ok (.iconst 0, 1) := by decide +kernel
theorem dX4_perform_110 : decode cX4_perform 110 = .ok (.invokevirtual 97, 3) := by decide +kernel
theorem dX4_perform_113 : decode cX4_perform 113 = .ok (.goto 25, 3) := by decide +kernel
theorem dX4_perform_116 : decode cX4_perform 116 = .ok (.aload_n 0, 1) := by decide +kernel
theorem dX4_perform_117 : decode cX4_perform 117 = .ok (.iload_n 3, 1) := by decide +kernel
theorem dX4_perform_118 : decode cX4_perform 118 = .ok (.putfield 66, 3) := by decide +kernel
theorem dX4_perform_121 : decode cX4_perform 121 = .ok (.goto 17, 3) := by decide +kernel
theorem dX4_perform_124 : decode cX4_perform 124 = .ok (.aload_n 0, 1) := by decide +kernel
theorem dX4_perform_125 : decode cX4_perform 125 = .ok (.dup, 1) := by decide +kernel
theorem dX4_perform_126 : decode cX4_perform 126 = .ok (.getfield 69, 3) := by decide +kernel
theorem dX4_perform_129 : decode cX4_perform 129 = .ok (.iconst 1, 1) := by decide +kernel
theorem dX4_perform_130 : decode cX4_perform 130 = .ok (.iadd, 1) := by decide +kernel
theorem dX4_perform_131 : decode cX4_perform 131 = .ok (.putfield 69, 3) := by decide +kernel
theorem dX4_perform_134 : decode cX4_perform 134 = .ok (.aload_n 0, 1) := by decide +kernel
theorem dX4_perform_135 : decode cX4_perform 135 = .ok (.invokevirtual 75, 3) := by decide +kernel
theorem dX4_perform_138 : decode cX4_perform 138 = .ok (.return_, 1) := by decide +kernel
theorem dX4_hear_0 : decode cX4_hear 0 = .ok (.aload_n 0, 1) := by decide +kernel
theorem dX4_hear_1 : decode cX4_hear 1 = .ok (.getfield 29, 3) := by decide +kernel
theorem dX4_hear_4 : decode cX4_hear 4 = .ok (.iload_n 1, 1) := by decide +kernel
theorem dX4_hear_5 : decode cX4_hear 5 = .ok (.aload_n 0, 1) := by decide +kernel
theorem dX4_hear_6 : decode cX4_hear 6 = .ok (.getfield 29, 3) := by decide +kernel
theorem dX4_hear_9 : decode cX4_hear 9 = .ok (.iload_n 1, 1) := by decide +kernel
theorem dX4_hear_10 : decode cX4_hear 10 = .ok (.invokevirtual 78, 3) := by decide +kernel
theorem dX4_hear_13 : decode cX4_hear 13 = .ok (.iconst 1, 1) := by decide +kernel
theorem dX4_hear_14 : decode cX4_hear 14 = .ok (.iadd, 1) := by decide +kernel
theorem dX4_hear_15 : decode cX4_hear 15 = .ok (.invokevirtual 97, 3) := by decide +kernel
theorem dX4_hear_18 : decode cX4_hear 18 = .ok (.aload_n 0, 1) := by decide +kernel
theorem dX4_hear_19 : decode cX4_hear 19 = .ok (.iload_n 1, 1) := by decide +kernel
theorem dX4_hear_20 : decode cX4_hear 20 = .ok (.aload_n 0, 1) := by decide +kernel
theorem dX4_hear_21 : decode cX4_hear 21 = .ok (.getfield 26, 3) := by decide +kernel
theorem dX4_hear_24 : decode cX4_hear 24 = .ok (.iload_n 1, 1) := by decide +kernel
theorem dX4_hear_25 : decode cX4_hear 25 = .ok (.invokevirtual 78, 3) := by decide +kernel
theorem dX4_hear_28 : decode cX4_hear 28 = .ok (.invokevirtual 100, 3) := by decide +kernel
theorem dX4_hear_31 : decode cX4_hear 31 = .ok (.istore_n 2, 1) := by decide +kernel
theorem dX4_hear_32 : decode cX4_hear 32 = .ok (.aload_n 0, 1) := by decide +kernel
theorem dX4_hear_33 : decode cX4_hear 33 = .ok (.iload_n 1, 1) := by decide +kernel
theorem dX4_hear_34 : decode cX4_hear 34 = .ok (.invokevirtual 104, 3) := by decide +kernel
theorem dX4_hear_37 : decode cX4_hear 37 = .ok (.ifCond .ne 57, 3) := by decide +kernel
theorem dX4_hear_40 : decode cX4_hear 40 = .ok (.iload_n 2, 1) := by decide +kernel
theorem dX4_hear_41 : decode cX4_hear 41 = .ok (.bipush (-9), 2) := by decide +kernel
theorem dX4_hear_43 : decode cX4_hear 43 = .ok (.if_icmp .eq 51, 3) := by decide +kernel
theorem dX4_hear_46 : decode cX4_hear 46 = .ok (.aload_n 0, 1) := by decide +kernel
theorem dX4_hear_47 : decode cX4_hear 47 = .ok (.getfield 29, 3) := by decide +kernel
theorem dX4_hear_50 : decode cX4_hear 50 = .ok (.iload_n 1, 1) := by decide +kernel
theorem dX4_hear_51 : decode cX4_hear 51 = .ok (.invokevirtual 78, 3) := by decide +kernel
theorem dX4_hear_54 : decode cX4_hear 54 = .ok (.iload_n 2, 1) := by decide +kernel
theorem dX4_hear_55 : decode cX4_hear 55 = .ok (.if_icmp .lt 39, 3) := by decide +kernel
theorem dX4_hear_58 : decode cX4_hear 58 = .ok (.aload_n 0, 1) := by decide +kernel
theorem dX4_hear_59 : decode cX4_hear 59 = .ok (.getfield 32, 3) := by decide +kernel
theorem dX4_hear_62 : decode cX4_hear 62 = .ok (.iload_n 1, 1) := by decide +kernel
theorem dX4_hear_63 : decode cX4_hear 63 = .ok (.aload_n 0, 1) := by decide +kernel
theorem dX4_hear_64 : decode cX4_hear 64 = .ok (.getfield 26, 3) := by decide +kernel
theorem dX4_hear_67 : decode cX4_hear 67 = .ok (.iload_n 1, 1) := by decide +kernel
theorem dX4_hear_68 : decode cX4_hear 68 = .ok (.invokevirtual 78, 3) := by decide +kernel
theorem dX4_hear_71 : decode cX4_hear 71 = .ok (.invokevirtual 97, 3) := by decide +kernel
theorem dX4_hear_74 : decode cX4_hear 74 = .ok (.aload_n 0, 1) := by decide +kernel
theorem dX4_hear_75 : decode cX4_hear 75 = .ok (.sipush 9999, 3) := by decide +kernel
theorem dX4_hear_78 : decode cX4_hear 78 = .ok (.aload_n 0, 1) := by decide +kernel
theorem dX4_hear_79 : decode cX4_hear 79 = .ok (.getfield 72, 3) := by decide +kernel
theorem dX4_hear_82 : decode cX4_hear 82 = .ok (.aload_n 0, 1) := by decide +kernel
theorem dX4_hear_83 : decode cX4_hear 83 = .ok (.iload_n 1, 1) := by decide +kernel
theorem dX4_hear_84 : decode cX4_hear 84 = .ok (.invokevirtual 108, 3) := by decide +kernel
theorem dX4_hear_87 : decode cX4_hear 87 = .ok (.iadd, 1) := by decide +kernel
theorem dX4_hear_88 : decode cX4_hear 88 = .ok (.invokestatic 111, 3) := by decide +kernel
theorem dX4_hear_91 : decode cX4_hear 91 = .ok (.putfield 72, 3) := by decide +kernel
theorem dX4_hear_94 : decode cX4_hear 94 = .ok (.return_, 1) := by decide +kernel
theorem dX4_isHouse_0 : decode cX4_isHouse 0 = .ok (.iload_n 1, 1) := by decide +kernel
theorem dX4_isHouse_1 : decode cX4_isHouse 1 = .ok (.ifCond .lt 15, 3) := by decide +kernel
theorem dX4_isHouse_4 : decode cX4_isHouse 4 = .ok (.iload_n 1, 1) := by decide +kernel
theorem dX4_isHouse_5 : decode cX4_isHouse 5 = .ok (.aload_n 0, 1) := by decide +kernel
theorem dX4_isHouse_6 : decode cX4_isHouse 6 = .ok (.getfield 42, 3) := by decide +kernel
theorem dX4_isHouse_9 : decode cX4_isHouse 9 = .ok (.if_icmp .ge 7, 3) := by decide +kernel
theorem dX4_isHouse_12 : decode cX4_isHouse 12 = .ok (.iconst 1, 1) := by decide +kernel
theorem dX4_isHouse_13 : decode cX4_isHouse 13 = .ok (.goto 4, 3) := by decide +kernel
theorem dX4_isHouse_16 : decode cX4_isHouse 16 = .ok (.iconst 0, 1) := by decide +kernel
theorem dX4_isHouse_17 : decode cX4_isHouse 17 = .ok (.ireturn, 1) := by decide +kernel
theorem dX4_isSet_0 : decode cX4_isSet 0 = .ok (.iload_n 1, 1) := by decide +kernel
theorem dX4_isSet_1 : decode cX4_isSet 1 = .ok (.ifCond .lt 17, 3) := by decide +kernel
theorem dX4_isSet_4 : decode cX4_isSet 4 = .ok (.iload_n 1, 1) := by decide +kernel
theorem dX4_isSet_5 : decode cX4_isSet 5 = .ok (.iconst 1, 1) := by decide +kernel
theorem dX4_isSet_6 : decode cX4_isSet 6 = .ok (.aload_n 0, 1) := by decide +kernel
theorem dX4_isSet_7 : decode cX4_isSet 7 = .ok (.getfield 42, 3) := by decide +kernel
theorem dX4_isSet_10 : decode cX4_isSet 10 = .ok (.ishl, 1) := by decide +kernel
theorem dX4_isSet_11 : decode cX4_isSet 11 = .ok (.if_icmp .ge 7, 3) := by decide +kernel
theorem dX4_isSet_14 : decode cX4_isSet 14 = .ok (.iconst 1, 1) := by decide +kernel
theorem dX4_isSet_15 : decode cX4_isSet 15 = .ok (.goto 4, 3) := by decide +kernel
theorem dX4_isSet_18 : decode cX4_isSet 18 = .ok (.iconst 0, 1) := by decide +kernel
theorem dX4_isSet_19 : decode cX4_isSet 19 = .ok (.ireturn, 1) := by decide +kernel
theorem dX4_isAwake_0 : decode cX4_isAwake 0 = .ok (.aload_n 0, 1) := by decide +kernel
theorem dX4_isAwake_1 : decode cX4_isAwake 1 = .ok (.iload_n 1, 1) := by decide +kernel
theorem dX4_isAwake_2 : decode cX4_isAwake 2 = .ok (.invokevirtual 114, 3) := by decide +kernel
theorem dX4_isAwake_5 : decode cX4_isAwake 5 = .ok (.ifCond .eq 20, 3) := by decide +kernel
theorem dX4_isAwake_8 : decode cX4_isAwake 8 = .ok (.aload_n 0, 1) := by decide +kernel
theorem dX4_isAwake_9 : decode cX4_isAwake 9 = .ok (.getfield 32, 3) := by decide +kernel
theorem dX4_isAwake_12 : decode cX4_isAwake 12 = .ok (.iload_n 1, 1) := by decide +kernel
theorem dX4_isAwake_13 : decode cX4_isAwake 13 = .ok (.invokevirtual 78, 3) := by decide +kernel
theorem dX4_isAwake_16 : decode cX4_isAwake 16 = .ok (.bipush (-9), 2) := by decide +kernel
theorem dX4_isAwake_18 : decode cX4_isAwake 18 = .ok (.if_icmp .eq 7, 3) := by decide +kernel
theorem dX4_isAwake_21 : decode cX4_isAwake 21 = .ok (.iconst 1, 1) := by decide +kernel
theorem dX4_isAwake_22 : decode cX4_isAwake 22 = .ok (.goto 4, 3) := by decide +kernel
theorem dX4_isAwake_25 : decode cX4_isAwake 25 = .ok (.iconst 0, 1) := by decide +kernel
theorem dX4_isAwake_26 : decode cX4_isAwake 26 = .ok (.ireturn, 1) := by decide +kernel
theorem dX4_tapsFor_0 : decode cX4_tapsFor 0 = .ok (.aload_n 0, 1) := by decide +kernel
theorem dX4_tapsFor_1 : decode cX4_tapsFor 1 = .ok (.getfield 14, 3) := by decide +kernel
theorem dX4_tapsFor_4 : decode cX4_tapsFor 4 = .ok (.iload_n 1, 1) := by decide +kernel
theorem dX4_tapsFor_5 : decode cX4_tapsFor 5 = .ok (.invokevirtual 78, 3) := by decide +kernel
theorem dX4_tapsFor_8 : decode cX4_tapsFor 8 = .ok (.iload_n 2, 1) := by decide +kernel
theorem dX4_tapsFor_9 : decode cX4_tapsFor 9 = .ok (.aload_n 0, 1) := by decide +kernel
theorem dX4_tapsFor_10 : decode cX4_tapsFor 10 = .ok (.getfield 66, 3) := by decide +kernel
theorem dX4_tapsFor_13 : decode cX4_tapsFor 13 = .ok (.invokestatic 117, 3) := by decide +kernel
theorem dX4_tapsFor_16 : decode cX4_tapsFor 16 = .ok (.ireturn, 1) := by decide +kernel
theorem dX4_fee_0 : decode cX4_fee 0 = .ok (.aload_n 0, 1) := by decide +kernel
theorem dX4_fee_1 : decode cX4_fee 1 = .ok (.getfield 14, 3) := by decide +kernel
theorem dX4_fee_4 : decode cX4_fee 4 = .ok (.iload_n 1, 1) := by decide +kernel
theorem dX4_fee_5 : decode cX4_fee 5 = .ok (.invokevirtual 78, 3) := by decide +kernel
theorem dX4_fee_8 : decode cX4_fee 8 = .ok (.invokestatic 123, 3) := by decide +kernel
theorem dX4_fee_11 : decode cX4_fee 11 = .ok (.ireturn, 1) := by decide +kernel
theorem dX4_more_0 : decode cX4_more 0 = .ok (.aload_n 0, 1) := by decide +kernel
theorem dX4_more_1 : decode cX4_more 1 = .ok (.iload_n 1, 1) := by decide +kernel
theorem dX4_more_2 : decode cX4_more 2 = .ok (.invokevirtual 104, 3) := by decide +kernel
theorem dX4_more_5 : decode cX4_more 5 = .ok (.ifCond .eq 5, 3) := by decide +kernel
theorem dX4_more_8 : decode cX4_more 8 = .ok (.iconst 0, 1) := by decide +kernel
theorem dX4_more_9 : decode cX4_more 9 = .ok (.ireturn, 1) := by decide +kernel
theorem dX4_more_10 : decode cX4_more 10 = .ok (.aload_n 0, 1) := by decide +kernel
theorem dX4_more_11 : decode cX4_more 11 = .ok (.iload_n 1, 1) := by decide +kernel
theorem dX4_more_12 : decode cX4_more 12 = .ok (.aload_n 0, 1) := by decide +kernel
theorem dX4_more_13 : decode cX4_more 13 = .ok (.getfield 26, 3) := by decide +kernel
theorem dX4_more_16 : decode cX4_more 16 = .ok (.iload_n 1, 1) := by decide +kernel
theorem dX4_more_17 : decode cX4_more 17 = .ok (.invokevirtual 78, 3) := by decide +kernel
theorem dX4_more_20 : decode cX4_more 20 = .ok (.invokevirtual 100, 3) := by decide +kernel
theorem dX4_more_23 : decode cX4_more 23 = .ok (.istore_n 2, 1) := by decide +kernel
theorem dX4_more_24 : decode cX4_more 24 = .ok (.iload_n 2, 1) := by decide +kernel
theorem dX4_more_25 : decode cX4_more 25 = .ok (.bipush (-9), 2) := by decide +kernel
theorem dX4_more_27 : decode cX4_more 27 = .ok (.if_icmp .ne 8, 3) := by decide +kernel
theorem dX4_more_30 : decode cX4_more 30 = .ok (.bipush (-9), 2) := by decide +kernel
theorem dX4_more_32 : decode cX4_more 32 = .ok (.goto 17, 3) := by decide +kernel
theorem dX4_more_35 : decode cX4_more 35 = .ok (.iconst 1, 1) := by decide +kernel
theorem dX4_more_36 : decode cX4_more 36 = .ok (.iload_n 2, 1) := by decide +kernel
theorem dX4_more_37 : decode cX4_more 37 = .ok (.aload_n 0, 1) := by decide +kernel
theorem dX4_more_38 : decode cX4_more 38 = .ok (.getfield 29, 3) := by decide +kernel
theorem dX4_more_41 : decode cX4_more 41 = .ok (.iload_n 1, 1) := by decide +kernel
theorem dX4_more_42 : decode cX4_more 42 = .ok (.invokevirtual 78, 3) := by decide +kernel
theorem dX4_more_45 : decode cX4_more 45 = .ok (.isub, 1) := by decide +kernel
theorem dX4_more_46 : decode cX4_more 46 = .ok (.invokestatic 124, 3) := by decide +kernel
theorem dX4_more_49 : decode cX4_more 49 = .ok (.ireturn, 1) := by decide +kernel
theorem dX4_tell_0 : decode cX4_tell 0 = .ok (.iload_n 2, 1) := by decide +kernel
theorem dX4_tell_1 : decode cX4_tell 1 = .ok (.tableswitch 80 0 4 #[35, 44, 53, 62, 71], 35) := by decide +kernel
theorem dX4_tell_36 : decode cX4_tell 36 = .ok (.aload_n 0, 1) := by decide +kernel
theorem dX4_tell_37 : decode cX4_tell 37 = .ok (.getfield 14, 3) := by decide +kernel
theorem dX4_tell_40 : decode cX4_tell 40 = .ok (.iload_n 1, 1) := by decide +kernel
theorem dX4_tell_41 : decode cX4_tell 41 = .ok (.invokevirtual 78, 3) := by decide +kernel
theorem dX4_tell_44 : decode cX4_tell 44 = .ok (.ireturn, 1) := by decide +kernel
theorem dX4_tell_45 : decode cX4_tell 45 = .ok (.aload_n 0, 1) := by decide +kernel
theorem dX4_tell_46 : decode cX4_tell 46 = .ok (.getfield 26, 3) := by decide +kernel
theorem dX4_tell_49 : decode cX4_tell 49 = .ok (.iload_n 1, 1) := by decide +kernel
theorem dX4_tell_50 : decode cX4_tell 50 = .ok (.invokevirtual 78, 3) := by decide +kernel
theorem dX4_tell_53 : decode cX4_tell 53 = .ok (.ireturn, 1) := by decide +kernel
theorem dX4_tell_54 : decode cX4_tell 54 = .ok (.aload_n 0, 1) := by decide +kernel
theorem dX4_tell_55 : decode cX4_tell 55 = .ok (.getfield 20, 3) := by decide +kernel
theorem dX4_tell_58 : decode cX4_tell 58 = .ok (.iload_n 1, 1) := by decide +kernel
theorem dX4_tell_59 : decode cX4_tell 59 = .ok (.invokevirtual 78, 3) := by decide +kernel
theorem dX4_tell_62 : decode cX4_tell 62 = .ok (.ireturn, 1) := by decide +kernel
theorem dX4_tell_63 : decode cX4_tell 63 = .ok (.aload_n 0, 1) := by decide +kernel
theorem dX4_tell_64 : decode cX4_tell 64 = .ok (.getfield 29, 3) := by decide +kernel
theorem dX4_tell_67 : decode cX4_tell 67 = .ok (.iload_n 1, 1) := by decide +kernel
theorem dX4_tell_68 : decode cX4_tell 68 = .ok (.invokevirtual 78, 3) := by decide +kernel
theorem dX4_tell_71 : decode cX4_tell 71 = .ok (.ireturn, 1) := by decide +kernel
theorem dX4_tell_72 : decode cX4_tell 72 = .ok (.aload_n 0, 1) := by decide +kernel
theorem dX4_tell_73 : decode cX4_tell 73 = .ok (.getfield 32, 3) := by decide +kernel
theorem dX4_tell_76 : decode cX4_tell 76 = .ok (.iload_n 1, 1) := by decide +kernel
theorem dX4_tell_77 : decode cX4_tell 77 = .ok (.invokevirtual 78, 3) := by decide +kernel
theorem dX4_tell_80 : decode cX4_tell 80 = .ok (.ireturn, 1) := by decide +kernel
theorem dX4_tell_81 : decode cX4_tell 81 = .ok (.aload_n 0, 1) := by decide +kernel
theorem dX4_tell_82 : decode cX4_tell 82 = .ok (.iload_n 1, 1) := by decide +kernel
theorem dX4_tell_83 : decode cX4_tell 83 = .ok (.invokevirtual 127, 3) := by decide +kernel
theorem dX4_tell_86 : decode cX4_tell 86 = .ok (.ireturn, 1) := by decide +kernel
theorem dX4_awakeSet_0 : decode cX4_awakeSet 0 = .ok (.iconst 0, 1) := by decide +kernel
theorem dX4_awakeSet_1 : decode cX4_awakeSet 1 = .ok (.istore_n 1, 1) := by decide +kernel
theorem dX4_awakeSet_2 : decode cX4_awakeSet 2 = .ok (.iconst 0, 1) := by decide +kernel
theorem dX4_awakeSet_3 : decode cX4_awakeSet 3 = .ok (.istore_n 2, 1) := by decide +kernel
theorem dX4_awakeSet_4 : decode cX4_awakeSet 4 = .ok (.iload_n 2, 1) := by decide +kernel
theorem dX4_awakeSet_5 : decode cX4_awakeSet 5 = .ok (.aload_n 0, 1) := by decide +kernel
theorem dX4_awakeSet_6 : decode cX4_awakeSet 6 = .ok (.getfield 42, 3) := by decide +kernel
theorem dX4_awakeSet_9 : decode cX4_awakeSet 9 = .ok (.if_icmp .ge 23, 3) := by decide +kernel
theorem dX4_awakeSet_12 : decode cX4_awakeSet 12 = .ok (.aload_n 0, 1) := by decide +kernel
theorem dX4_awakeSet_13 : decode cX4_awakeSet 13 = .ok (.iload_n 2, 1) := by decide +kernel
theorem dX4_awakeSet_14 : decode cX4_awakeSet 14 = .ok (.invokevirtual 104, 3) := by decide +kernel
theorem dX4_awakeSet_17 : decode cX4_awakeSet 17 = .ok (.ifCond .eq 9, 3) := by decide +kernel
theorem dX4_awakeSet_20 : decode cX4_awakeSet 20 = .ok (.iload_n 1, 1) := by decide +kernel
theorem dX4_awakeSet_21 : decode cX4_awakeSet 21 = .ok (.iconst 1, 1) := by decide +kernel
theorem dX4_awakeSet_22 : decode cX4_awakeSet 22 = .ok (.iload_n 2, 1) := by decide +kernel
theorem dX4_awakeSet_23 : decode cX4_awakeSet 23 = .ok (.ishl, 1) := by decide +kernel
theorem dX4_awakeSet_24 : decode cX4_awakeSet 24 = .ok (.ior, 1) := by decide +kernel
theorem dX4_awakeSet_25 : decode cX4_awakeSet 25 = .ok (.istore_n 1, 1) := by decide +kernel
theorem dX4_awakeSet_26 : decode cX4_awakeSet 26 = .ok (.iinc 2 1, 3) := by decide +kernel
theorem dX4_awakeSet_29 : decode cX4_awakeSet 29 = .ok (.goto (-25), 3) := by decide +kernel
theorem dX4_awakeSet_32 : decode cX4_awakeSet 32 = .ok (.iload_n 1, 1) := by decide +kernel
theorem dX4_awakeSet_33 : decode cX4_awakeSet 33 = .ok (.ireturn, 1) := by decide +kernel
theorem dX4_canWake_0 : decode cX4_canWake 0 = .ok (.iconst 0, 1) := by decide +kernel
theorem dX4_canWake_1 : decode cX4_canWake 1 = .ok (.istore_n 2, 1) := by decide +kernel
theorem dX4_canWake_2 : decode cX4_canWake 2 = .ok (.iload_n 2, 1) := by decide +kernel
theorem dX4_canWake_3 : decode cX4_canWake 3 = .ok (.aload_n 0, 1) := by decide +kernel
theorem dX4_canWake_4 : decode cX4_canWake 4 = .ok (.getfield 42, 3) := by decide +kernel
theorem dX4_canWake_7 : decode cX4_canWake 7 = .ok (.if_icmp .ge 27, 3) := by decide +kernel
theorem dX4_canWake_10 : decode cX4_canWake 10 = .ok (.iload_n 1, 1) := by decide +kernel
theorem dX4_canWake_11 : decode cX4_canWake 11 = .ok (.iload_n 2, 1) := by decide +kernel
theorem dX4_canWake_12 : decode cX4_canWake 12 = .ok (.invokestatic 130, 3) := by decide +kernel
theorem dX4_canWake_15 : decode cX4_canWake 15 = .ok (.ifCond .eq 13, 3) := by decide +kernel
theorem dX4_canWake_18 : decode cX4_canWake 18 = .ok (.aload_n 0, 1) := by decide +kernel
theorem dX4_canWake_19 : decode cX4_canWake 19 = .ok (.iload_n 2, 1) := by decide +kernel
theorem dX4_canWake_20 : decode cX4_canWake 20 = .ok (.invokevirtual 127, 3) := by decide +kernel
theorem dX4_canWake_23 : decode cX4_canWake 23 = .ok (.ifCond .gt 5, 3) := by decide +kernel
theorem dX4_canWake_26 : decode cX4_canWake 26 = .ok (.iconst 0, 1) := by decide +kernel
theorem dX4_canWake_27 : decode cX4_canWake 27 = .ok (.ireturn, 1) := by decide +kernel
theorem dX4_canWake_28 : decode cX4_canWake 28 = .ok (.iinc 2 1, 3) := by decide +kernel
theorem dX4_canWake_31 : decode cX4_canWake 31 = .ok (.goto (-29), 3) := by decide +kernel
theorem dX4_canWake_34 : decode cX4_canWake 34 = .ok (.iconst 1, 1) := by decide +kernel
theorem dX4_canWake_35 : decode cX4_canWake 35 = .ok (.ireturn, 1) := by decide +kernel
theorem dX4_tapsLeft_0 : decode cX4_tapsLeft 0 = .ok (.iconst 0, 1) := by decide +kernel
theorem dX4_tapsLeft_1 : decode cX4_tapsLeft 1 = .ok (.istore_n 2, 1) := by decide +kernel
theorem dX4_tapsLeft_2 : decode cX4_tapsLeft 2 = .ok (.iconst 0, 1) := by decide +kernel
theorem dX4_tapsLeft_3 : decode cX4_tapsLeft 3 = .ok (.istore_n 3, 1) := by decide +kernel
theorem dX4_tapsLeft_4 : decode cX4_tapsLeft 4 = .ok (.iload_n 3, 1) := by decide +kernel
theorem dX4_tapsLeft_5 : decode cX4_tapsLeft 5 = .ok (.aload_n 0, 1) := by decide +kernel
theorem dX4_tapsLeft_6 : decode cX4_tapsLeft 6 = .ok (.getfield 42, 3) := by decide +kernel
theorem dX4_tapsLeft_9 : decode cX4_tapsLeft 9 = .ok (.if_icmp .ge 33, 3) := by decide +kernel
theorem dX4_tapsLeft_12 : decode cX4_tapsLeft 12 = .ok (.iload_n 2, 1) := by decide +kernel
theorem dX4_tapsLeft_13 : decode cX4_tapsLeft 13 = .ok (.iload_n 1, 1) := by decide +kernel
theorem dX4_tapsLeft_14 : decode cX4_tapsLeft 14 = .ok (.iload_n 3, 1) := by decide +kernel
theorem dX4_tapsLeft_15 : decode cX4_tapsLeft 15 = .ok (.invokestatic 130, 3) := by decide +kernel
theorem dX4_tapsLeft_18 : decode cX4_tapsLeft 18 = .ok (.ifCond .eq 15, 3) := by decide +kernel
theorem dX4_tapsLeft_21 : decode cX4_tapsLeft 21 = .ok (.iconst 0, 1) := by decide +kernel
theorem dX4_tapsLeft_22 : decode cX4_tapsLeft 22 = .ok (.aload_n 0, 1) := by decide +kernel
theorem dX4_tapsLeft_23 : decode cX4_tapsLeft 23 = .ok (.iload_n 3, 1) := by decide +kernel
theorem dX4_tapsLeft_24 : decode cX4_tapsLeft 24 = .ok (.invokevirtual 127, 3) := by decide +kernel
theorem dX4_tapsLeft_27 : decode cX4_tapsLeft 27 = .ok (.invokestatic 124, 3) := by decide +kernel
theorem dX4_tapsLeft_30 : decode cX4_tapsLeft 30 = .ok (.goto 4, 3) := by decide +kernel
theorem dX4_tapsLeft_33 : decode cX4_tapsLeft 33 = .ok (.iconst 0, 1) := by decide +kernel
theorem dX4_tapsLeft_34 : decode cX4_tapsLeft 34 = .ok (.iadd, 1) := by decide +kernel
theorem dX4_tapsLeft_35 : decode cX4_tapsLeft 35 = .ok (.istore_n 2, 1) := by decide +kernel
theorem dX4_tapsLeft_36 : decode cX4_tapsLeft 36 = .ok (.iinc 3 1, 3) := by decide +kernel
theorem dX4_tapsLeft_39 : decode cX4_tapsLeft 39 = .ok (.goto (-35), 3) := by decide +kernel
theorem dX4_tapsLeft_42 : decode cX4_tapsLeft 42 = .ok (.iload_n 2, 1) := by decide +kernel
theorem dX4_tapsLeft_43 : decode cX4_tapsLeft 43 = .ok (.ireturn, 1) := by decide +kernel
theorem dX4_fees_0 : decode cX4_fees 0 = .ok (.iconst 0, 1) := by decide +kernel
theorem dX4_fees_1 : decode cX4_fees 1 = .ok (.istore_n 2, 1) := by decide +kernel
theorem dX4_fees_2 : decode cX4_fees 2 = .ok (.iconst 0, 1) := by decide +kernel
theorem dX4_fees_3 : decode cX4_fees 3 = .ok (.istore_n 3, 1) := by decide +kernel
theorem dX4_fees_4 : decode cX4_fees 4 = .ok (.iload_n 3, 1) := by decide +kernel
theorem dX4_fees_5 : decode cX4_fees 5 = .ok (.aload_n 0, 1) := by decide +kernel
theorem dX4_fees_6 : decode cX4_fees 6 = .ok (.getfield 42, 3) := by decide +kernel
theorem dX4_fees_9 : decode cX4_fees 9 = .ok (.if_icmp .ge 29, 3) := by decide +kernel
theorem dX4_fees_12 : decode cX4_fees 12 = .ok (.iload_n 2, 1) := by decide +kernel
theorem dX4_fees_13 : decode cX4_fees 13 = .ok (.iload_n 1, 1) := by decide +kernel
theorem dX4_fees_14 : decode cX4_fees 14 = .ok (.iload_n 3, 1) := by decide +kernel
theorem dX4_fees_15 : decode cX4_fees 15 = .ok (.invokestatic 130, 3) := by decide +kernel
theorem dX4_fees_18 : decode cX4_fees 18 = .ok (.ifCond .eq 11, 3) := by decide +kernel
theorem dX4_fees_21 : decode cX4_fees 21 = .ok (.aload_n 0, 1) := by decide +kernel
theorem dX4_fees_22 : decode cX4_fees 22 = .ok (.iload_n 3, 1) := by decide +kernel
theorem dX4_fees_23 : decode cX4_fees 23 = .ok (.invokevirtual 108, 3) := by decide +kernel
theorem dX4_fees_26 : decode cX4_fees 26 = .ok (.goto 4, 3) := by decide +kernel
theorem dX4_fees_29 : decode cX4_fees 29 = .ok (.iconst 0, 1) := by decide +kernel
theorem dX4_fees_30 : decode cX4_fees 30 = .ok (.iadd, 1) := by decide +kernel
theorem dX4_fees_31 : decode cX4_fees 31 = .ok (.istore_n 2, 1) := by decide +kernel
theorem dX4_fees_32 : decode cX4_fees 32 = .ok (.iinc 3 1, 3) := by decide +kernel
theorem dX4_fees_35 : decode cX4_fees 35 = .ok (.goto (-31), 3) := by decide +kernel
theorem dX4_fees_38 : decode cX4_fees 38 = .ok (.iload_n 2, 1) := by decide +kernel
theorem dX4_fees_39 : decode cX4_fees 39 = .ok (.ireturn, 1) := by decide +kernel
theorem dX4_manyOf_0 : decode cX4_manyOf 0 = .ok (.iconst 0, 1) := by decide +kernel
theorem dX4_manyOf_1 : decode cX4_manyOf 1 = .ok (.istore_n 2, 1) := by decide +kernel
theorem dX4_manyOf_2 : decode cX4_manyOf 2 = .ok (.iconst 0, 1) := by decide +kernel
theorem dX4_manyOf_3 : decode cX4_manyOf 3 = .ok (.istore_n 3, 1) := by decide +kernel
theorem dX4_manyOf_4 : decode cX4_manyOf 4 = .ok (.iload_n 3, 1) := by decide +kernel
theorem dX4_manyOf_5 : decode cX4_manyOf 5 = .ok (.aload_n 0, 1) := by decide +kernel
theorem dX4_manyOf_6 : decode cX4_manyOf 6 = .ok (.getfield 42, 3) := by decide +kernel
theorem dX4_manyOf_9 : decode cX4_manyOf 9 = .ok (.if_icmp .ge 32, 3) := by decide +kernel
theorem dX4_manyOf_12 : decode cX4_manyOf 12 = .ok (.iload_n 2, 1) := by decide +kernel
theorem dX4_manyOf_13 : decode cX4_manyOf 13 = .ok (.aload_n 0, 1) := by decide +kernel
theorem dX4_manyOf_14 : decode cX4_manyOf 14 = .ok (.getfield 14, 3) := by decide +kernel
theorem dX4_manyOf_17 : decode cX4_manyOf 17 = .ok (.iload_n 3, 1) := by decide +kernel
theorem dX4_manyOf_18 : decode cX4_manyOf 18 = .ok (.invokevirtual 78, 3) := by decide +kernel
theorem dX4_manyOf_21 : decode cX4_manyOf 21 = .ok (.iload_n 1, 1) := by decide +kernel
theorem dX4_manyOf_22 : decode cX4_manyOf 22 = .ok (.invokestatic 134, 3) := by decide +kernel
theorem dX4_manyOf_25 : decode cX4_manyOf 25 = .ok (.ifCond .eq 7, 3) := by decide +kernel
theorem dX4_manyOf_28 : decode cX4_manyOf 28 = .ok (.iconst 1, 1) := by decide +kernel
theorem dX4_manyOf_29 : decode cX4_manyOf 29 = .ok (.goto 4, 3) := by decide +kernel
theorem dX4_manyOf_32 : decode cX4_manyOf 32 = .ok (.iconst 0, 1) := by decide +kernel
theorem dX4_manyOf_33 : decode cX4_manyOf 33 = .ok (.iadd, 1) := by decide +kernel
theorem dX4_manyOf_34 : decode cX4_manyOf 34 = .ok (.istore_n 2, 1) := by decide +kernel
theorem dX4_manyOf_35 : decode cX4_manyOf 35 = .ok (.iinc 3 1, 3) := by decide +kernel
theorem dX4_manyOf_38 : decode cX4_manyOf 38 = .ok (.goto (-34), 3) := by decide +kernel
theorem dX4_manyOf_41 : decode cX4_manyOf 41 = .ok (.iload_n 2, 1) := by decide +kernel
theorem dX4_manyOf_42 : decode cX4_manyOf 42 = .ok (.ireturn, 1) := by decide +kernel
theorem dX4_nextByDate_0 : decode cX4_nextByDate 0 = .ok (.bipush (-9), 2) := by decide +kernel
theorem dX4_nextByDate_2 : decode cX4_nextByDate 2 = .ok (.istore_n 3, 1) := by decide +kernel
theorem dX4_nextByDate_3 : decode cX4_nextByDate 3 = .ok (.iconst 0, 1) := by decide +kernel
theorem dX4_nextByDate_4 : decode cX4_nextByDate 4 = .ok (.istore 4, 2) := by decide +kernel
theorem dX4_nextByDate_6 : decode cX4_nextByDate 6 = .ok (.iload 4, 2) := by decide +kernel
theorem dX4_nextByDate_8 : decode cX4_nextByDate 8 = .ok (.aload_n 0, 1) := by decide +kernel
theorem dX4_nextByDate_9 : decode cX4_nextByDate 9 = .ok (.getfield 42, 3) := by decide +kernel
theorem dX4_nextByDate_12 : decode cX4_nextByDate 12 = .ok (.if_icmp .ge 67, 3) := by decide +kernel
theorem dX4_nextByDate_15 : decode cX4_nextByDate 15 = .ok (.iload_n 3, 1) := by decide +kernel
theorem dX4_nextByDate_16 : decode cX4_nextByDate 16 = .ok (.bipush (-9), 2) := by decide +kernel
theorem dX4_nextByDate_18 : decode cX4_nextByDate 18 = .ok (.if_icmp .eq 27, 3) := by decide +kernel
theorem dX4_nextByDate_21 : decode cX4_nextByDate 21 = .ok (.iload_n 2, 1) := by decide +kernel
theorem dX4_nextByDate_22 : decode cX4_nextByDate 22 = .ok (.aload_n 0, 1) := by decide +kernel
theorem dX4_nextByDate_23 : decode cX4_nextByDate 23 = .ok (.getfield 26, 3) := by decide +kernel
theorem dX4_nextByDate_26 : decode cX4_nextByDate 26 = .ok (.iload 4, 2) := by decide +kernel
theorem dX4_nextByDate_28 : decode cX4_nextByDate 28 = .ok (.invokevirtual 78, 3) := by decide +kernel
theorem dX4_nextByDate_31 : decode cX4_nextByDate 31 = .ok (.imul, 1) := by decide +kernel
theorem dX4_nextByDate_32 : decode cX4_nextByDate 32 = .ok (.iload_n 2, 1) := by decide +kernel
theorem dX4_nextByDate_33 : decode cX4_nextByDate 33 = .ok (.aload_n 0, 1) := by decide +kernel
theorem dX4_nextByDate_34 : decode cX4_nextByDate 34 = .ok (.getfield 26, 3) := by decide +kernel
theorem dX4_nextByDate_37 : decode cX4_nextByDate 37 = .ok (.iload_n 3, 1) := by decide +kernel
theorem dX4_nextByDate_38 : decode cX4_nextByDate 38 = .ok (.invokevirtual 78, 3) := by decide +kernel
theorem dX4_nextByDate_41 : decode cX4_nextByDate 41 = .ok (.imul, 1) := by decide +kernel
theorem dX4_nextByDate_42 : decode cX4_nextByDate 42 = .ok (.if_icmp .ge 7, 3) := by decide +kernel
theorem dX4_nextByDate_45 : decode cX4_nextByDate 45 = .ok (.iconst 1, 1) := by decide +kernel
theorem dX4_nextByDate_46 : decode cX4_nextByDate 46 = .ok (.goto 4, 3) := by decide +kernel
theorem dX4_nextByDate_49 : decode cX4_nextByDate 49 = .ok (.iconst 0, 1) := by decide +kernel
theorem dX4_nextByDate_50 : decode cX4_nextByDate 50 = .ok (.istore 5, 2) := by decide +kernel
theorem dX4_nextByDate_52 : decode cX4_nextByDate 52 = .ok (.iload_n 1, 1) := by decide +kernel
theorem dX4_nextByDate_53 : decode cX4_nextByDate 53 = .ok (.iload 4, 2) := by decide +kernel
theorem dX4_nextByDate_55 : decode cX4_nextByDate 55 = .ok (.invokestatic 130, 3) := by decide +kernel
theorem dX4_nextByDate_58 : decode cX4_nextByDate 58 = .ok (.ifCond .ne 13, 3) := by decide +kernel
theorem dX4_nextByDate_61 : decode cX4_nextByDate 61 = .ok (.iload 5, 2) := by decide +kernel
theorem dX4_nextByDate_63 : decode cX4_nextByDate 63 = .ok (.ifCond .eq 8, 3) := by decide +kernel
theorem dX4_nextByDate_66 : decode cX4_nextByDate 66 = .ok (.iload 4, 2) := by decide +kernel
theorem dX4_nextByDate_68 : decode cX4_nextByDate 68 = .ok (.goto 4, 3) := by decide +kernel
theorem dX4_nextByDate_71 : decode cX4_nextByDate 71 = .ok (.iload_n 3, 1) := by decide +kernel
theorem dX4_nextByDate_72 : decode cX4_nextByDate 72 = .ok (.istore_n 3, 1) := by decide +kernel
theorem dX4_nextByDate_73 : decode cX4_nextByDate 73 = .ok (.iinc 4 1, 3) := by decide +kernel
theorem dX4_nextByDate_76 : decode cX4_nextByDate 76 = .ok (.goto (-70), 3) := by decide +kernel
theorem dX4_nextByDate_79 : decode cX4_nextByDate 79 = .ok (.iconst 0, 1) := by decide +kernel
theorem dX4_nextByDate_80 : decode cX4_nextByDate 80 = .ok (.iload_n 3, 1) := by decide +kernel
theorem dX4_nextByDate_81 : decode cX4_nextByDate 81 = .ok (.invokestatic 124, 3) := by decide +kernel
theorem dX4_nextByDate_84 : decode cX4_nextByDate 84 = .ok (.ireturn, 1) := by decide +kernel
theorem dX4_mostAwake_0 : decode cX4_mostAwake 0 = .ok (.iconst 0, 1) := by decide +kernel
theorem dX4_mostAwake_1 : decode cX4_mostAwake 1 = .ok (.istore_n 3, 1) := by decide +kernel
theorem dX4_mostAwake_2 : decode cX4_mostAwake 2 = .ok (.iload_n 2, 1) := by decide +kernel
theorem dX4_mostAwake_3 : decode cX4_mostAwake 3 = .ok (.istore 4, 2) := by decide +kernel
theorem dX4_mostAwake_5 : decode cX4_mostAwake 5 = .ok (.iconst 0, 1) := by decide +kernel
theorem dX4_mostAwake_6 : decode cX4_mostAwake 6 = .ok (.istore 5, 2) := by decide +kernel
theorem dX4_mostAwake_8 : decode cX4_mostAwake 8 = .ok (.iload 5, 2) := by decide +kernel
theorem dX4_mostAwake_10 : decode cX4_mostAwake 10 = .ok (.iload_n 2, 1) := by decide +kernel
theorem dX4_mostAwake_11 : decode cX4_mostAwake 11 = .ok (.if_icmp .gt 55, 3) := by decide +kernel
theorem dX4_mostAwake_14 : decode cX4_mostAwake 14 = .ok (.iload_n 1, 1) := by decide +kernel
theorem dX4_mostAwake_15 : decode cX4_mostAwake 15 = .ok (.istore 6, 2) := by decide +kernel
theorem dX4_mostAwake_17 : decode cX4_mostAwake 17 = .ok (.iload 6, 2) := by decide +kernel
theorem dX4_mostAwake_19 : decode cX4_mostAwake 19 = .ok (.aload_n 0, 1) := by decide +kernel
theorem dX4_mostAwake_20 : decode cX4_mostAwake 20 = .ok (.getfield 42, 3) := by decide +kernel
theorem dX4_mostAwake_23 : decode cX4_mostAwake 23 = .ok (.if_icmp .ge 37, 3) := by decide +kernel
theorem dX4_mostAwake_26 : decode cX4_mostAwake 26 = .ok (.aload_n 0, 1) := by decide +kernel
theorem dX4_mostAwake_27 : decode cX4_mostAwake 27 = .ok (.iload 6, 2) := by decide +kernel
theorem dX4_mostAwake_29 : decode cX4_mostAwake 29 = .ok (.invokevirtual 127, 3) := by decide +kernel
theorem dX4_mostAwake_32 : decode cX4_mostAwake 32 = .ok (.iload 5, 2) := by decide +kernel
theorem dX4_mostAwake_34 : decode cX4_mostAwake 34 = .ok (.if_icmp .ne 20, 3) := by decide +kernel
theorem dX4_mostAwake_37 : decode cX4_mostAwake 37 = .ok (.iload 5, 2) := by decide +kernel
theorem dX4_mostAwake_39 : decode cX4_mostAwake 39 = .ok (.iload 4, 2) := by decide +kernel
theorem dX4_mostAwake_41 : decode cX4_mostAwake 41 = .ok (.if_icmp .gt 13, 3) := by decide +kernel
theorem dX4_mostAwake_44 : decode cX4_mostAwake 44 = .ok (.iload 4, 2) := by decide +kernel
theorem dX4_mostAwake_46 : decode cX4_mostAwake 46 = .ok (.iload 5, 2) := by decide +kernel
theorem dX4_mostAwake_48 : decode cX4_mostAwake 48 = .ok (.isub, 1) := by decide +kernel
theorem dX4_mostAwake_49 : decode cX4_mostAwake 49 = .ok (.istore 4, 2) := by decide +kernel
theorem dX4_mostAwake_51 : decode cX4_mostAwake 51 = .ok (.iinc 3 1, 3) := by decide +kernel
theorem dX4_mostAwake_54 : decode cX4_mostAwake 54 = .ok (.iinc 6 2, 3) := by decide +kernel
theorem dX4_mostAwake_57 : decode cX4_mostAwake 57 = .ok (.goto (-40), 3) := by decide +kernel
theorem dX4_mostAwake_60 : decode cX4_mostAwake 60 = .ok (.iinc 5 1, 3) := by decide +kernel
theorem dX4_mostAwake_63 : decode cX4_mostAwake 63 = .ok (.goto (-55), 3) := by decide +kernel
theorem dX4_mostAwake_66 : decode cX4_mostAwake 66 = .ok (.iload_n 3, 1) := by decide +kernel
theorem dX4_mostAwake_67 : decode cX4_mostAwake 67 = .ok (.ireturn, 1) := by decide +kernel
theorem dJ6_bitCount_0f7a4_0 : decode cJ6_bitCount_0f7a4 0 = .ok (.iload_n 0, 1) := by decide +kernel
theorem dJ6_bitCount_0f7a4_1 : decode cJ6_bitCount_0f7a4 1 = .ok (.iload_n 0, 1) := by decide +kernel
theorem dJ6_bitCount_0f7a4_2 : decode cJ6_bitCount_0f7a4 2 = .ok (.iconst 1, 1) := by decide +kernel
theorem dJ6_bitCount_0f7a4_3 : decode cJ6_bitCount_0f7a4 3 = .ok (.iushr, 1) := by decide +kernel
theorem dJ6_bitCount_0f7a4_4 : decode cJ6_bitCount_0f7a4 4 = .ok (.ldc_w 265, 3) := by decide +kernel
theorem dJ6_bitCount_0f7a4_7 : decode cJ6_bitCount_0f7a4 7 = .ok (.iand, 1) := by decide +kernel
theorem dJ6_bitCount_0f7a4_8 : decode cJ6_bitCount_0f7a4 8 = .ok (.isub, 1) := by decide +kernel
theorem dJ6_bitCount_0f7a4_9 : decode cJ6_bitCount_0f7a4 9 = .ok (.istore_n 0, 1) := by decide +kernel
theorem dJ6_bitCount_0f7a4_10 : decode cJ6_bitCount_0f7a4 10 = .ok (.iload_n 0, 1) := by decide +kernel
theorem dJ6_bitCount_0f7a4_11 : decode cJ6_bitCount_0f7a4 11 = .ok (.ldc_w 266, 3) := by decide +kernel
theorem dJ6_bitCount_0f7a4_14 : decode cJ6_bitCount_0f7a4 14 = .ok (.iand, 1) := by decide +kernel
theorem dJ6_bitCount_0f7a4_15 : decode cJ6_bitCount_0f7a4 15 = .ok (.iload_n 0, 1) := by decide +kernel
theorem dJ6_bitCount_0f7a4_16 : decode cJ6_bitCount_0f7a4 16 = .ok (.iconst 2, 1) := by decide +kernel
theorem dJ6_bitCount_0f7a4_17 : decode cJ6_bitCount_0f7a4 17 = .ok (.iushr, 1) := by decide +kernel
theorem dJ6_bitCount_0f7a4_18 : decode cJ6_bitCount_0f7a4 18 = .ok (.ldc_w 266, 3) := by decide +kernel
theorem dJ6_bitCount_0f7a4_21 : decode cJ6_bitCount_0f7a4 21 = .ok (.iand, 1) := by decide +kernel
theorem dJ6_bitCount_0f7a4_22 : decode cJ6_bitCount_0f7a4 22 = .ok (.iadd, 1) := by decide +kernel
theorem dJ6_bitCount_0f7a4_23 : decode cJ6_bitCount_0f7a4 23 = .ok (.istore_n 0, 1) := by decide +kernel
theorem dJ6_bitCount_0f7a4_24 : decode cJ6_bitCount_0f7a4 24 = .ok (.iload_n 0, 1) := by decide +kernel
theorem dJ6_bitCount_0f7a4_25 : decode cJ6_bitCount_0f7a4 25 = .ok (.iload_n 0, 1) := by decide +kernel
theorem dJ6_bitCount_0f7a4_26 : decode cJ6_bitCount_0f7a4 26 = .ok (.iconst 4, 1) := by decide +kernel
theorem dJ6_bitCount_0f7a4_27 : decode cJ6_bitCount_0f7a4 27 = .ok (.iushr, 1) := by decide +kernel
theorem dJ6_bitCount_0f7a4_28 : decode cJ6_bitCount_0f7a4 28 = .ok (.iadd, 1) := by decide +kernel
theorem dJ6_bitCount_0f7a4_29 : decode cJ6_bitCount_0f7a4 29 = .ok (.ldc_w 267, 3) := by decide +kernel
theorem dJ6_bitCount_0f7a4_32 : decode cJ6_bitCount_0f7a4 32 = .ok (.iand, 1) := by decide +kernel
theorem dJ6_bitCount_0f7a4_33 : decode cJ6_bitCount_0f7a4 33 = .ok (.istore_n 0, 1) := by decide +kernel
theorem dJ6_bitCount_0f7a4_34 : decode cJ6_bitCount_0f7a4 34 = .ok (.iload_n 0, 1) := by decide +kernel
theorem dJ6_bitCount_0f7a4_35 : decode cJ6_bitCount_0f7a4 35 = .ok (.iload_n 0, 1) := by decide +kernel
theorem dJ6_bitCount_0f7a4_36 : decode cJ6_bitCount_0f7a4 36 = .ok (.bipush 8, 2) := by decide +kernel
theorem dJ6_bitCount_0f7a4_38 : decode cJ6_bitCount_0f7a4 38 = .ok (.iushr, 1) := by decide +kernel
theorem dJ6_bitCount_0f7a4_39 : decode cJ6_bitCount_0f7a4 39 = .ok (.iadd, 1) := by decide +kernel
theorem dJ6_bitCount_0f7a4_40 : decode cJ6_bitCount_0f7a4 40 = .ok (.istore_n 0, 1) := by decide +kernel
theorem dJ6_bitCount_0f7a4_41 : decode cJ6_bitCount_0f7a4 41 = .ok (.iload_n 0, 1) := by decide +kernel
theorem dJ6_bitCount_0f7a4_42 : decode cJ6_bitCount_0f7a4 42 = .ok (.iload_n 0, 1) := by decide +kernel
theorem dJ6_bitCount_0f7a4_43 : decode cJ6_bitCount_0f7a4 43 = .ok (.bipush 16, 2) := by decide +kernel
theorem dJ6_bitCount_0f7a4_45 : decode cJ6_bitCount_0f7a4 45 = .ok (.iushr, 1) := by decide +kernel
theorem dJ6_bitCount_0f7a4_46 : decode cJ6_bitCount_0f7a4 46 = .ok (.iadd, 1) := by decide +kernel
theorem dJ6_bitCount_0f7a4_47 : decode cJ6_bitCount_0f7a4 47 = .ok (.istore_n 0, 1) := by decide +kernel
theorem dJ6_bitCount_0f7a4_48 : decode cJ6_bitCount_0f7a4 48 = .ok (.iload_n 0, 1) := by decide +kernel
theorem dJ6_bitCount_0f7a4_49 : decode cJ6_bitCount_0f7a4 49 = .ok (.bipush 63, 2) := by decide +kernel
theorem dJ6_bitCount_0f7a4_51 : decode cJ6_bitCount_0f7a4 51 = .ok (.iand, 1) := by decide +kernel
theorem dJ6_bitCount_0f7a4_52 : decode cJ6_bitCount_0f7a4 52 = .ok (.ireturn, 1) := by decide +kernel
theorem dJ9_abs_0f7a4_0 : decode cJ9_abs_0f7a4 0 = .ok (.iload_n 0, 1) := by decide +kernel
theorem dJ9_abs_0f7a4_1 : decode cJ9_abs_0f7a4 1 = .ok (.ifCond .ge 8, 3) := by decide +kernel
theorem dJ9_abs_0f7a4_4 : decode cJ9_abs_0f7a4 4 = .ok (.iload_n 0, 1) := by decide +kernel
theorem dJ9_abs_0f7a4_5 : decode cJ9_abs_0f7a4 5 = .ok (.ineg, 1) := by decide +kernel
theorem dJ9_abs_0f7a4_6 : decode cJ9_abs_0f7a4 6 = .ok (.goto 4, 3) := by decide +kernel
theorem dJ9_abs_0f7a4_9 : decode cJ9_abs_0f7a4 9 = .ok (.iload_n 0, 1) := by decide +kernel
theorem dJ9_abs_0f7a4_10 : decode cJ9_abs_0f7a4 10 = .ok (.ireturn, 1) := by decide +kernel
theorem dJ9_max_7cf53_0 : decode cJ9_max_7cf53 0 = .ok (.iload_n 0, 1) := by decide +kernel
theorem dJ9_max_7cf53_1 : decode cJ9_max_7cf53 1 = .ok (.iload_n 1, 1) := by decide +kernel
theorem dJ9_max_7cf53_2 : decode cJ9_max_7cf53 2 = .ok (.if_icmp .lt 7, 3) := by decide +kernel
theorem dJ9_max_7cf53_5 : decode cJ9_max_7cf53 5 = .ok (.iload_n 0, 1) := by decide +kernel
theorem dJ9_max_7cf53_6 : decode cJ9_max_7cf53 6 = .ok (.goto 4, 3) := by decide +kernel
theorem dJ9_max_7cf53_9 : decode cJ9_max_7cf53 9 = .ok (.iload_n 1, 1) := by decide +kernel
theorem dJ9_max_7cf53_10 : decode cJ9_max_7cf53 10 = .ok (.ireturn, 1) := by decide +kernel
theorem dJ9_min_7cf53_0 : decode cJ9_min_7cf53 0 = .ok (.iload_n 0, 1) := by decide +kernel
theorem dJ9_min_7cf53_1 : decode cJ9_min_7cf53 1 = .ok (.iload_n 1, 1) := by decide +kernel
theorem dJ9_min_7cf53_2 : decode cJ9_min_7cf53 2 = .ok (.if_icmp .gt 7, 3) := by decide +kernel
theorem dJ9_min_7cf53_5 : decode cJ9_min_7cf53 5 = .ok (.iload_n 0, 1) := by decide +kernel
theorem dJ9_min_7cf53_6 : decode cJ9_min_7cf53 6 = .ok (.goto 4, 3) := by decide +kernel
theorem dJ9_min_7cf53_9 : decode cJ9_min_7cf53 9 = .ok (.iload_n 1, 1) := by decide +kernel
theorem dJ9_min_7cf53_10 : decode cJ9_min_7cf53 10 = .ok (.ireturn, 1) := by decide +kernel
