theorem dX5_init_0 : decode cX5_init 0 = .ok (.aload_n 0, 1) := by decide +kernel
theorem dX5_init_1 : decode cX5_init 1 = .ok (.invokespecial 1, 3) := by decide +kernel
theorem dX5_init_4 : decode cX5_init 4 = .ok (.aload_n 0, 1) := by decide +kernel
theorem dX5_init_5 : decode cX5_init 5 = .ok (.bipush 6, 2) := by decide +kernel
theorem dX5_init_7 : decode cX5_init 7 = .ok (.bipush 40, 2) := by decide +kernel
theorem dX5_init_9 : decode cX5_init 9 = .ok (.invokestatic 9, 3) := by decide +kernel
theorem dX5_init_12 : decode cX5_init 12 = .ok (.putfield 13, 3) := by decide +kernel
theorem dX5_init_15 : decode cX5_init 15 = .ok (.aload_n 0, 1) := by decide +kernel
theorem dX5_init_16 : decode cX5_init 16 = .ok (.iconst 4, 1) := by decide +kernel
theorem dX5_init_17 : decode cX5_init 17 = .ok (.bipush 60, 2) := by decide +kernel
theorem dX5_init_19 : decode cX5_init 19 = .ok (.invokestatic 9, 3) := by decide +kernel
theorem dX5_init_22 : decode cX5_init 22 = .ok (.putfield 17, 3) := by decide +kernel
theorem dX5_init_25 : decode cX5_init 25 = .ok (.aload_n 0, 1) := by decide +kernel
theorem dX5_init_26 : decode cX5_init 26 = .ok (.iconst 3, 1) := by decide +kernel
theorem dX5_init_27 : decode cX5_init 27 = .ok (.bipush 40, 2) := by decide +kernel
theorem dX5_init_29 : decode cX5_init 29 = .ok (.invokestatic 9, 3) := by decide +kernel
theorem dX5_init_32 : decode cX5_init 32 = .ok (.putfield 20, 3) := by decide +kernel
theorem dX5_init_35 : decode cX5_init 35 = .ok (.aload_n 0, 1) := by decide +kernel
theorem dX5_init_36 : decode cX5_init 36 = .ok (.new 23, 3) := by decide +kernel
theorem dX5_init_39 : decode cX5_init 39 = .ok (.dup, 1) := by decide +kernel
theorem dX5_init_40 : decode cX5_init 40 = .ok (.invokespecial 25, 3) := by decide +kernel
theorem dX5_init_43 : decode cX5_init 43 = .ok (.putfield 26, 3) := by decide +kernel
theorem dX5_init_46 : decode cX5_init 46 = .ok (.aload_n 0, 1) := by decide +kernel
theorem dX5_init_47 : decode cX5_init 47 = .ok (.new 30, 3) := by decide +kernel
theorem dX5_init_50 : decode cX5_init 50 = .ok (.dup, 1) := by decide +kernel
theorem dX5_init_51 : decode cX5_init 51 = .ok (.invokespecial 32, 3) := by decide +kernel
theorem dX5_init_54 : decode cX5_init 54 = .ok (.putfield 33, 3) := by decide +kernel
theorem dX5_init_57 : decode cX5_init 57 = .ok (.aload_n 0, 1) := by decide +kernel
theorem dX5_init_58 : decode cX5_init 58 = .ok (.new 37, 3) := by decide +kernel
theorem dX5_init_61 : decode cX5_init 61 = .ok (.dup, 1) := by decide +kernel
theorem dX5_init_62 : decode cX5_init 62 = .ok (.bipush 6, 2) := by decide +kernel
theorem dX5_init_64 : decode cX5_init 64 = .ok (.invokespecial 39, 3) := by decide +kernel
theorem dX5_init_67 : decode cX5_init 67 = .ok (.putfield 42, 3) := by decide +kernel
theorem dX5_init_70 : decode cX5_init 70 = .ok (.aload_n 0, 1) := by decide +kernel
theorem dX5_init_71 : decode cX5_init 71 = .ok (.new 46, 3) := by decide +kernel
theorem dX5_init_74 : decode cX5_init 74 = .ok (.dup, 1) := by decide +kernel
theorem dX5_init_75 : decode cX5_init 75 = .ok (.invokespecial 48, 3) := by decide +kernel
theorem dX5_init_78 : decode cX5_init 78 = .ok (.putfield 49, 3) := by decide +kernel
theorem dX5_init_81 : decode cX5_init 81 = .ok (.aload_n 0, 1) := by decide +kernel
theorem dX5_init_82 : decode cX5_init 82 = .ok (.new 46, 3) := by decide +kernel
theorem dX5_init_85 : decode cX5_init 85 = .ok (.dup, 1) := by decide +kernel
theorem dX5_init_86 : decode cX5_init 86 = .ok (.invokespecial 48, 3) := by decide +kernel
theorem dX5_init_89 : decode cX5_init 89 = .ok (.putfield 53, 3) := by decide +kernel
theorem dX5_init_92 : decode cX5_init 92 = .ok (.aload_n 0, 1) := by decide +kernel
theorem dX5_init_93 : decode cX5_init 93 = .ok (.lconst 1, 1) := by decide +kernel
theorem dX5_init_94 : decode cX5_init 94 = .ok (.putfield 56, 3) := by decide +kernel
theorem dX5_init_97 : decode cX5_init 97 = .ok (.aload_n 0, 1) := by decide +kernel
theorem dX5_init_98 : decode cX5_init 98 = .ok (.getfield 42, 3) := by decide +kernel
theorem dX5_init_101 : decode cX5_init 101 = .ok (.bipush 6, 2) := by decide +kernel
theorem dX5_init_103 : decode cX5_init 103 = .ok (.iconst 0, 1) := by decide +kernel
theorem dX5_init_104 : decode cX5_init 104 = .ok (.invokevirtual 60, 3) := by decide +kernel
theorem dX5_init_107 : decode cX5_init 107 = .ok (.return_, 1) := by decide +kernel
theorem dX5_found_0 : decode cX5_found 0 = .ok (.aload_n 0, 1) := by decide +kernel
theorem dX5_found_1 : decode cX5_found 1 = .ok (.iload_n 1, 1) := by decide +kernel
theorem dX5_found_2 : decode cX5_found 2 = .ok (.putfield 64, 3) := by decide +kernel
theorem dX5_found_5 : decode cX5_found 5 = .ok (.aload_n 0, 1) := by decide +kernel
theorem dX5_found_6 : decode cX5_found 6 = .ok (.getfield 42, 3) := by decide +kernel
theorem dX5_found_9 : decode cX5_found 9 = .ok (.iload_n 1, 1) := by decide +kernel
theorem dX5_found_10 : decode cX5_found 10 = .ok (.aload_n 0, 1) := by decide +kernel
theorem dX5_found_11 : decode cX5_found 11 = .ok (.getfield 42, 3) := by decide +kernel
theorem dX5_found_14 : decode cX5_found 14 = .ok (.iload_n 1, 1) := by decide +kernel
theorem dX5_found_15 : decode cX5_found 15 = .ok (.invokevirtual 68, 3) := by decide +kernel
theorem dX5_found_18 : decode cX5_found 18 = .ok (.iconst 1, 1) := by decide +kernel
theorem dX5_found_19 : decode cX5_found 19 = .ok (.iadd, 1) := by decide +kernel
theorem dX5_found_20 : decode cX5_found 20 = .ok (.invokevirtual 72, 3) := by decide +kernel
theorem dX5_found_23 : decode cX5_found 23 = .ok (.bipush (-3), 2) := by decide +kernel
theorem dX5_found_25 : decode cX5_found 25 = .ok (.ireturn, 1) := by decide +kernel
theorem dX5_within_0 : decode cX5_within 0 = .ok (.iload_n 0, 1) := by decide +kernel
theorem dX5_within_1 : decode cX5_within 1 = .ok (.iload_n 1, 1) := by decide +kernel
theorem dX5_within_2 : decode cX5_within 2 = .ok (.if_icmp .lt 12, 3) := by decide +kernel
theorem dX5_within_5 : decode cX5_within 5 = .ok (.iload_n 0, 1) := by decide +kernel
theorem dX5_within_6 : decode cX5_within 6 = .ok (.iload_n 2, 1) := by decide +kernel
theorem dX5_within_7 : decode cX5_within 7 = .ok (.if_icmp .gt 7, 3) := by decide +kernel
theorem dX5_within_10 : decode cX5_within 10 = .ok (.iconst 1, 1) := by decide +kernel
theorem dX5_within_11 : decode cX5_within 11 = .ok (.goto 4, 3) := by decide +kernel
theorem dX5_within_14 : decode cX5_within 14 = .ok (.iconst 0, 1) := by decide +kernel
theorem dX5_within_15 : decode cX5_within 15 = .ok (.ireturn, 1) := by decide +kernel
theorem dX5_isDate_0 : decode cX5_isDate 0 = .ok (.iload_n 0, 1) := by decide +kernel
theorem dX5_isDate_1 : decode cX5_isDate 1 = .ok (.iconst 0, 1) := by decide +kernel
theorem dX5_isDate_2 : decode cX5_isDate 2 = .ok (.bipush 99, 2) := by decide +kernel
theorem dX5_isDate_4 : decode cX5_isDate 4 = .ok (.invokestatic 75, 3) := by decide +kernel
theorem dX5_isDate_7 : decode cX5_isDate 7 = .ok (.ireturn, 1) := by decide +kernel
theorem dX5_missing_0 : decode cX5_missing 0 = .ok (.iconst 0, 1) := by decide +kernel
theorem dX5_missing_1 : decode cX5_missing 1 = .ok (.iload_n 0, 1) := by decide +kernel
theorem dX5_missing_2 : decode cX5_missing 2 = .ok (.invokestatic 79, 3) := by decide +kernel
theorem dX5_missing_5 : decode cX5_missing 5 = .ok (.anewarray 37, 3) := by decide +kernel
theorem dX5_missing_8 : decode cX5_missing 8 = .ok (.astore_n 2, 1) := by decide +kernel
theorem dX5_missing_9 : decode cX5_missing 9 = .ok (.iconst 0, 1) := by decide +kernel
theorem dX5_missing_10 : decode cX5_missing 10 = .ok (.istore_n 3, 1) := by decide +kernel
theorem dX5_missing_11 : decode cX5_missing 11 = .ok (.iload_n 3, 1) := by decide +kernel
theorem dX5_missing_12 : decode cX5_missing 12 = .ok (.aload_n 2, 1) := by decide +kernel
theorem dX5_missing_13 : decode cX5_missing 13 = .ok (.arraylength, 1) := by decide +kernel
theorem dX5_missing_14 : decode cX5_missing 14 = .ok (.if_icmp .ge 20, 3) := by decide +kernel
theorem dX5_missing_17 : decode cX5_missing 17 = .ok (.aload_n 2, 1) := by decide +kernel
theorem dX5_missing_18 : decode cX5_missing 18 = .ok (.iload_n 3, 1) := by decide +kernel
theorem dX5_missing_19 : decode cX5_missing 19 = .ok (.new 37, 3) := by decide +kernel
theorem dX5_missing_22 : decode cX5_missing 22 = .ok (.dup, 1) := by decide +kernel
theorem dX5_missing_23 : decode cX5_missing 23 = .ok (.iload_n 1, 1) := by decide +kernel
theorem dX5_missing_24 : decode cX5_missing 24 = .ok (.invokespecial 39, 3) := by decide +kernel
theorem dX5_missing_27 : decode cX5_missing 27 = .ok (.aastore, 1) := by decide +kernel
theorem dX5_missing_28 : decode cX5_missing 28 = .ok (.iinc 3 1, 3) := by decide +kernel
theorem dX5_missing_31 : decode cX5_missing 31 = .ok (.goto (-20), 3) := by decide +kernel
theorem dX5_missing_34 : decode cX5_missing 34 = .ok (.aload_n 2, 1) := by decide +kernel
theorem dX5_missing_35 : decode cX5_missing 35 = .ok (.areturn, 1) := by decide +kernel
theorem dX5_pick_0 : decode cX5_pick 0 = .ok (.iload_n 1, 1) := by decide +kernel
theorem dX5_pick_1 : decode cX5_pick 1 = .ok (.ifCond .lt 15, 3) := by decide +kernel
theorem dX5_pick_4 : decode cX5_pick 4 = .ok (.iload_n 1, 1) := by decide +kernel
theorem dX5_pick_5 : decode cX5_pick 5 = .ok (.aload_n 0, 1) := by decide +kernel
theorem dX5_pick_6 : decode cX5_pick 6 = .ok (.arraylength, 1) := by decide +kernel
theorem dX5_pick_7 : decode cX5_pick 7 = .ok (.if_icmp .ge 9, 3) := by decide +kernel
theorem dX5_pick_10 : decode cX5_pick 10 = .ok (.aload_n 0, 1) := by decide +kernel
theorem dX5_pick_11 : decode cX5_pick 11 = .ok (.iload_n 1, 1) := by decide +kernel
theorem dX5_pick_12 : decode cX5_pick 12 = .ok (.aaload, 1) := by decide +kernel
theorem dX5_pick_13 : decode cX5_pick 13 = .ok (.goto 4, 3) := by decide +kernel
theorem dX5_pick_16 : decode cX5_pick 16 = .ok (.aconst_null, 1) := by decide +kernel
theorem dX5_pick_17 : decode cX5_pick 17 = .ok (.areturn, 1) := by decide +kernel
theorem dX5_refused_0 : decode cX5_refused 0 = .ok (.aload_n 1, 1) := by decide +kernel
theorem dX5_refused_1 : decode cX5_refused 1 = .ok (.ifnonnull 5, 3) := by decide +kernel
theorem dX5_refused_4 : decode cX5_refused 4 = .ok (.iconst (-1), 1) := by decide +kernel
theorem dX5_refused_5 : decode cX5_refused 5 = .ok (.ireturn, 1) := by decide +kernel
theorem dX5_refused_6 : decode cX5_refused 6 = .ok (.aload_n 1, 1) := by decide +kernel
theorem dX5_refused_7 : decode cX5_refused 7 = .ok (.getfield 85, 3) := by decide +kernel
theorem dX5_refused_10 : decode cX5_refused 10 = .ok (.ifCond .ge 11, 3) := by decide +kernel
theorem dX5_refused_13 : decode cX5_refused 13 = .ok (.aload_n 0, 1) := by decide +kernel
theorem dX5_refused_14 : decode cX5_refused 14 = .ok (.iconst 1, 1) := by decide +kernel
theorem dX5_refused_15 : decode cX5_refused 15 = .ok (.invokevirtual 88, 3) := by decide +kernel
theorem dX5_refused_18 : decode cX5_refused 18 = .ok (.goto 4, 3) := by decide +kernel
theorem dX5_refused_21 : decode cX5_refused 21 = .ok (.iconst 0, 1) := by decide +kernel
theorem dX5_refused_22 : decode cX5_refused 22 = .ok (.ireturn, 1) := by decide +kernel
theorem dX5_refusedAt_0 : decode cX5_refusedAt 0 = .ok (.aload_n 0, 1) := by decide +kernel
theorem dX5_refusedAt_1 : decode cX5_refusedAt 1 = .ok (.aload_n 1, 1) := by decide +kernel
theorem dX5_refusedAt_2 : decode cX5_refusedAt 2 = .ok (.invokevirtual 91, 3) := by decide +kernel
theorem dX5_refusedAt_5 : decode cX5_refusedAt 5 = .ok (.istore_n 3, 1) := by decide +kernel
theorem dX5_refusedAt_6 : decode cX5_refusedAt 6 = .ok (.aload_n 1, 1) := by decide +kernel
theorem dX5_refusedAt_7 : decode cX5_refusedAt 7 = .ok (.ifnull 7, 3) := by decide +kernel
theorem dX5_refusedAt_10 : decode cX5_refusedAt 10 = .ok (.iload_n 3, 1) := by decide +kernel
theorem dX5_refusedAt_11 : decode cX5_refusedAt 11 = .ok (.ifCond .eq 5, 3) := by decide +kernel
theorem dX5_refusedAt_14 : decode cX5_refusedAt 14 = .ok (.iload_n 3, 1) := by decide +kernel
theorem dX5_refusedAt_15 : decode cX5_refusedAt 15 = .ok (.ireturn, 1) := by decide +kernel
theorem dX5_refusedAt_16 : decode cX5_refusedAt 16 = .ok (.aload_n 1, 1) := by decide +kernel
theorem dX5_refusedAt_17 : decode cX5_refusedAt 17 = .ok (.iload_n 2, 1) := by decide +kernel
theorem dX5_refusedAt_18 : decode cX5_refusedAt 18 = .ok (.invokevirtual 95, 3) := by decide +kernel
theorem dX5_refusedAt_21 : decode cX5_refusedAt 21 = .ok (.ifCond .eq 7, 3) := by decide +kernel
theorem dX5_refusedAt_24 : decode cX5_refusedAt 24 = .ok (.iconst 0, 1) := by decide +kernel
theorem dX5_refusedAt_25 : decode cX5_refusedAt 25 = .ok (.goto 8, 3) := by decide +kernel
theorem dX5_refusedAt_28 : decode cX5_refusedAt 28 = .ok (.aload_n 0, 1) := by decide +kernel
theorem dX5_refusedAt_29 : decode cX5_refusedAt 29 = .ok (.iconst 2, 1) := by decide +kernel
theorem dX5_refusedAt_30 : decode cX5_refusedAt 30 = .ok (.invokevirtual 88, 3) := by decide +kernel
theorem dX5_refusedAt_33 : decode cX5_refusedAt 33 = .ok (.ireturn, 1) := by decide +kernel
theorem dX5_present_0 : decode cX5_present 0 = .ok (.iconst 0, 1) := by decide +kernel
theorem dX5_present_1 : decode cX5_present 1 = .ok (.istore_n 1, 1) := by decide +kernel
theorem dX5_present_2 : decode cX5_present 2 = .ok (.iconst 0, 1) := by decide +kernel
theorem dX5_present_3 : decode cX5_present 3 = .ok (.istore_n 2, 1) := by decide +kernel
theorem dX5_present_4 : decode cX5_present 4 = .ok (.iload_n 2, 1) := by decide +kernel
theorem dX5_present_5 : decode cX5_present 5 = .ok (.aload_n 0, 1) := by decide +kernel
theorem dX5_present_6 : decode cX5_present 6 = .ok (.arraylength, 1) := by decide +kernel
theorem dX5_present_7 : decode cX5_present 7 = .ok (.if_icmp .ge 27, 3) := by decide +kernel
theorem dX5_present_10 : decode cX5_present 10 = .ok (.aload_n 0, 1) := by decide +kernel
theorem dX5_present_11 : decode cX5_present 11 = .ok (.iload_n 2, 1) := by decide +kernel
theorem dX5_present_12 : decode cX5_present 12 = .ok (.aaload, 1) := by decide +kernel
theorem dX5_present_13 : decode cX5_present 13 = .ok (.astore_n 3, 1) := by decide +kernel
theorem dX5_present_14 : decode cX5_present 14 = .ok (.aload_n 3, 1) := by decide +kernel
theorem dX5_present_15 : decode cX5_present 15 = .ok (.ifnull 13, 3) := by decide +kernel
theorem dX5_present_18 : decode cX5_present 18 = .ok (.aload_n 3, 1) := by decide +kernel
theorem dX5_present_19 : decode cX5_present 19 = .ok (.getfield 85, 3) := by decide +kernel
theorem dX5_present_22 : decode cX5_present 22 = .ok (.ifCond .lt 6, 3) := by decide +kernel
theorem dX5_present_25 : decode cX5_present 25 = .ok (.iinc 1 1, 3) := by decide +kernel
theorem dX5_present_28 : decode cX5_present 28 = .ok (.iinc 2 1, 3) := by decide +kernel
theorem dX5_present_31 : decode cX5_present 31 = .ok (.goto (-27), 3) := by decide +kernel
theorem dX5_present_34 : decode cX5_present 34 = .ok (.iload_n 1, 1) := by decide +kernel
theorem dX5_present_35 : decode cX5_present 35 = .ok (.ireturn, 1) := by decide +kernel
theorem dX5_row_0 : decode cX5_row 0 = .ok (.aload_n 0, 1) := by decide +kernel
theorem dX5_row_1 : decode cX5_row 1 = .ok (.getfield 13, 3) := by decide +kernel
theorem dX5_row_4 : decode cX5_row 4 = .ok (.iload_n 1, 1) := by decide +kernel
theorem dX5_row_5 : decode cX5_row 5 = .ok (.invokestatic 99, 3) := by decide +kernel
theorem dX5_row_8 : decode cX5_row 8 = .ok (.astore_n 3, 1) := by decide +kernel
theorem dX5_row_9 : decode cX5_row 9 = .ok (.aload_n 3, 1) := by decide +kernel
theorem dX5_row_10 : decode cX5_row 10 = .ok (.ifnull 9, 3) := by decide +kernel
theorem dX5_row_13 : decode cX5_row 13 = .ok (.iload_n 2, 1) := by decide +kernel
theorem dX5_row_14 : decode cX5_row 14 = .ok (.bipush 40, 2) := by decide +kernel
theorem dX5_row_16 : decode cX5_row 16 = .ok (.if_icmp .le 5, 3) := by decide +kernel
theorem dX5_row_19 : decode cX5_row 19 = .ok (.iconst (-1), 1) := by decide +kernel
theorem dX5_row_20 : decode cX5_row 20 = .ok (.ireturn, 1) := by decide +kernel
theorem dX5_row_21 : decode cX5_row 21 = .ok (.iload_n 2, 1) := by decide +kernel
theorem dX5_row_22 : decode cX5_row 22 = .ok (.ifCond .ge 9, 3) := by decide +kernel
theorem dX5_row_25 : decode cX5_row 25 = .ok (.aload_n 0, 1) := by decide +kernel
theorem dX5_row_26 : decode cX5_row 26 = .ok (.iconst 5, 1) := by decide +kernel
theorem dX5_row_27 : decode cX5_row 27 = .ok (.invokevirtual 88, 3) := by decide +kernel
theorem dX5_row_30 : decode cX5_row 30 = .ok (.ireturn, 1) := by decide +kernel
theorem dX5_row_31 : decode cX5_row 31 = .ok (.aload_n 3, 1) := by decide +kernel
theorem dX5_row_32 : decode cX5_row 32 = .ok (.iload_n 2, 1) := by decide +kernel
theorem dX5_row_33 : decode cX5_row 33 = .ok (.iconst 0, 1) := by decide +kernel
theorem dX5_row_34 : decode cX5_row 34 = .ok (.invokevirtual 60, 3) := by decide +kernel
theorem dX5_row_37 : decode cX5_row 37 = .ok (.iload_n 2, 1) := by decide +kernel
theorem dX5_row_38 : decode cX5_row 38 = .ok (.ireturn, 1) := by decide +kernel
theorem dX5_lay_0 : decode cX5_lay 0 = .ok (.aload_n 0, 1) := by decide +kernel
theorem dX5_lay_1 : decode cX5_lay 1 = .ok (.getfield 13, 3) := by decide +kernel
theorem dX5_lay_4 : decode cX5_lay 4 = .ok (.iload_n 1, 1) := by decide +kernel
theorem dX5_lay_5 : decode cX5_lay 5 = .ok (.invokestatic 99, 3) := by decide +kernel
theorem dX5_lay_8 : decode cX5_lay 8 = .ok (.astore 4, 2) := by decide +kernel
theorem dX5_lay_10 : decode cX5_lay 10 = .ok (.aload_n 0, 1) := by decide +kernel
theorem dX5_lay_11 : decode cX5_lay 11 = .ok (.aload 4, 2) := by decide +kernel
theorem dX5_lay_13 : decode cX5_lay 13 = .ok (.iload_n 2, 1) := by decide +kernel
theorem dX5_lay_14 : decode cX5_lay 14 = .ok (.invokevirtual 103, 3) := by decide +kernel
theorem dX5_lay_17 : decode cX5_lay 17 = .ok (.istore 5, 2) := by decide +kernel
theorem dX5_lay_19 : decode cX5_lay 19 = .ok (.aload 4, 2) := by decide +kernel
theorem dX5_lay_21 : decode cX5_lay 21 = .ok (.ifnull 8, 3) := by decide +kernel
theorem dX5_lay_24 : decode cX5_lay 24 = .ok (.iload 5, 2) := by decide +kernel
theorem dX5_lay_26 : decode cX5_lay 26 = .ok (.ifCond .eq 6, 3) := by decide +kernel
theorem dX5_lay_29 : decode cX5_lay 29 = .ok (.iload 5, 2) := by decide +kernel
theorem dX5_lay_31 : decode cX5_lay 31 = .ok (.ireturn, 1) := by decide +kernel
theorem dX5_lay_32 : decode cX5_lay 32 = .ok (.aload_n 0, 1) := by decide +kernel
theorem dX5_lay_33 : decode cX5_lay 33 = .ok (.aload 4, 2) := by decide +kernel
theorem dX5_lay_35 : decode cX5_lay 35 = .ok (.iload_n 2, 1) := by decide +kernel
theorem dX5_lay_36 : decode cX5_lay 36 = .ok (.invokevirtual 68, 3) := by decide +kernel
theorem dX5_lay_39 : decode cX5_lay 39 = .ok (.putfield 107, 3) := by decide +kernel
theorem dX5_lay_42 : decode cX5_lay 42 = .ok (.aload 4, 2) := by decide +kernel
theorem dX5_lay_44 : decode cX5_lay 44 = .ok (.iload_n 2, 1) := by decide +kernel
theorem dX5_lay_45 : decode cX5_lay 45 = .ok (.iload_n 3, 1) := by decide +kernel
theorem dX5_lay_46 : decode cX5_lay 46 = .ok (.invokevirtual 72, 3) := by decide +kernel
theorem dX5_lay_49 : decode cX5_lay 49 = .ok (.iconst 1, 1) := by decide +kernel
theorem dX5_lay_50 : decode cX5_lay 50 = .ok (.ireturn, 1) := by decide +kernel
theorem dX5_at_0 : decode cX5_at 0 = .ok (.aload_n 0, 1) := by decide +kernel
theorem dX5_at_1 : decode cX5_at 1 = .ok (.getfield 13, 3) := by decide +kernel
theorem dX5_at_4 : decode cX5_at 4 = .ok (.iload_n 1, 1) := by decide +kernel
theorem dX5_at_5 : decode cX5_at 5 = .ok (.invokestatic 99, 3) := by decide +kernel
theorem dX5_at_8 : decode cX5_at 8 = .ok (.astore_n 3, 1) := by decide +kernel
theorem dX5_at_9 : decode cX5_at 9 = .ok (.aload_n 0, 1) := by decide +kernel
theorem dX5_at_10 : decode cX5_at 10 = .ok (.aload_n 3, 1) := by decide +kernel
theorem dX5_at_11 : decode cX5_at 11 = .ok (.iload_n 2, 1) := by decide +kernel
theorem dX5_at_12 : decode cX5_at 12 = .ok (.invokevirtual 103, 3) := by decide +kernel
theorem dX5_at_15 : decode cX5_at 15 = .ok (.istore 4, 2) := by decide +kernel
theorem dX5_at_17 : decode cX5_at 17 = .ok (.aload_n 3, 1) := by decide +kernel
theorem dX5_at_18 : decode cX5_at 18 = .ok (.ifnull 8, 3) := by decide +kernel
theorem dX5_at_21 : decode cX5_at 21 = .ok (.iload 4, 2) := by decide +kernel
theorem dX5_at_23 : decode cX5_at 23 = .ok (.ifCond .eq 6, 3) := by decide +kernel
theorem dX5_at_26 : decode cX5_at 26 = .ok (.iload 4, 2) := by decide +kernel
theorem dX5_at_28 : decode cX5_at 28 = .ok (.ireturn, 1) := by decide +kernel
theorem dX5_at_29 : decode cX5_at 29 = .ok (.aload_n 0, 1) := by decide +kernel
theorem dX5_at_30 : decode cX5_at 30 = .ok (.aload_n 3, 1) := by decide +kernel
theorem dX5_at_31 : decode cX5_at 31 = .ok (.iload_n 2, 1) := by decide +kernel
theorem dX5_at_32 : decode cX5_at 32 = .ok (.invokevirtual 68, 3) := by decide +kernel
theorem dX5_at_35 : decode cX5_at 35 = .ok (.putfield 107, 3) := by decide +kernel
theorem dX5_at_38 : decode cX5_at 38 = .ok (.iconst 1, 1) := by decide +kernel
theorem dX5_at_39 : decode cX5_at 39 = .ok (.ireturn, 1) := by decide +kernel
theorem dX5_text_0 : decode cX5_text 0 = .ok (.aload_n 0, 1) := by decide +kernel
theorem dX5_text_1 : decode cX5_text 1 = .ok (.getfield 17, 3) := by decide +kernel
theorem dX5_text_4 : decode cX5_text 4 = .ok (.iload_n 1, 1) := by decide +kernel
theorem dX5_text_5 : decode cX5_text 5 = .ok (.invokestatic 99, 3) := by decide +kernel
theorem dX5_text_8 : decode cX5_text 8 = .ok (.astore_n 3, 1) := by decide +kernel
theorem dX5_text_9 : decode cX5_text 9 = .ok (.aload_n 3, 1) := by decide +kernel
theorem dX5_text_10 : decode cX5_text 10 = .ok (.ifnull 9, 3) := by decide +kernel
theorem dX5_text_13 : decode cX5_text 13 = .ok (.iload_n 2, 1) := by decide +kernel
theorem dX5_text_14 : decode cX5_text 14 = .ok (.bipush 60, 2) := by decide +kernel
theorem dX5_text_16 : decode cX5_text 16 = .ok (.if_icmp .le 5, 3) := by decide +kernel
theorem dX5_text_19 : decode cX5_text 19 = .ok (.iconst (-1), 1) := by decide +kernel
theorem dX5_text_20 : decode cX5_text 20 = .ok (.ireturn, 1) := by decide +kernel
theorem dX5_text_21 : decode cX5_text 21 = .ok (.iload_n 2, 1) := by decide +kernel
theorem dX5_text_22 : decode cX5_text 22 = .ok (.ifCond .ge 9, 3) := by decide +kernel
theorem dX5_text_25 : decode cX5_text 25 = .ok (.aload_n 0, 1) := by decide +kernel
theorem dX5_text_26 : decode cX5_text 26 = .ok (.iconst 5, 1) := by decide +kernel
theorem dX5_text_27 : decode cX5_text 27 = .ok (.invokevirtual 88, 3) := by decide +kernel
theorem dX5_text_30 : decode cX5_text 30 = .ok (.ireturn, 1) := by decide +kernel
theorem dX5_text_31 : decode cX5_text 31 = .ok (.aload_n 3, 1) := by decide +kernel
theorem dX5_text_32 : decode cX5_text 32 = .ok (.iload_n 2, 1) := by decide +kernel
theorem dX5_text_33 : decode cX5_text 33 = .ok (.bipush 32, 2) := by decide +kernel
theorem dX5_text_35 : decode cX5_text 35 = .ok (.invokevirtual 60, 3) := by decide +kernel
theorem dX5_text_38 : decode cX5_text 38 = .ok (.iload_n 2, 1) := by decide +kernel
theorem dX5_text_39 : decode cX5_text 39 = .ok (.ireturn, 1) := by decide +kernel
theorem dX5_put_0 : decode cX5_put 0 = .ok (.aload_n 0, 1) := by decide +kernel
theorem dX5_put_1 : decode cX5_put 1 = .ok (.getfield 17, 3) := by decide +kernel
theorem dX5_put_4 : decode cX5_put 4 = .ok (.iload_n 1, 1) := by decide +kernel
theorem dX5_put_5 : decode cX5_put 5 = .ok (.invokestatic 99, 3) := by decide +kernel
theorem dX5_put_8 : decode cX5_put 8 = .ok (.astore 4, 2) := by decide +kernel
theorem dX5_put_10 : decode cX5_put 10 = .ok (.aload_n 0, 1) := by decide +kernel
theorem dX5_put_11 : decode cX5_put 11 = .ok (.aload 4, 2) := by decide +kernel
theorem dX5_put_13 : decode cX5_put 13 = .ok (.iload_n 2, 1) := by decide +kernel
theorem dX5_put_14 : decode cX5_put 14 = .ok (.invokevirtual 103, 3) := by decide +kernel
theorem dX5_put_17 : decode cX5_put 17 = .ok (.istore 5, 2) := by decide +kernel
theorem dX5_put_19 : decode cX5_put 19 = .ok (.aload 4, 2) := by decide +kernel
theorem dX5_put_21 : decode cX5_put 21 = .ok (.ifnull 8, 3) := by decide +kernel
theorem dX5_put_24 : decode cX5_put 24 = .ok (.iload 5, 2) := by decide +kernel
theorem dX5_put_26 : decode cX5_put 26 = .ok (.ifCond .eq 6, 3) := by decide +kernel
theorem dX5_put_29 : decode cX5_put 29 = .ok (.iload 5, 2) := by decide +kernel
theorem dX5_put_31 : decode cX5_put 31 = .ok (.ireturn, 1) := by decide +kernel
theorem dX5_put_32 : decode cX5_put 32 = .ok (.aload 4, 2) := by decide +kernel
theorem dX5_put_34 : decode cX5_put 34 = .ok (.iload_n 2, 1) := by decide +kernel
theorem dX5_put_35 : decode cX5_put 35 = .ok (.invokevirtual 68, 3) := by decide +kernel
theorem dX5_put_38 : decode cX5_put 38 = .ok (.istore 6, 2) := by decide +kernel
theorem dX5_put_40 : decode cX5_put 40 = .ok (.aload 4, 2) := by decide +kernel
theorem dX5_put_42 : decode cX5_put 42 = .ok (.iload_n 2, 1) := by decide +kernel
theorem dX5_put_43 : decode cX5_put 43 = .ok (.iload_n 3, 1) := by decide +kernel
theorem dX5_put_44 : decode cX5_put 44 = .ok (.i2b, 1) := by decide +kernel
theorem dX5_put_45 : decode cX5_put 45 = .ok (.invokevirtual 72, 3) := by decide +kernel
theorem dX5_put_48 : decode cX5_put 48 = .ok (.sipush 1000, 3) := by decide +kernel
theorem dX5_put_51 : decode cX5_put 51 = .ok (.iload 6, 2) := by decide +kernel
theorem dX5_put_53 : decode cX5_put 53 = .ok (.iadd, 1) := by decide +kernel
theorem dX5_put_54 : decode cX5_put 54 = .ok (.ireturn, 1) := by decide +kernel
theorem dX5_fault_0 : decode cX5_fault 0 = .ok (.aload_n 0, 1) := by decide +kernel
theorem dX5_fault_1 : decode cX5_fault 1 = .ok (.getfield 17, 3) := by decide +kernel
theorem dX5_fault_4 : decode cX5_fault 4 = .ok (.iload_n 1, 1) := by decide +kernel
theorem dX5_fault_5 : decode cX5_fault 5 = .ok (.invokestatic 99, 3) := by decide +kernel
theorem dX5_fault_8 : decode cX5_fault 8 = .ok (.astore_n 2, 1) := by decide +kernel
theorem dX5_fault_9 : decode cX5_fault 9 = .ok (.aload_n 0, 1) := by decide +kernel
theorem dX5_fault_10 : decode cX5_fault 10 = .ok (.aload_n 2, 1) := by decide +kernel
theorem dX5_fault_11 : decode cX5_fault 11 = .ok (.invokevirtual 91, 3) := by decide +kernel
theorem dX5_fault_14 : decode cX5_fault 14 = .ok (.istore_n 3, 1) := by decide +kernel
theorem dX5_fault_15 : decode cX5_fault 15 = .ok (.aload_n 2, 1) := by decide +kernel
theorem dX5_fault_16 : decode cX5_fault 16 = .ok (.ifnull 7, 3) := by decide +kernel
theorem dX5_fault_19 : decode cX5_fault 19 = .ok (.iload_n 3, 1) := by decide +kernel
theorem dX5_fault_20 : decode cX5_fault 20 = .ok (.ifCond .eq 5, 3) := by decide +kernel
theorem dX5_fault_23 : decode cX5_fault 23 = .ok (.iload_n 3, 1) := by decide +kernel
theorem dX5_fault_24 : decode cX5_fault 24 = .ok (.ireturn, 1) := by decide +kernel
theorem dX5_fault_25 : decode cX5_fault 25 = .ok (.aload_n 0, 1) := by decide +kernel
theorem dX5_fault_26 : decode cX5_fault 26 = .ok (.getfield 26, 3) := by decide +kernel
theorem dX5_fault_29 : decode cX5_fault 29 = .ok (.aload_n 2, 1) := by decide +kernel
theorem dX5_fault_30 : decode cX5_fault 30 = .ok (.aload_n 0, 1) := by decide +kernel
theorem dX5_fault_31 : decode cX5_fault 31 = .ok (.getfield 53, 3) := by decide +kernel
theorem dX5_fault_34 : decode cX5_fault 34 = .ok (.invokevirtual 121, 3) := by decide +kernel
theorem dX5_fault_37 : decode cX5_fault 37 = .ok (.ireturn, 1) := by decide +kernel
theorem dX5_town_0 : decode cX5_town 0 = .ok (.aload_n 0, 1) := by decide +kernel
theorem dX5_town_1 : decode cX5_town 1 = .ok (.getfield 17, 3) := by decide +kernel
theorem dX5_town_4 : decode cX5_town 4 = .ok (.iload_n 1, 1) := by decide +kernel
theorem dX5_town_5 : decode cX5_town 5 = .ok (.invokestatic 99, 3) := by decide +kernel
theorem dX5_town_8 : decode cX5_town 8 = .ok (.astore_n 2, 1) := by decide +kernel
theorem dX5_town_9 : decode cX5_town 9 = .ok (.aload_n 0, 1) := by decide +kernel
theorem dX5_town_10 : decode cX5_town 10 = .ok (.aload_n 2, 1) := by decide +kernel
theorem dX5_town_11 : decode cX5_town 11 = .ok (.invokevirtual 91, 3) := by decide +kernel
theorem dX5_town_14 : decode cX5_town 14 = .ok (.istore_n 3, 1) := by decide +kernel
theorem dX5_town_15 : decode cX5_town 15 = .ok (.aload_n 2, 1) := by decide +kernel
theorem dX5_town_16 : decode cX5_town 16 = .ok (.ifnull 7, 3) := by decide +kernel
theorem dX5_town_19 : decode cX5_town 19 = .ok (.iload_n 3, 1) := by decide +kernel
theorem dX5_town_20 : decode cX5_town 20 = .ok (.ifCond .eq 5, 3) := by decide +kernel
theorem dX5_town_23 : decode cX5_town 23 = .ok (.iload_n 3, 1) := by decide +kernel
theorem dX5_town_24 : decode cX5_town 24 = .ok (.ireturn, 1) := by decide +kernel
theorem dX5_town_25 : decode cX5_town 25 = .ok (.aload_n 0, 1) := by decide +kernel
theorem dX5_town_26 : decode cX5_town 26 = .ok (.getfield 26, 3) := by decide +kernel
theorem dX5_town_29 : decode cX5_town 29 = .ok (.aload_n 2, 1) := by decide +kernel
theorem dX5_town_30 : decode cX5_town 30 = .ok (.aload_n 0, 1) := by decide +kernel
theorem dX5_town_31 : decode cX5_town 31 = .ok (.getfield 53, 3) := by decide +kernel
theorem dX5_town_34 : decode cX5_town 34 = .ok (.invokevirtual 121, 3) := by decide +kernel
theorem dX5_town_37 : decode cX5_town 37 = .ok (.bipush (-9), 2) := by decide +kernel
theorem dX5_town_39 : decode cX5_town 39 = .ok (.if_icmp .eq 6, 3) := by decide +kernel
theorem dX5_town_42 : decode cX5_town 42 = .ok (.bipush (-4), 2) := by decide +kernel
theorem dX5_town_44 : decode cX5_town 44 = .ok (.ireturn, 1) := by decide +kernel
theorem dX5_town_45 : decode cX5_town 45 = .ok (.aload_n 0, 1) := by decide +kernel
theorem dX5_town_46 : decode cX5_town 46 = .ok (.getfield 49, 3) := by decide +kernel
theorem dX5_town_49 : decode cX5_town 49 = .ok (.astore 4, 2) := by decide +kernel
theorem dX5_town_51 : decode cX5_town 51 = .ok (.aload_n 0, 1) := by decide +kernel
theorem dX5_town_52 : decode cX5_town 52 = .ok (.aload_n 0, 1) := by decide +kernel
theorem dX5_town_53 : decode cX5_town 53 = .ok (.getfield 53, 3) := by decide +kernel
theorem dX5_town_56 : decode cX5_town 56 = .ok (.putfield 49, 3) := by decide +kernel
theorem dX5_town_59 : decode cX5_town 59 = .ok (.aload_n 0, 1) := by decide +kernel
theorem dX5_town_60 : decode cX5_town 60 = .ok (.aload 4, 2) := by decide +kernel
theorem dX5_town_62 : decode cX5_town 62 = .ok (.putfield 53, 3) := by decide +kernel
theorem dX5_town_65 : decode cX5_town 65 = .ok (.aload_n 0, 1) := by decide +kernel
theorem dX5_town_66 : decode cX5_town 66 = .ok (.getfield 49, 3) := by decide +kernel
theorem dX5_town_69 : decode cX5_town 69 = .ok (.getfield 125, 3) := by decide +kernel
theorem dX5_town_72 : decode cX5_town 72 = .ok (.iconst 0, 1) := by decide +kernel
theorem dX5_town_73 : decode cX5_town 73 = .ok (.iconst 0, 1) := by decide +kernel
theorem dX5_town_74 : decode cX5_town 74 = .ok (.invokevirtual 60, 3) := by decide +kernel
theorem dX5_town_77 : decode cX5_town 77 = .ok (.aload_n 0, 1) := by decide +kernel
theorem dX5_town_78 : decode cX5_town 78 = .ok (.getfield 49, 3) := by decide +kernel
theorem dX5_town_81 : decode cX5_town 81 = .ok (.invokevirtual 128, 3) := by decide +kernel
theorem dX5_town_84 : decode cX5_town 84 = .ok (.iconst 0, 1) := by decide +kernel
theorem dX5_town_85 : decode cX5_town 85 = .ok (.istore 5, 2) := by decide +kernel
theorem dX5_town_87 : decode cX5_town 87 = .ok (.iload 5, 2) := by decide +kernel
theorem dX5_town_89 : decode cX5_town 89 = .ok (.aload_n 0, 1) := by decide +kernel
theorem dX5_town_90 : decode cX5_town 90 = .ok (.getfield 20, 3) := by decide +kernel
theorem dX5_town_93 : decode cX5_town 93 = .ok (.arraylength, 1) := by decide +kernel
theorem dX5_town_94 : decode cX5_town 94 = .ok (.if_icmp .ge 28, 3) := by decide +kernel
theorem dX5_town_97 : decode cX5_town 97 = .ok (.aload_n 0, 1) := by decide +kernel
theorem dX5_town_98 : decode cX5_town 98 = .ok (.getfield 20, 3) := by decide +kernel
theorem dX5_town_101 : decode cX5_town 101 = .ok (.iload 5, 2) := by decide +kernel
theorem dX5_town_103 : decode cX5_town 103 = .ok (.aaload, 1) := by decide +kernel
theorem dX5_town_104 : decode cX5_town 104 = .ok (.astore 6, 2) := by decide +kernel
theorem dX5_town_106 : decode cX5_town 106 = .ok (.aload 6, 2) := by decide +kernel
theorem dX5_town_108 : decode cX5_town 108 = .ok (.ifnull 8, 3) := by decide +kernel
theorem dX5_town_111 : decode cX5_town 111 = .ok (.aload 6, 2) := by decide +kernel
theorem dX5_town_113 : decode cX5_town 113 = .ok (.invokevirtual 110, 3) := by decide +kernel
theorem dX5_town_116 : decode cX5_town 116 = .ok (.iinc 5 1, 3) := by decide +kernel
theorem dX5_town_119 : decode cX5_town 119 = .ok (.goto (-32), 3) := by decide +kernel
theorem dX5_town_122 : decode cX5_town 122 = .ok (.aload_n 0, 1) := by decide +kernel
theorem dX5_town_123 : decode cX5_town 123 = .ok (.getfield 49, 3) := by decide +kernel
theorem dX5_town_126 : decode cX5_town 126 = .ok (.getfield 131, 3) := by decide +kernel
theorem dX5_town_129 : decode cX5_town 129 = .ok (.ireturn, 1) := by decide +kernel
theorem dX5_house_0 : decode cX5_house 0 = .ok (.aload_n 0, 1) := by decide +kernel
theorem dX5_house_1 : decode cX5_house 1 = .ok (.getfield 49, 3) := by decide +kernel
theorem dX5_house_4 : decode cX5_house 4 = .ok (.iload_n 1, 1) := by decide +kernel
theorem dX5_house_5 : decode cX5_house 5 = .ok (.invokevirtual 132, 3) := by decide +kernel
theorem dX5_house_8 : decode cX5_house 8 = .ok (.ifCond .eq 12, 3) := by decide +kernel
theorem dX5_house_11 : decode cX5_house 11 = .ok (.iload_n 2, 1) := by decide +kernel
theorem dX5_house_12 : decode cX5_house 12 = .ok (.iconst 0, 1) := by decide +kernel
theorem dX5_house_13 : decode cX5_house 13 = .ok (.iconst 5, 1) := by decide +kernel
theorem dX5_house_14 : decode cX5_house 14 = .ok (.invokestatic 75, 3) := by decide +kernel
theorem dX5_house_17 : decode cX5_house 17 = .ok (.ifCond .ne 5, 3) := by decide +kernel
theorem dX5_house_20 : decode cX5_house 20 = .ok (.iconst (-1), 1) := by decide +kernel
theorem dX5_house_21 : decode cX5_house 21 = .ok (.ireturn, 1) := by decide +kernel
theorem dX5_house_22 : decode cX5_house 22 = .ok (.aload_n 0, 1) := by decide +kernel
theorem dX5_house_23 : decode cX5_house 23 = .ok (.aload_n 0, 1) := by decide +kernel
theorem dX5_house_24 : decode cX5_house 24 = .ok (.getfield 49, 3) := by decide +kernel
theorem dX5_house_27 : decode cX5_house 27 = .ok (.iload_n 1, 1) := by decide +kernel
theorem dX5_house_28 : decode cX5_house 28 = .ok (.iload_n 2, 1) := by decide +kernel
theorem dX5_house_29 : decode cX5_house 29 = .ok (.invokevirtual 135, 3) := by decide +kernel
theorem dX5_house_32 : decode cX5_house 32 = .ok (.putfield 107, 3) := by decide +kernel
theorem dX5_house_35 : decode cX5_house 35 = .ok (.iconst 1, 1) := by decide +kernel
theorem dX5_house_36 : decode cX5_house 36 = .ok (.ireturn, 1) := by decide +kernel
theorem dX5_isFull_0 : decode cX5_isFull 0 = .ok (.aload_n 0, 1) := by decide +kernel
theorem dX5_isFull_1 : decode cX5_isFull 1 = .ok (.getfield 49, 3) := by decide +kernel
theorem dX5_isFull_4 : decode cX5_isFull 4 = .ok (.getfield 125, 3) := by decide +kernel
theorem dX5_isFull_7 : decode cX5_isFull 7 = .ok (.getfield 85, 3) := by decide +kernel
theorem dX5_isFull_10 : decode cX5_isFull 10 = .ok (.iload_n 1, 1) := by decide +kernel
theorem dX5_isFull_11 : decode cX5_isFull 11 = .ok (.iadd, 1) := by decide +kernel
theorem dX5_isFull_12 : decode cX5_isFull 12 = .ok (.bipush 40, 2) := by decide +kernel
theorem dX5_isFull_14 : decode cX5_isFull 14 = .ok (.if_icmp .le 7, 3) := by decide +kernel
theorem dX5_isFull_17 : decode cX5_isFull 17 = .ok (.iconst 1, 1) := by decide +kernel
theorem dX5_isFull_18 : decode cX5_isFull 18 = .ok (.goto 4, 3) := by decide +kernel
theorem dX5_isFull_21 : decode cX5_isFull 21 = .ok (.iconst 0, 1) := by decide +kernel
theorem dX5_isFull_22 : decode cX5_isFull 22 = .ok (.ireturn, 1) := by decide +kernel
theorem dX5_walk_0 : decode cX5_walk 0 = .ok (.aload_n 0, 1) := by decide +kernel
theorem dX5_walk_1 : decode cX5_walk 1 = .ok (.getfield 49, 3) := by decide +kernel
theorem dX5_walk_4 : decode cX5_walk 4 = .ok (.iload_n 1, 1) := by decide +kernel
theorem dX5_walk_5 : decode cX5_walk 5 = .ok (.invokevirtual 132, 3) := by decide +kernel
theorem dX5_walk_8 : decode cX5_walk 8 = .ok (.ifCond .ne 5, 3) := by decide +kernel
theorem dX5_walk_11 : decode cX5_walk 11 = .ok (.iconst (-1), 1) := by decide +kernel
theorem dX5_walk_12 : decode cX5_walk 12 = .ok (.ireturn, 1) := by decide +kernel
theorem dX5_walk_13 : decode cX5_walk 13 = .ok (.aload_n 0, 1) := by decide +kernel
theorem dX5_walk_14 : decode cX5_walk 14 = .ok (.getfield 49, 3) := by decide +kernel
theorem dX5_walk_17 : decode cX5_walk 17 = .ok (.getfield 169, 3) := by decide +kernel
theorem dX5_walk_20 : decode cX5_walk 20 = .ok (.iload_n 1, 1) := by decide +kernel
theorem dX5_walk_21 : decode cX5_walk 21 = .ok (.if_icmp .ne 6, 3) := by decide +kernel
theorem dX5_walk_24 : decode cX5_walk 24 = .ok (.bipush (-4), 2) := by decide +kernel
theorem dX5_walk_26 : decode cX5_walk 26 = .ok (.ireturn, 1) := by decide +kernel
theorem dX5_walk_27 : decode cX5_walk 27 = .ok (.aload_n 0, 1) := by decide +kernel
theorem dX5_walk_28 : decode cX5_walk 28 = .ok (.iconst 1, 1) := by decide +kernel
theorem dX5_walk_29 : decode cX5_walk 29 = .ok (.invokevirtual 172, 3) := by decide +kernel
theorem dX5_walk_32 : decode cX5_walk 32 = .ok (.ifCond .eq 6, 3) := by decide +kernel
theorem dX5_walk_35 : decode cX5_walk 35 = .ok (.bipush (-2), 2) := by decide +kernel
theorem dX5_walk_37 : decode cX5_walk 37 = .ok (.ireturn, 1) := by decide +kernel
theorem dX5_walk_38 : decode cX5_walk 38 = .ok (.aload_n 0, 1) := by decide +kernel
theorem dX5_walk_39 : decode cX5_walk 39 = .ok (.getfield 49, 3) := by decide +kernel
theorem dX5_walk_42 : decode cX5_walk 42 = .ok (.iconst 0, 1) := by decide +kernel
theorem dX5_walk_43 : decode cX5_walk 43 = .ok (.iload_n 1, 1) := by decide +kernel
theorem dX5_walk_44 : decode cX5_walk 44 = .ok (.iconst 0, 1) := by decide +kernel
theorem dX5_walk_45 : decode cX5_walk 45 = .ok (.invokevirtual 175, 3) := by decide +kernel
theorem dX5_walk_48 : decode cX5_walk 48 = .ok (.aload_n 0, 1) := by decide +kernel
theorem dX5_walk_49 : decode cX5_walk 49 = .ok (.getfield 49, 3) := by decide +kernel
theorem dX5_walk_52 : decode cX5_walk 52 = .ok (.getfield 179, 3) := by decide +kernel
theorem dX5_walk_55 : decode cX5_walk 55 = .ok (.ireturn, 1) := by decide +kernel
theorem dX5_tap_0 : decode cX5_tap 0 = .ok (.aload_n 0, 1) := by decide +kernel
theorem dX5_tap_1 : decode cX5_tap 1 = .ok (.getfield 49, 3) := by decide +kernel
theorem dX5_tap_4 : decode cX5_tap 4 = .ok (.getfield 131, 3) := by decide +kernel
theorem dX5_tap_7 : decode cX5_tap 7 = .ok (.ifCond .ne 6, 3) := by decide +kernel
theorem dX5_tap_10 : decode cX5_tap 10 = .ok (.bipush (-4), 2) := by decide +kernel
theorem dX5_tap_12 : decode cX5_tap 12 = .ok (.ireturn, 1) := by decide +kernel
theorem dX5_tap_13 : decode cX5_tap 13 = .ok (.aload_n 0, 1) := by decide +kernel
theorem dX5_tap_14 : decode cX5_tap 14 = .ok (.iconst 1, 1) := by decide +kernel
theorem dX5_tap_15 : decode cX5_tap 15 = .ok (.invokevirtual 172, 3) := by decide +kernel
theorem dX5_tap_18 : decode cX5_tap 18 = .ok (.ifCond .eq 6, 3) := by decide +kernel
theorem dX5_tap_21 : decode cX5_tap 21 = .ok (.bipush (-2), 2) := by decide +kernel
theorem dX5_tap_23 : decode cX5_tap 23 = .ok (.ireturn, 1) := by decide +kernel
theorem dX5_tap_24 : decode cX5_tap 24 = .ok (.aload_n 0, 1) := by decide +kernel
theorem dX5_tap_25 : decode cX5_tap 25 = .ok (.getfield 49, 3) := by decide +kernel
theorem dX5_tap_28 : decode cX5_tap 28 = .ok (.iconst 1, 1) := by decide +kernel
theorem dX5_tap_29 : decode cX5_tap 29 = .ok (.iconst 0, 1) := by decide +kernel
theorem dX5_tap_30 : decode cX5_tap 30 = .ok (.iconst 0, 1) := by decide +kernel
theorem dX5_tap_31 : decode cX5_tap 31 = .ok (.invokevirtual 175, 3) := by decide +kernel
theorem dX5_tap_34 : decode cX5_tap 34 = .ok (.aload_n 0, 1) := by decide +kernel
theorem dX5_tap_35 : decode cX5_tap 35 = .ok (.getfield 49, 3) := by decide +kernel
theorem dX5_tap_38 : decode cX5_tap 38 = .ok (.aload_n 0, 1) := by decide +kernel
theorem dX5_tap_39 : decode cX5_tap 39 = .ok (.getfield 49, 3) := by decide +kernel
theorem dX5_tap_42 : decode cX5_tap 42 = .ok (.getfield 169, 3) := by decide +kernel
theorem dX5_tap_45 : decode cX5_tap 45 = .ok (.invokevirtual 182, 3) := by decide +kernel
theorem dX5_tap_48 : decode cX5_tap 48 = .ok (.ifCond .eq 7, 3) := by decide +kernel
theorem dX5_tap_51 : decode cX5_tap 51 = .ok (.iconst 1, 1) := by decide +kernel
theorem dX5_tap_52 : decode cX5_tap 52 = .ok (.goto 4, 3) := by decide +kernel
theorem dX5_tap_55 : decode cX5_tap 55 = .ok (.iconst 0, 1) := by decide +kernel
theorem dX5_tap_56 : decode cX5_tap 56 = .ok (.ireturn, 1) := by decide +kernel
theorem dX5_slate_0 : decode cX5_slate 0 = .ok (.aload_n 0, 1) := by decide +kernel
theorem dX5_slate_1 : decode cX5_slate 1 = .ok (.getfield 49, 3) := by decide +kernel
theorem dX5_slate_4 : decode cX5_slate 4 = .ok (.iload_n 1, 1) := by decide +kernel
theorem dX5_slate_5 : decode cX5_slate 5 = .ok (.invokevirtual 132, 3) := by decide +kernel
theorem dX5_slate_8 : decode cX5_slate 8 = .ok (.ifCond .eq 10, 3) := by decide +kernel
theorem dX5_slate_11 : decode cX5_slate 11 = .ok (.iload_n 2, 1) := by decide +kernel
theorem dX5_slate_12 : decode cX5_slate 12 = .ok (.invokestatic 185, 3) := by decide +kernel
theorem dX5_slate_15 : decode cX5_slate 15 = .ok (.ifCond .ne 5, 3) := by decide +kernel
theorem dX5_slate_18 : decode cX5_slate 18 = .ok (.iconst (-1), 1) := by decide +kernel
theorem dX5_slate_19 : decode cX5_slate 19 = .ok (.ireturn, 1) := by decide +kernel
theorem dX5_slate_20 : decode cX5_slate 20 = .ok (.aload_n 0, 1) := by decide +kernel
theorem dX5_slate_21 : decode cX5_slate 21 = .ok (.getfield 49, 3) := by decide +kernel
theorem dX5_slate_24 : decode cX5_slate 24 = .ok (.getfield 146, 3) := by decide +kernel
theorem dX5_slate_27 : decode cX5_slate 27 = .ok (.iload_n 1, 1) := by decide +kernel
theorem dX5_slate_28 : decode cX5_slate 28 = .ok (.invokevirtual 68, 3) := by decide +kernel
theorem dX5_slate_31 : decode cX5_slate 31 = .ok (.istore_n 3, 1) := by decide +kernel
theorem dX5_slate_32 : decode cX5_slate 32 = .ok (.iload_n 3, 1) := by decide +kernel
theorem dX5_slate_33 : decode cX5_slate 33 = .ok (.iload_n 2, 1) := by decide +kernel
theorem dX5_slate_34 : decode cX5_slate 34 = .ok (.if_icmp .ne 6, 3) := by decide +kernel
theorem dX5_slate_37 : decode cX5_slate 37 = .ok (.bipush (-4), 2) := by decide +kernel
theorem dX5_slate_39 : decode cX5_slate 39 = .ok (.ireturn, 1) := by decide +kernel
theorem dX5_slate_40 : decode cX5_slate 40 = .ok (.aload_n 0, 1) := by decide +kernel
theorem dX5_slate_41 : decode cX5_slate 41 = .ok (.iconst 1, 1) := by decide +kernel
theorem dX5_slate_42 : decode cX5_slate 42 = .ok (.invokevirtual 172, 3) := by decide +kernel
theorem dX5_slate_45 : decode cX5_slate 45 = .ok (.ifCond .eq 6, 3) := by decide +kernel
theorem dX5_slate_48 : decode cX5_slate 48 = .ok (.bipush (-2), 2) := by decide +kernel
theorem dX5_slate_50 : decode cX5_slate 50 = .ok (.ireturn, 1) := by decide +kernel
theorem dX5_slate_51 : decode cX5_slate 51 = .ok (.aload_n 0, 1) := by decide +kernel
theorem dX5_slate_52 : decode cX5_slate 52 = .ok (.getfield 49, 3) := by decide +kernel
theorem dX5_slate_55 : decode cX5_slate 55 = .ok (.iconst 2, 1) := by decide +kernel
theorem dX5_slate_56 : decode cX5_slate 56 = .ok (.iload_n 1, 1) := by decide +kernel
theorem dX5_slate_57 : decode cX5_slate 57 = .ok (.iload_n 2, 1) := by decide +kernel
theorem dX5_slate_58 : decode cX5_slate 58 = .ok (.invokevirtual 175, 3) := by decide +kernel
theorem dX5_slate_61 : decode cX5_slate 61 = .ok (.iload_n 3, 1) := by decide +kernel
theorem dX5_slate_62 : decode cX5_slate 62 = .ok (.ireturn, 1) := by decide +kernel
theorem dX5_frost_0 : decode cX5_frost 0 = .ok (.iload_n 1, 1) := by decide +kernel
theorem dX5_frost_1 : decode cX5_frost 1 = .ok (.iconst 0, 1) := by decide +kernel
theorem dX5_frost_2 : decode cX5_frost 2 = .ok (.iconst 1, 1) := by decide +kernel
theorem dX5_frost_3 : decode cX5_frost 3 = .ok (.invokestatic 75, 3) := by decide +kernel
theorem dX5_frost_6 : decode cX5_frost 6 = .ok (.ifCond .ne 5, 3) := by decide +kernel
theorem dX5_frost_9 : decode cX5_frost 9 = .ok (.iconst (-1), 1) := by decide +kernel
theorem dX5_frost_10 : decode cX5_frost 10 = .ok (.ireturn, 1) := by decide +kernel
theorem dX5_frost_11 : decode cX5_frost 11 = .ok (.aload_n 0, 1) := by decide +kernel
theorem dX5_frost_12 : decode cX5_frost 12 = .ok (.getfield 49, 3) := by decide +kernel
theorem dX5_frost_15 : decode cX5_frost 15 = .ok (.getfield 131, 3) := by decide +kernel
theorem dX5_frost_18 : decode cX5_frost 18 = .ok (.ifCond .eq 14, 3) := by decide +kernel
theorem dX5_frost_21 : decode cX5_frost 21 = .ok (.aload_n 0, 1) := by decide +kernel
theorem dX5_frost_22 : decode cX5_frost 22 = .ok (.getfield 49, 3) := by decide +kernel
theorem dX5_frost_25 : decode cX5_frost 25 = .ok (.getfield 152, 3) := by decide +kernel
theorem dX5_frost_28 : decode cX5_frost 28 = .ok (.iload_n 1, 1) := by decide +kernel
theorem dX5_frost_29 : decode cX5_frost 29 = .ok (.if_icmp .ne 6, 3) := by decide +kernel
theorem dX5_frost_32 : decode cX5_frost 32 = .ok (.bipush (-4), 2) := by decide +kernel
theorem dX5_frost_34 : decode cX5_frost 34 = .ok (.ireturn, 1) := by decide +kernel
theorem dX5_frost_35 : decode cX5_frost 35 = .ok (.aload_n 0, 1) := by decide +kernel
theorem dX5_frost_36 : decode cX5_frost 36 = .ok (.iconst 1, 1) := by decide +kernel
theorem dX5_frost_37 : decode cX5_frost 37 = .ok (.invokevirtual 172, 3) := by decide +kernel
theorem dX5_frost_40 : decode cX5_frost 40 = .ok (.ifCond .eq 6, 3) := by decide +kernel
theorem dX5_frost_43 : decode cX5_frost 43 = .ok (.bipush (-2), 2) := by decide +kernel
theorem dX5_frost_45 : decode cX5_frost 45 = .ok (.ireturn, 1) := by decide +kernel
theorem dX5_frost_46 : decode cX5_frost 46 = .ok (.aload_n 0, 1) := by decide +kernel
theorem dX5_frost_47 : decode cX5_frost 47 = .ok (.getfield 49, 3) := by decide +kernel
theorem dX5_frost_50 : decode cX5_frost 50 = .ok (.iconst 3, 1) := by decide +kernel
theorem dX5_frost_51 : decode cX5_frost 51 = .ok (.iconst 0, 1) := by decide +kernel
theorem dX5_frost_52 : decode cX5_frost 52 = .ok (.iload_n 1, 1) := by decide +kernel
theorem dX5_frost_53 : decode cX5_frost 53 = .ok (.invokevirtual 175, 3) := by decide +kernel
theorem dX5_frost_56 : decode cX5_frost 56 = .ok (.iload_n 1, 1) := by decide +kernel
theorem dX5_frost_57 : decode cX5_frost 57 = .ok (.ireturn, 1) := by decide +kernel
theorem dX5_night_0 : decode cX5_night 0 = .ok (.aload_n 0, 1) := by decide +kernel
theorem dX5_night_1 : decode cX5_night 1 = .ok (.getfield 49, 3) := by decide +kernel
theorem dX5_night_4 : decode cX5_night 4 = .ok (.getfield 131, 3) := by decide +kernel
theorem dX5_night_7 : decode cX5_night 7 = .ok (.ifCond .ne 6, 3) := by decide +kernel
theorem dX5_night_10 : decode cX5_night 10 = .ok (.bipush (-4), 2) := by decide +kernel
theorem dX5_night_12 : decode cX5_night 12 = .ok (.ireturn, 1) := by decide +kernel
theorem dX5_night_13 : decode cX5_night 13 = .ok (.aload_n 0, 1) := by decide +kernel
theorem dX5_night_14 : decode cX5_night 14 = .ok (.iconst 1, 1) := by decide +kernel
theorem dX5_night_15 : decode cX5_night 15 = .ok (.invokevirtual 172, 3) := by decide +kernel
theorem dX5_night_18 : decode cX5_night 18 = .ok (.ifCond .eq 6, 3) := by decide +kernel
theorem dX5_night_21 : decode cX5_night 21 = .ok (.bipush (-2), 2) := by decide +kernel
theorem dX5_night_23 : decode cX5_night 23 = .ok (.ireturn, 1) := by decide +kernel
theorem dX5_night_24 : decode cX5_night 24 = .ok (.aload_n 0, 1) := by decide +kernel
theorem dX5_night_25 : decode cX5_night 25 = .ok (.getfield 49, 3) := by decide +kernel
theorem dX5_night_28 : decode cX5_night 28 = .ok (.invokevirtual 188, 3) := by decide +kernel
theorem dX5_night_31 : decode cX5_night 31 = .ok (.invokestatic 192, 3) := by decide +kernel
theorem dX5_night_34 : decode cX5_night 34 = .ok (.istore_n 1, 1) := by decide +kernel
theorem dX5_night_35 : decode cX5_night 35 = .ok (.aload_n 0, 1) := by decide +kernel
theorem dX5_night_36 : decode cX5_night 36 = .ok (.getfield 49, 3) := by decide +kernel
theorem dX5_night_39 : decode cX5_night 39 = .ok (.iconst 4, 1) := by decide +kernel
theorem dX5_night_40 : decode cX5_night 40 = .ok (.iconst 0, 1) := by decide +kernel
theorem dX5_night_41 : decode cX5_night 41 = .ok (.iconst 0, 1) := by decide +kernel
theorem dX5_night_42 : decode cX5_night 42 = .ok (.invokevirtual 175, 3) := by decide +kernel
theorem dX5_night_45 : decode cX5_night 45 = .ok (.iload_n 1, 1) := by decide +kernel
theorem dX5_night_46 : decode cX5_night 46 = .ok (.ireturn, 1) := by decide +kernel
theorem dX5_undo_0 : decode cX5_undo 0 = .ok (.aload_n 0, 1) := by decide +kernel
theorem dX5_undo_1 : decode cX5_undo 1 = .ok (.getfield 49, 3) := by decide +kernel
theorem dX5_undo_4 : decode cX5_undo 4 = .ok (.getfield 125, 3) := by decide +kernel
theorem dX5_undo_7 : decode cX5_undo 7 = .ok (.getfield 85, 3) := by decide +kernel
theorem dX5_undo_10 : decode cX5_undo 10 = .ok (.istore_n 2, 1) := by decide +kernel
theorem dX5_undo_11 : decode cX5_undo 11 = .ok (.iload_n 1, 1) := by decide +kernel
theorem dX5_undo_12 : decode cX5_undo 12 = .ok (.iconst 0, 1) := by decide +kernel
theorem dX5_undo_13 : decode cX5_undo 13 = .ok (.iload_n 2, 1) := by decide +kernel
theorem dX5_undo_14 : decode cX5_undo 14 = .ok (.invokestatic 75, 3) := by decide +kernel
theorem dX5_undo_17 : decode cX5_undo 17 = .ok (.ifCond .ne 5, 3) := by decide +kernel
theorem dX5_undo_20 : decode cX5_undo 20 = .ok (.iconst (-1), 1) := by decide +kernel
theorem dX5_undo_21 : decode cX5_undo 21 = .ok (.ireturn, 1) := by decide +kernel
theorem dX5_undo_22 : decode cX5_undo 22 = .ok (.aload_n 0, 1) := by decide +kernel
theorem dX5_undo_23 : decode cX5_undo 23 = .ok (.getfield 49, 3) := by decide +kernel
theorem dX5_undo_26 : decode cX5_undo 26 = .ok (.getfield 125, 3) := by decide +kernel
theorem dX5_undo_29 : decode cX5_undo 29 = .ok (.iload_n 1, 1) := by decide +kernel
theorem dX5_undo_30 : decode cX5_undo 30 = .ok (.invokevirtual 197, 3) := by decide +kernel
theorem dX5_undo_33 : decode cX5_undo 33 = .ok (.aload_n 0, 1) := by decide +kernel
theorem dX5_undo_34 : decode cX5_undo 34 = .ok (.getfield 49, 3) := by decide +kernel
theorem dX5_undo_37 : decode cX5_undo 37 = .ok (.invokevirtual 128, 3) := by decide +kernel
theorem dX5_undo_40 : decode cX5_undo 40 = .ok (.iload_n 2, 1) := by decide +kernel
theorem dX5_undo_41 : decode cX5_undo 41 = .ok (.iload_n 1, 1) := by decide +kernel
theorem dX5_undo_42 : decode cX5_undo 42 = .ok (.isub, 1) := by decide +kernel
theorem dX5_undo_43 : decode cX5_undo 43 = .ok (.ireturn, 1) := by decide +kernel
theorem dX5_keep_0 : decode cX5_keep 0 = .ok (.aload_n 0, 1) := by decide +kernel
theorem dX5_keep_1 : decode cX5_keep 1 = .ok (.getfield 20, 3) := by decide +kernel
theorem dX5_keep_4 : decode cX5_keep 4 = .ok (.iload_n 1, 1) := by decide +kernel
theorem dX5_keep_5 : decode cX5_keep 5 = .ok (.invokestatic 99, 3) := by decide +kernel
theorem dX5_keep_8 : decode cX5_keep 8 = .ok (.astore_n 2, 1) := by decide +kernel
theorem dX5_keep_9 : decode cX5_keep 9 = .ok (.aload_n 2, 1) := by decide +kernel
theorem dX5_keep_10 : decode cX5_keep 10 = .ok (.ifnonnull 5, 3) := by decide +kernel
theorem dX5_keep_13 : decode cX5_keep 13 = .ok (.iconst (-1), 1) := by decide +kernel
theorem dX5_keep_14 : decode cX5_keep 14 = .ok (.ireturn, 1) := by decide +kernel
theorem dX5_keep_15 : decode cX5_keep 15 = .ok (.aload_n 0, 1) := by decide +kernel
theorem dX5_keep_16 : decode cX5_keep 16 = .ok (.getfield 49, 3) := by decide +kernel
theorem dX5_keep_19 : decode cX5_keep 19 = .ok (.getfield 131, 3) := by decide +kernel
theorem dX5_keep_22 : decode cX5_keep 22 = .ok (.ifCond .ne 6, 3) := by decide +kernel
theorem dX5_keep_25 : decode cX5_keep 25 = .ok (.bipush (-4), 2) := by decide +kernel
theorem dX5_keep_27 : decode cX5_keep 27 = .ok (.ireturn, 1) := by decide +kernel
theorem dX5_keep_28 : decode cX5_keep 28 = .ok (.aload_n 2, 1) := by decide +kernel
theorem dX5_keep_29 : decode cX5_keep 29 = .ok (.aload_n 0, 1) := by decide +kernel
theorem dX5_keep_30 : decode cX5_keep 30 = .ok (.getfield 49, 3) := by decide +kernel
theorem dX5_keep_33 : decode cX5_keep 33 = .ok (.getfield 125, 3) := by decide +kernel
theorem dX5_keep_36 : decode cX5_keep 36 = .ok (.invokevirtual 200, 3) := by decide +kernel
theorem dX5_keep_39 : decode cX5_keep 39 = .ok (.aload_n 2, 1) := by decide +kernel
theorem dX5_keep_40 : decode cX5_keep 40 = .ok (.getfield 85, 3) := by decide +kernel
theorem dX5_keep_43 : decode cX5_keep 43 = .ok (.ireturn, 1) := by decide +kernel
theorem dX5_on_0 : decode cX5_on 0 = .ok (.aload_n 0, 1) := by decide +kernel
theorem dX5_on_1 : decode cX5_on 1 = .ok (.getfield 20, 3) := by decide +kernel
theorem dX5_on_4 : decode cX5_on 4 = .ok (.iload_n 1, 1) := by decide +kernel
theorem dX5_on_5 : decode cX5_on 5 = .ok (.invokestatic 99, 3) := by decide +kernel
theorem dX5_on_8 : decode cX5_on 8 = .ok (.astore_n 2, 1) := by decide +kernel
theorem dX5_on_9 : decode cX5_on 9 = .ok (.aload_n 0, 1) := by decide +kernel
theorem dX5_on_10 : decode cX5_on 10 = .ok (.aload_n 2, 1) := by decide +kernel
theorem dX5_on_11 : decode cX5_on 11 = .ok (.invokevirtual 91, 3) := by decide +kernel
theorem dX5_on_14 : decode cX5_on 14 = .ok (.istore_n 3, 1) := by decide +kernel
theorem dX5_on_15 : decode cX5_on 15 = .ok (.aload_n 2, 1) := by decide +kernel
theorem dX5_on_16 : decode cX5_on 16 = .ok (.ifnull 7, 3) := by decide +kernel
theorem dX5_on_19 : decode cX5_on 19 = .ok (.iload_n 3, 1) := by decide +kernel
theorem dX5_on_20 : decode cX5_on 20 = .ok (.ifCond .eq 5, 3) := by decide +kernel
theorem dX5_on_23 : decode cX5_on 23 = .ok (.iload_n 3, 1) := by decide +kernel
theorem dX5_on_24 : decode cX5_on 24 = .ok (.ireturn, 1) := by decide +kernel
theorem dX5_on_25 : decode cX5_on 25 = .ok (.aload_n 0, 1) := by decide +kernel
theorem dX5_on_26 : decode cX5_on 26 = .ok (.getfield 49, 3) := by decide +kernel
theorem dX5_on_29 : decode cX5_on 29 = .ok (.getfield 125, 3) := by decide +kernel
theorem dX5_on_32 : decode cX5_on 32 = .ok (.aload_n 2, 1) := by decide +kernel
theorem dX5_on_33 : decode cX5_on 33 = .ok (.invokevirtual 200, 3) := by decide +kernel
theorem dX5_on_36 : decode cX5_on 36 = .ok (.aload_n 0, 1) := by decide +kernel
theorem dX5_on_37 : decode cX5_on 37 = .ok (.getfield 49, 3) := by decide +kernel
theorem dX5_on_40 : decode cX5_on 40 = .ok (.invokevirtual 128, 3) := by decide +kernel
theorem dX5_on_43 : decode cX5_on 43 = .ok (.aload_n 0, 1) := by decide +kernel
theorem dX5_on_44 : decode cX5_on 44 = .ok (.getfield 49, 3) := by decide +kernel
theorem dX5_on_47 : decode cX5_on 47 = .ok (.getfield 125, 3) := by decide +kernel
theorem dX5_on_50 : decode cX5_on 50 = .ok (.getfield 85, 3) := by decide +kernel
theorem dX5_on_53 : decode cX5_on 53 = .ok (.ireturn, 1) := by decide +kernel
theorem dX5_takes_0 : decode cX5_takes 0 = .ok (.aload_n 0, 1) := by decide +kernel
theorem dX5_takes_1 : decode cX5_takes 1 = .ok (.getfield 49, 3) := by decide +kernel
theorem dX5_takes_4 : decode cX5_takes 4 = .ok (.iload_n 1, 1) := by decide +kernel
theorem dX5_takes_5 : decode cX5_takes 5 = .ok (.invokevirtual 132, 3) := by decide +kernel
theorem dX5_takes_8 : decode cX5_takes 8 = .ok (.ifCond .eq 10, 3) := by decide +kernel
theorem dX5_takes_11 : decode cX5_takes 11 = .ok (.iload_n 2, 1) := by decide +kernel
theorem dX5_takes_12 : decode cX5_takes 12 = .ok (.invokestatic 185, 3) := by decide +kernel
theorem dX5_takes_15 : decode cX5_takes 15 = .ok (.ifCond .ne 5, 3) := by decide +kernel
theorem dX5_takes_18 : decode cX5_takes 18 = .ok (.iconst (-1), 1) := by decide +kernel
theorem dX5_takes_19 : decode cX5_takes 19 = .ok (.ireturn, 1) := by decide +kernel
theorem dX5_takes_20 : decode cX5_takes 20 = .ok (.aload_n 0, 1) := by decide +kernel
theorem dX5_takes_21 : decode cX5_takes 21 = .ok (.getfield 49, 3) := by decide +kernel
theorem dX5_takes_24 : decode cX5_takes 24 = .ok (.iload_n 1, 1) := by decide +kernel
theorem dX5_takes_25 : decode cX5_takes 25 = .ok (.iload_n 2, 1) := by decide +kernel
theorem dX5_takes_26 : decode cX5_takes 26 = .ok (.invokevirtual 149, 3) := by decide +kernel
theorem dX5_takes_29 : decode cX5_takes 29 = .ok (.ireturn, 1) := by decide +kernel
theorem dX5_pays_0 : decode cX5_pays 0 = .ok (.aload_n 0, 1) := by decide +kernel
theorem dX5_pays_1 : decode cX5_pays 1 = .ok (.getfield 49, 3) := by decide +kernel
theorem dX5_pays_4 : decode cX5_pays 4 = .ok (.iload_n 1, 1) := by decide +kernel
theorem dX5_pays_5 : decode cX5_pays 5 = .ok (.invokevirtual 132, 3) := by decide +kernel
theorem dX5_pays_8 : decode cX5_pays 8 = .ok (.ifCond .eq 14, 3) := by decide +kernel
theorem dX5_pays_11 : decode cX5_pays 11 = .ok (.aload_n 0, 1) := by decide +kernel
theorem dX5_pays_12 : decode cX5_pays 12 = .ok (.getfield 49, 3) := by decide +kernel
theorem dX5_pays_15 : decode cX5_pays 15 = .ok (.iload_n 1, 1) := by decide +kernel
theorem dX5_pays_16 : decode cX5_pays 16 = .ok (.invokevirtual 159, 3) := by decide +kernel
theorem dX5_pays_19 : decode cX5_pays 19 = .ok (.goto 4, 3) := by decide +kernel
theorem dX5_pays_22 : decode cX5_pays 22 = .ok (.iconst (-1), 1) := by decide +kernel
theorem dX5_pays_23 : decode cX5_pays 23 = .ok (.ireturn, 1) := by decide +kernel
theorem dX5_who_0 : decode cX5_who 0 = .ok (.iload_n 1, 1) := by decide +kernel
theorem dX5_who_1 : decode cX5_who 1 = .ok (.invokestatic 185, 3) := by decide +kernel
theorem dX5_who_4 : decode cX5_who 4 = .ok (.ifCond .eq 13, 3) := by decide +kernel
theorem dX5_who_7 : decode cX5_who 7 = .ok (.iload_n 2, 1) := by decide +kernel
theorem dX5_who_8 : decode cX5_who 8 = .ok (.iconst 1, 1) := by decide +kernel
theorem dX5_who_9 : decode cX5_who 9 = .ok (.bipush 9, 2) := by decide +kernel
theorem dX5_who_11 : decode cX5_who 11 = .ok (.invokestatic 75, 3) := by decide +kernel
theorem dX5_who_14 : decode cX5_who 14 = .ok (.ifCond .ne 5, 3) := by decide +kernel
theorem dX5_who_17 : decode cX5_who 17 = .ok (.iconst (-1), 1) := by decide +kernel
theorem dX5_who_18 : decode cX5_who 18 = .ok (.ireturn, 1) := by decide +kernel
theorem dX5_who_19 : decode cX5_who 19 = .ok (.iconst 0, 1) := by decide +kernel
theorem dX5_who_20 : decode cX5_who 20 = .ok (.istore_n 3, 1) := by decide +kernel
theorem dX5_who_21 : decode cX5_who 21 = .ok (.iconst 0, 1) := by decide +kernel
theorem dX5_who_22 : decode cX5_who 22 = .ok (.istore 4, 2) := by decide +kernel
theorem dX5_who_24 : decode cX5_who 24 = .ok (.iload 4, 2) := by decide +kernel
theorem dX5_who_26 : decode cX5_who 26 = .ok (.aload_n 0, 1) := by decide +kernel
theorem dX5_who_27 : decode cX5_who 27 = .ok (.getfield 49, 3) := by decide +kernel
theorem dX5_who_30 : decode cX5_who 30 = .ok (.getfield 131, 3) := by decide +kernel
theorem dX5_who_33 : decode cX5_who 33 = .ok (.if_icmp .ge 30, 3) := by decide +kernel
theorem dX5_who_36 : decode cX5_who 36 = .ok (.aload_n 0, 1) := by decide +kernel
theorem dX5_who_37 : decode cX5_who 37 = .ok (.getfield 49, 3) := by decide +kernel
theorem dX5_who_40 : decode cX5_who 40 = .ok (.iload 4, 2) := by decide +kernel
theorem dX5_who_42 : decode cX5_who 42 = .ok (.iload_n 1, 1) := by decide +kernel
theorem dX5_who_43 : decode cX5_who 43 = .ok (.invokevirtual 149, 3) := by decide +kernel
theorem dX5_who_46 : decode cX5_who 46 = .ok (.iload_n 2, 1) := by decide +kernel
theorem dX5_who_47 : decode cX5_who 47 = .ok (.if_icmp .ne 10, 3) := by decide +kernel
theorem dX5_who_50 : decode cX5_who 50 = .ok (.iload_n 3, 1) := by decide +kernel
theorem dX5_who_51 : decode cX5_who 51 = .ok (.iconst 1, 1) := by decide +kernel
theorem dX5_who_52 : decode cX5_who 52 = .ok (.iload 4, 2) := by decide +kernel
theorem dX5_who_54 : decode cX5_who 54 = .ok (.ishl, 1) := by decide +kernel
theorem dX5_who_55 : decode cX5_who 55 = .ok (.ior, 1) := by decide +kernel
theorem dX5_who_56 : decode cX5_who 56 = .ok (.istore_n 3, 1) := by decide +kernel
theorem dX5_who_57 : decode cX5_who 57 = .ok (.iinc 4 1, 3) := by decide +kernel
theorem dX5_who_60 : decode cX5_who 60 = .ok (.goto (-36), 3) := by decide +kernel
theorem dX5_who_63 : decode cX5_who 63 = .ok (.iload_n 3, 1) := by decide +kernel
theorem dX5_who_64 : decode cX5_who 64 = .ok (.ireturn, 1) := by decide +kernel
theorem dX5_soonest_0 : decode cX5_soonest 0 = .ok (.aload_n 0, 1) := by decide +kernel
theorem dX5_soonest_1 : decode cX5_soonest 1 = .ok (.getfield 49, 3) := by decide +kernel
theorem dX5_soonest_4 : decode cX5_soonest 4 = .ok (.iload_n 1, 1) := by decide +kernel
theorem dX5_soonest_5 : decode cX5_soonest 5 = .ok (.invokevirtual 207, 3) := by decide +kernel
theorem dX5_soonest_8 : decode cX5_soonest 8 = .ok (.ifCond .ne 5, 3) := by decide +kernel
theorem dX5_soonest_11 : decode cX5_soonest 11 = .ok (.iconst (-1), 1) := by decide +kernel
theorem dX5_soonest_12 : decode cX5_soonest 12 = .ok (.ireturn, 1) := by decide +kernel
theorem dX5_soonest_13 : decode cX5_soonest 13 = .ok (.aload_n 0, 1) := by decide +kernel
theorem dX5_soonest_14 : decode cX5_soonest 14 = .ok (.getfield 49, 3) := by decide +kernel
theorem dX5_soonest_17 : decode cX5_soonest 17 = .ok (.iload_n 1, 1) := by decide +kernel
theorem dX5_soonest_18 : decode cX5_soonest 18 = .ok (.invokevirtual 210, 3) := by decide +kernel
theorem dX5_soonest_21 : decode cX5_soonest 21 = .ok (.ifCond .ne 6, 3) := by decide +kernel
theorem dX5_soonest_24 : decode cX5_soonest 24 = .ok (.bipush (-4), 2) := by decide +kernel
theorem dX5_soonest_26 : decode cX5_soonest 26 = .ok (.ireturn, 1) := by decide +kernel
theorem dX5_soonest_27 : decode cX5_soonest 27 = .ok (.aload_n 0, 1) := by decide +kernel
theorem dX5_soonest_28 : decode cX5_soonest 28 = .ok (.getfield 49, 3) := by decide +kernel
theorem dX5_soonest_31 : decode cX5_soonest 31 = .ok (.iload_n 1, 1) := by decide +kernel
theorem dX5_soonest_32 : decode cX5_soonest 32 = .ok (.invokevirtual 213, 3) := by decide +kernel
theorem dX5_soonest_35 : decode cX5_soonest 35 = .ok (.iload_n 1, 1) := by decide +kernel
theorem dX5_soonest_36 : decode cX5_soonest 36 = .ok (.aload_n 0, 1) := by decide +kernel
theorem dX5_soonest_37 : decode cX5_soonest 37 = .ok (.getfield 49, 3) := by decide +kernel
theorem dX5_soonest_40 : decode cX5_soonest 40 = .ok (.getfield 169, 3) := by decide +kernel
theorem dX5_soonest_43 : decode cX5_soonest 43 = .ok (.invokestatic 216, 3) := by decide +kernel
theorem dX5_soonest_46 : decode cX5_soonest 46 = .ok (.iadd, 1) := by decide +kernel
theorem dX5_soonest_47 : decode cX5_soonest 47 = .ok (.ireturn, 1) := by decide +kernel
theorem dX5_intime_0 : decode cX5_intime 0 = .ok (.aload_n 0, 1) := by decide +kernel
theorem dX5_intime_1 : decode cX5_intime 1 = .ok (.getfield 13, 3) := by decide +kernel
theorem dX5_intime_4 : decode cX5_intime 4 = .ok (.iload_n 2, 1) := by decide +kernel
theorem dX5_intime_5 : decode cX5_intime 5 = .ok (.invokestatic 99, 3) := by decide +kernel
theorem dX5_intime_8 : decode cX5_intime 8 = .ok (.astore_n 3, 1) := by decide +kernel
theorem dX5_intime_9 : decode cX5_intime 9 = .ok (.aload_n 3, 1) := by decide +kernel
theorem dX5_intime_10 : decode cX5_intime 10 = .ok (.ifnull 14, 3) := by decide +kernel
theorem dX5_intime_13 : decode cX5_intime 13 = .ok (.aload_n 0, 1) := by decide +kernel
theorem dX5_intime_14 : decode cX5_intime 14 = .ok (.getfield 49, 3) := by decide +kernel
theorem dX5_intime_17 : decode cX5_intime 17 = .ok (.iload_n 1, 1) := by decide +kernel
theorem dX5_intime_18 : decode cX5_intime 18 = .ok (.invokevirtual 207, 3) := by decide +kernel
theorem dX5_intime_21 : decode cX5_intime 21 = .ok (.ifCond .ne 5, 3) := by decide +kernel
theorem dX5_intime_24 : decode cX5_intime 24 = .ok (.iconst (-1), 1) := by decide +kernel
theorem dX5_intime_25 : decode cX5_intime 25 = .ok (.ireturn, 1) := by decide +kernel
theorem dX5_intime_26 : decode cX5_intime 26 = .ok (.aload_n 0, 1) := by decide +kernel
theorem dX5_intime_27 : decode cX5_intime 27 = .ok (.getfield 49, 3) := by decide +kernel
theorem dX5_intime_30 : decode cX5_intime 30 = .ok (.iload_n 1, 1) := by decide +kernel
theorem dX5_intime_31 : decode cX5_intime 31 = .ok (.invokevirtual 210, 3) := by decide +kernel
theorem dX5_intime_34 : decode cX5_intime 34 = .ok (.ifCond .ne 6, 3) := by decide +kernel
theorem dX5_intime_37 : decode cX5_intime 37 = .ok (.bipush (-4), 2) := by decide +kernel
theorem dX5_intime_39 : decode cX5_intime 39 = .ok (.ireturn, 1) := by decide +kernel
theorem dX5_intime_40 : decode cX5_intime 40 = .ok (.aload_n 0, 1) := by decide +kernel
theorem dX5_intime_41 : decode cX5_intime 41 = .ok (.getfield 33, 3) := by decide +kernel
theorem dX5_intime_44 : decode cX5_intime 44 = .ok (.aload_n 0, 1) := by decide +kernel
theorem dX5_intime_45 : decode cX5_intime 45 = .ok (.getfield 49, 3) := by decide +kernel
theorem dX5_intime_48 : decode cX5_intime 48 = .ok (.iload_n 1, 1) := by decide +kernel
theorem dX5_intime_49 : decode cX5_intime 49 = .ok (.invokevirtual 219, 3) := by decide +kernel
theorem dX5_intime_52 : decode cX5_intime 52 = .ok (.istore 4, 2) := by decide +kernel
theorem dX5_intime_54 : decode cX5_intime 54 = .ok (.iload 4, 2) := by decide +kernel
theorem dX5_intime_56 : decode cX5_intime 56 = .ok (.bipush (-9), 2) := by decide +kernel
theorem dX5_intime_58 : decode cX5_intime 58 = .ok (.if_icmp .eq 14, 3) := by decide +kernel
theorem dX5_intime_61 : decode cX5_intime 61 = .ok (.aload_n 3, 1) := by decide +kernel
theorem dX5_intime_62 : decode cX5_intime 62 = .ok (.aload_n 0, 1) := by decide +kernel
theorem dX5_intime_63 : decode cX5_intime 63 = .ok (.getfield 33, 3) := by decide +kernel
theorem dX5_intime_66 : decode cX5_intime 66 = .ok (.getfield 223, 3) := by decide +kernel
theorem dX5_intime_69 : decode cX5_intime 69 = .ok (.invokevirtual 200, 3) := by decide +kernel
theorem dX5_intime_72 : decode cX5_intime 72 = .ok (.iload 4, 2) := by decide +kernel
theorem dX5_intime_74 : decode cX5_intime 74 = .ok (.ireturn, 1) := by decide +kernel
theorem dX5_many_0 : decode cX5_many 0 = .ok (.aload_n 0, 1) := by decide +kernel
theorem dX5_many_1 : decode cX5_many 1 = .ok (.getfield 49, 3) := by decide +kernel
theorem dX5_many_4 : decode cX5_many 4 = .ok (.getfield 131, 3) := by decide +kernel
theorem dX5_many_7 : decode cX5_many 7 = .ok (.ifCond .ne 6, 3) := by decide +kernel
theorem dX5_many_10 : decode cX5_many 10 = .ok (.bipush (-4), 2) := by decide +kernel
theorem dX5_many_12 : decode cX5_many 12 = .ok (.ireturn, 1) := by decide +kernel
theorem dX5_many_13 : decode cX5_many 13 = .ok (.aload_n 0, 1) := by decide +kernel
theorem dX5_many_14 : decode cX5_many 14 = .ok (.aload_n 0, 1) := by decide +kernel
theorem dX5_many_15 : decode cX5_many 15 = .ok (.getfield 33, 3) := by decide +kernel
theorem dX5_many_18 : decode cX5_many 18 = .ok (.aload_n 0, 1) := by decide +kernel
theorem dX5_many_19 : decode cX5_many 19 = .ok (.getfield 49, 3) := by decide +kernel
theorem dX5_many_22 : decode cX5_many 22 = .ok (.invokevirtual 226, 3) := by decide +kernel
theorem dX5_many_25 : decode cX5_many 25 = .ok (.putfield 107, 3) := by decide +kernel
theorem dX5_many_28 : decode cX5_many 28 = .ok (.aload_n 0, 1) := by decide +kernel
theorem dX5_many_29 : decode cX5_many 29 = .ok (.getfield 107, 3) := by decide +kernel
theorem dX5_many_32 : decode cX5_many 32 = .ok (.invokestatic 192, 3) := by decide +kernel
theorem dX5_many_35 : decode cX5_many 35 = .ok (.ireturn, 1) := by decide +kernel
theorem dX5_dates_0 : decode cX5_dates 0 = .ok (.aload_n 0, 1) := by decide +kernel
theorem dX5_dates_1 : decode cX5_dates 1 = .ok (.getfield 13, 3) := by decide +kernel
theorem dX5_dates_4 : decode cX5_dates 4 = .ok (.iload_n 1, 1) := by decide +kernel
theorem dX5_dates_5 : decode cX5_dates 5 = .ok (.invokestatic 99, 3) := by decide +kernel
theorem dX5_dates_8 : decode cX5_dates 8 = .ok (.astore_n 2, 1) := by decide +kernel
theorem dX5_dates_9 : decode cX5_dates 9 = .ok (.aload_n 2, 1) := by decide +kernel
theorem dX5_dates_10 : decode cX5_dates 10 = .ok (.ifnonnull 5, 3) := by decide +kernel
theorem dX5_dates_13 : decode cX5_dates 13 = .ok (.iconst (-1), 1) := by decide +kernel
theorem dX5_dates_14 : decode cX5_dates 14 = .ok (.ireturn, 1) := by decide +kernel
theorem dX5_dates_15 : decode cX5_dates 15 = .ok (.aload_n 0, 1) := by decide +kernel
theorem dX5_dates_16 : decode cX5_dates 16 = .ok (.getfield 49, 3) := by decide +kernel
theorem dX5_dates_19 : decode cX5_dates 19 = .ok (.getfield 131, 3) := by decide +kernel
theorem dX5_dates_22 : decode cX5_dates 22 = .ok (.ifCond .ne 6, 3) := by decide +kernel
theorem dX5_dates_25 : decode cX5_dates 25 = .ok (.bipush (-4), 2) := by decide +kernel
theorem dX5_dates_27 : decode cX5_dates 27 = .ok (.ireturn, 1) := by decide +kernel
theorem dX5_dates_28 : decode cX5_dates 28 = .ok (.aload_n 0, 1) := by decide +kernel
theorem dX5_dates_29 : decode cX5_dates 29 = .ok (.getfield 49, 3) := by decide +kernel
theorem dX5_dates_32 : decode cX5_dates 32 = .ok (.iconst 0, 1) := by decide +kernel
theorem dX5_dates_33 : decode cX5_dates 33 = .ok (.iconst 1, 1) := by decide +kernel
theorem dX5_dates_34 : decode cX5_dates 34 = .ok (.invokevirtual 230, 3) := by decide +kernel
theorem dX5_dates_37 : decode cX5_dates 37 = .ok (.istore_n 3, 1) := by decide +kernel
theorem dX5_dates_38 : decode cX5_dates 38 = .ok (.aload_n 0, 1) := by decide +kernel
theorem dX5_dates_39 : decode cX5_dates 39 = .ok (.getfield 49, 3) := by decide +kernel
theorem dX5_dates_42 : decode cX5_dates 42 = .ok (.iconst 0, 1) := by decide +kernel
theorem dX5_dates_43 : decode cX5_dates 43 = .ok (.iconst (-1), 1) := by decide +kernel
theorem dX5_dates_44 : decode cX5_dates 44 = .ok (.invokevirtual 230, 3) := by decide +kernel
theorem dX5_dates_47 : decode cX5_dates 47 = .ok (.istore 4, 2) := by decide +kernel
theorem dX5_dates_49 : decode cX5_dates 49 = .ok (.iload_n 3, 1) := by decide +kernel
theorem dX5_dates_50 : decode cX5_dates 50 = .ok (.iload 4, 2) := by decide +kernel
theorem dX5_dates_52 : decode cX5_dates 52 = .ok (.if_icmp .gt 7, 3) := by decide +kernel
theorem dX5_dates_55 : decode cX5_dates 55 = .ok (.iconst 1, 1) := by decide +kernel
theorem dX5_dates_56 : decode cX5_dates 56 = .ok (.goto 4, 3) := by decide +kernel
theorem dX5_dates_59 : decode cX5_dates 59 = .ok (.iconst (-1), 1) := by decide +kernel
theorem dX5_dates_60 : decode cX5_dates 60 = .ok (.istore 5, 2) := by decide +kernel
theorem dX5_dates_62 : decode cX5_dates 62 = .ok (.aload_n 2, 1) := by decide +kernel
theorem dX5_dates_63 : decode cX5_dates 63 = .ok (.aload_n 0, 1) := by decide +kernel
theorem dX5_dates_64 : decode cX5_dates 64 = .ok (.getfield 49, 3) := by decide +kernel
theorem dX5_dates_67 : decode cX5_dates 67 = .ok (.getfield 131, 3) := by decide +kernel
theorem dX5_dates_70 : decode cX5_dates 70 = .ok (.iconst 0, 1) := by decide +kernel
theorem dX5_dates_71 : decode cX5_dates 71 = .ok (.invokevirtual 60, 3) := by decide +kernel
theorem dX5_dates_74 : decode cX5_dates 74 = .ok (.iconst 0, 1) := by decide +kernel
theorem dX5_dates_75 : decode cX5_dates 75 = .ok (.istore 6, 2) := by decide +kernel
theorem dX5_dates_77 : decode cX5_dates 77 = .ok (.iconst 0, 1) := by decide +kernel
theorem dX5_dates_78 : decode cX5_dates 78 = .ok (.istore 7, 2) := by decide +kernel
theorem dX5_dates_80 : decode cX5_dates 80 = .ok (.iload 7, 2) := by decide +kernel
theorem dX5_dates_82 : decode cX5_dates 82 = .ok (.aload_n 0, 1) := by decide +kernel
theorem dX5_dates_83 : decode cX5_dates 83 = .ok (.getfield 49, 3) := by decide +kernel
theorem dX5_dates_86 : decode cX5_dates 86 = .ok (.getfield 131, 3) := by decide +kernel
theorem dX5_dates_89 : decode cX5_dates 89 = .ok (.if_icmp .ge 39, 3) := by decide +kernel
theorem dX5_dates_92 : decode cX5_dates 92 = .ok (.aload_n 0, 1) := by decide +kernel
theorem dX5_dates_93 : decode cX5_dates 93 = .ok (.getfield 49, 3) := by decide +kernel
theorem dX5_dates_96 : decode cX5_dates 96 = .ok (.iload 6, 2) := by decide +kernel
theorem dX5_dates_98 : decode cX5_dates 98 = .ok (.iload 5, 2) := by decide +kernel
theorem dX5_dates_100 : decode cX5_dates 100 = .ok (.invokevirtual 230, 3) := by decide +kernel
theorem dX5_dates_103 : decode cX5_dates 103 = .ok (.istore 8, 2) := by decide +kernel
theorem dX5_dates_105 : decode cX5_dates 105 = .ok (.aload_n 2, 1) := by decide +kernel
theorem dX5_dates_106 : decode cX5_dates 106 = .ok (.iload 7, 2) := by decide +kernel
theorem dX5_dates_108 : decode cX5_dates 108 = .ok (.iload 8, 2) := by decide +kernel
theorem dX5_dates_110 : decode cX5_dates 110 = .ok (.invokevirtual 72, 3) := by decide +kernel
theorem dX5_dates_113 : decode cX5_dates 113 = .ok (.iload 6, 2) := by decide +kernel
theorem dX5_dates_115 : decode cX5_dates 115 = .ok (.iconst 1, 1) := by decide +kernel
theorem dX5_dates_116 : decode cX5_dates 116 = .ok (.iload 8, 2) := by decide +kernel
theorem dX5_dates_118 : decode cX5_dates 118 = .ok (.ishl, 1) := by decide +kernel
theorem dX5_dates_119 : decode cX5_dates 119 = .ok (.ior, 1) := by decide +kernel
theorem dX5_dates_120 : decode cX5_dates 120 = .ok (.istore 6, 2) := by decide +kernel
theorem dX5_dates_122 : decode cX5_dates 122 = .ok (.iinc 7 1, 3) := by decide +kernel
theorem dX5_dates_125 : decode cX5_dates 125 = .ok (.goto (-45), 3) := by decide +kernel
theorem dX5_dates_128 : decode cX5_dates 128 = .ok (.aload_n 0, 1) := by decide +kernel
theorem dX5_dates_129 : decode cX5_dates 129 = .ok (.getfield 49, 3) := by decide +kernel
theorem dX5_dates_132 : decode cX5_dates 132 = .ok (.getfield 146, 3) := by decide +kernel
theorem dX5_dates_135 : decode cX5_dates 135 = .ok (.iload 4, 2) := by decide +kernel
theorem dX5_dates_137 : decode cX5_dates 137 = .ok (.invokevirtual 68, 3) := by decide +kernel
theorem dX5_dates_140 : decode cX5_dates 140 = .ok (.aload_n 0, 1) := by decide +kernel
theorem dX5_dates_141 : decode cX5_dates 141 = .ok (.getfield 49, 3) := by decide +kernel
theorem dX5_dates_144 : decode cX5_dates 144 = .ok (.getfield 146, 3) := by decide +kernel
theorem dX5_dates_147 : decode cX5_dates 147 = .ok (.iload_n 3, 1) := by decide +kernel
theorem dX5_dates_148 : decode cX5_dates 148 = .ok (.invokevirtual 68, 3) := by decide +kernel
theorem dX5_dates_151 : decode cX5_dates 151 = .ok (.isub, 1) := by decide +kernel
theorem dX5_dates_152 : decode cX5_dates 152 = .ok (.ireturn, 1) := by decide +kernel
theorem dX5_refusedPairs_0 : decode cX5_refusedPairs 0 = .ok (.aload_n 0, 1) := by decide +kernel
theorem dX5_refusedPairs_1 : decode cX5_refusedPairs 1 = .ok (.aload_n 1, 1) := by decide +kernel
theorem dX5_refusedPairs_2 : decode cX5_refusedPairs 2 = .ok (.invokevirtual 91, 3) := by decide +kernel
theorem dX5_refusedPairs_5 : decode cX5_refusedPairs 5 = .ok (.istore_n 2, 1) := by decide +kernel
theorem dX5_refusedPairs_6 : decode cX5_refusedPairs 6 = .ok (.aload_n 1, 1) := by decide +kernel
theorem dX5_refusedPairs_7 : decode cX5_refusedPairs 7 = .ok (.ifnull 7, 3) := by decide +kernel
theorem dX5_refusedPairs_10 : decode cX5_refusedPairs 10 = .ok (.iload_n 2, 1) := by decide +kernel
theorem dX5_refusedPairs_11 : decode cX5_refusedPairs 11 = .ok (.ifCond .eq 5, 3) := by decide +kernel
theorem dX5_refusedPairs_14 : decode cX5_refusedPairs 14 = .ok (.iload_n 2, 1) := by decide +kernel
theorem dX5_refusedPairs_15 : decode cX5_refusedPairs 15 = .ok (.ireturn, 1) := by decide +kernel
theorem dX5_refusedPairs_16 : decode cX5_refusedPairs 16 = .ok (.aload_n 1, 1) := by decide +kernel
theorem dX5_refusedPairs_17 : decode cX5_refusedPairs 17 = .ok (.getfield 85, 3) := by decide +kernel
theorem dX5_refusedPairs_20 : decode cX5_refusedPairs 20 = .ok (.iconst 2, 1) := by decide +kernel
theorem dX5_refusedPairs_21 : decode cX5_refusedPairs 21 = .ok (.irem, 1) := by decide +kernel
theorem dX5_refusedPairs_22 : decode cX5_refusedPairs 22 = .ok (.ifCond .ne 12, 3) := by decide +kernel
theorem dX5_refusedPairs_25 : decode cX5_refusedPairs 25 = .ok (.aload_n 1, 1) := by decide +kernel
theorem dX5_refusedPairs_26 : decode cX5_refusedPairs 26 = .ok (.getfield 85, 3) := by decide +kernel
theorem dX5_refusedPairs_29 : decode cX5_refusedPairs 29 = .ok (.bipush 16, 2) := by decide +kernel
theorem dX5_refusedPairs_31 : decode cX5_refusedPairs 31 = .ok (.if_icmp .le 9, 3) := by decide +kernel
theorem dX5_refusedPairs_34 : decode cX5_refusedPairs 34 = .ok (.aload_n 0, 1) := by decide +kernel
theorem dX5_refusedPairs_35 : decode cX5_refusedPairs 35 = .ok (.iconst 5, 1) := by decide +kernel
theorem dX5_refusedPairs_36 : decode cX5_refusedPairs 36 = .ok (.invokevirtual 88, 3) := by decide +kernel
theorem dX5_refusedPairs_39 : decode cX5_refusedPairs 39 = .ok (.ireturn, 1) := by decide +kernel
theorem dX5_refusedPairs_40 : decode cX5_refusedPairs 40 = .ok (.iconst 0, 1) := by decide +kernel
theorem dX5_refusedPairs_41 : decode cX5_refusedPairs 41 = .ok (.istore_n 3, 1) := by decide +kernel
theorem dX5_refusedPairs_42 : decode cX5_refusedPairs 42 = .ok (.iload_n 3, 1) := by decide +kernel
theorem dX5_refusedPairs_43 : decode cX5_refusedPairs 43 = .ok (.aload_n 1, 1) := by decide +kernel
theorem dX5_refusedPairs_44 : decode cX5_refusedPairs 44 = .ok (.getfield 85, 3) := by decide +kernel
theorem dX5_refusedPairs_47 : decode cX5_refusedPairs 47 = .ok (.if_icmp .ge 42, 3) := by decide +kernel
theorem dX5_refusedPairs_50 : decode cX5_refusedPairs 50 = .ok (.aload_n 1, 1) := by decide +kernel
theorem dX5_refusedPairs_51 : decode cX5_refusedPairs 51 = .ok (.iload_n 3, 1) := by decide +kernel
theorem dX5_refusedPairs_52 : decode cX5_refusedPairs 52 = .ok (.invokevirtual 68, 3) := by decide +kernel
theorem dX5_refusedPairs_55 : decode cX5_refusedPairs 55 = .ok (.invokestatic 185, 3) := by decide +kernel
theorem dX5_refusedPairs_58 : decode cX5_refusedPairs 58 = .ok (.ifCond .eq 19, 3) := by decide +kernel
theorem dX5_refusedPairs_61 : decode cX5_refusedPairs 61 = .ok (.aload_n 1, 1) := by decide +kernel
theorem dX5_refusedPairs_62 : decode cX5_refusedPairs 62 = .ok (.iload_n 3, 1) := by decide +kernel
theorem dX5_refusedPairs_63 : decode cX5_refusedPairs 63 = .ok (.iconst 1, 1) := by decide +kernel
theorem dX5_refusedPairs_64 : decode cX5_refusedPairs 64 = .ok (.iadd, 1) := by decide +kernel
theorem dX5_refusedPairs_65 : decode cX5_refusedPairs 65 = .ok (.invokevirtual 68, 3) := by decide +kernel
theorem dX5_refusedPairs_68 : decode cX5_refusedPairs 68 = .ok (.iconst 0, 1) := by decide +kernel
theorem dX5_refusedPairs_69 : decode cX5_refusedPairs 69 = .ok (.bipush 9, 2) := by decide +kernel
theorem dX5_refusedPairs_71 : decode cX5_refusedPairs 71 = .ok (.invokestatic 75, 3) := by decide +kernel
theorem dX5_refusedPairs_74 : decode cX5_refusedPairs 74 = .ok (.ifCond .ne 9, 3) := by decide +kernel
theorem dX5_refusedPairs_77 : decode cX5_refusedPairs 77 = .ok (.aload_n 0, 1) := by decide +kernel
theorem dX5_refusedPairs_78 : decode cX5_refusedPairs 78 = .ok (.iconst 3, 1) := by decide +kernel
theorem dX5_refusedPairs_79 : decode cX5_refusedPairs 79 = .ok (.invokevirtual 88, 3) := by decide +kernel
theorem dX5_refusedPairs_82 : decode cX5_refusedPairs 82 = .ok (.ireturn, 1) := by decide +kernel
theorem dX5_refusedPairs_83 : decode cX5_refusedPairs 83 = .ok (.iinc 3 2, 3) := by decide +kernel
theorem dX5_refusedPairs_86 : decode cX5_refusedPairs 86 = .ok (.goto (-44), 3) := by decide +kernel
theorem dX5_refusedPairs_89 : decode cX5_refusedPairs 89 = .ok (.iconst 0, 1) := by decide +kernel
theorem dX5_refusedPairs_90 : decode cX5_refusedPairs 90 = .ok (.ireturn, 1) := by decide +kernel
theorem dX5_tookOf_0 : decode cX5_tookOf 0 = .ok (.iload_n 0, 1) := by decide +kernel
theorem dX5_tookOf_1 : decode cX5_tookOf 1 = .ok (.iload_n 1, 1) := by decide +kernel
theorem dX5_tookOf_2 : decode cX5_tookOf 2 = .ok (.iload_n 2, 1) := by decide +kernel
theorem dX5_tookOf_3 : decode cX5_tookOf 3 = .ok (.invokestatic 155, 3) := by decide +kernel
theorem dX5_tookOf_6 : decode cX5_tookOf 6 = .ok (.istore_n 3, 1) := by decide +kernel
theorem dX5_tookOf_7 : decode cX5_tookOf 7 = .ok (.iload_n 3, 1) := by decide +kernel
theorem dX5_tookOf_8 : decode cX5_tookOf 8 = .ok (.bipush (-9), 2) := by decide +kernel
theorem dX5_tookOf_10 : decode cX5_tookOf 10 = .ok (.if_icmp .ne 7, 3) := by decide +kernel
theorem dX5_tookOf_13 : decode cX5_tookOf 13 = .ok (.iconst 0, 1) := by decide +kernel
theorem dX5_tookOf_14 : decode cX5_tookOf 14 = .ok (.goto 4, 3) := by decide +kernel
theorem dX5_tookOf_17 : decode cX5_tookOf 17 = .ok (.iload_n 3, 1) := by decide +kernel
theorem dX5_tookOf_18 : decode cX5_tookOf 18 = .ok (.ireturn, 1) := by decide +kernel
theorem dX5_canBe_0 : decode cX5_canBe 0 = .ok (.iconst 0, 1) := by decide +kernel
theorem dX5_canBe_1 : decode cX5_canBe 1 = .ok (.istore_n 3, 1) := by decide +kernel
theorem dX5_canBe_2 : decode cX5_canBe 2 = .ok (.iload_n 3, 1) := by decide +kernel
theorem dX5_canBe_3 : decode cX5_canBe 3 = .ok (.aload_n 2, 1) := by decide +kernel
theorem dX5_canBe_4 : decode cX5_canBe 4 = .ok (.getfield 85, 3) := by decide +kernel
theorem dX5_canBe_7 : decode cX5_canBe 7 = .ok (.if_icmp .ge 37, 3) := by decide +kernel
theorem dX5_canBe_10 : decode cX5_canBe 10 = .ok (.iload_n 1, 1) := by decide +kernel
theorem dX5_canBe_11 : decode cX5_canBe 11 = .ok (.aload_n 2, 1) := by decide +kernel
theorem dX5_canBe_12 : decode cX5_canBe 12 = .ok (.iload_n 3, 1) := by decide +kernel
theorem dX5_canBe_13 : decode cX5_canBe 13 = .ok (.invokevirtual 68, 3) := by decide +kernel
theorem dX5_canBe_16 : decode cX5_canBe 16 = .ok (.aload_n 0, 1) := by decide +kernel
theorem dX5_canBe_17 : decode cX5_canBe 17 = .ok (.getfield 49, 3) := by decide +kernel
theorem dX5_canBe_20 : decode cX5_canBe 20 = .ok (.getfield 152, 3) := by decide +kernel
theorem dX5_canBe_23 : decode cX5_canBe 23 = .ok (.invokestatic 233, 3) := by decide +kernel
theorem dX5_canBe_26 : decode cX5_canBe 26 = .ok (.aload_n 2, 1) := by decide +kernel
theorem dX5_canBe_27 : decode cX5_canBe 27 = .ok (.iload_n 3, 1) := by decide +kernel
theorem dX5_canBe_28 : decode cX5_canBe 28 = .ok (.iconst 1, 1) := by decide +kernel
theorem dX5_canBe_29 : decode cX5_canBe 29 = .ok (.iadd, 1) := by decide +kernel
theorem dX5_canBe_30 : decode cX5_canBe 30 = .ok (.invokevirtual 68, 3) := by decide +kernel
theorem dX5_canBe_33 : decode cX5_canBe 33 = .ok (.if_icmp .eq 5, 3) := by decide +kernel
theorem dX5_canBe_36 : decode cX5_canBe 36 = .ok (.iconst 0, 1) := by decide +kernel
theorem dX5_canBe_37 : decode cX5_canBe 37 = .ok (.ireturn, 1) := by decide +kernel
theorem dX5_canBe_38 : decode cX5_canBe 38 = .ok (.iinc 3 2, 3) := by decide +kernel
theorem dX5_canBe_41 : decode cX5_canBe 41 = .ok (.goto (-39), 3) := by decide +kernel
theorem dX5_canBe_44 : decode cX5_canBe 44 = .ok (.iconst 1, 1) := by decide +kernel
theorem dX5_canBe_45 : decode cX5_canBe 45 = .ok (.ireturn, 1) := by decide +kernel
theorem dX5_kindsBy_0 : decode cX5_kindsBy 0 = .ok (.iconst 0, 1) := by decide +kernel
theorem dX5_kindsBy_1 : decode cX5_kindsBy 1 = .ok (.istore_n 2, 1) := by decide +kernel
theorem dX5_kindsBy_2 : decode cX5_kindsBy 2 = .ok (.iconst 0, 1) := by decide +kernel
theorem dX5_kindsBy_3 : decode cX5_kindsBy 3 = .ok (.istore_n 3, 1) := by decide +kernel
theorem dX5_kindsBy_4 : decode cX5_kindsBy 4 = .ok (.iload_n 3, 1) := by decide +kernel
theorem dX5_kindsBy_5 : decode cX5_kindsBy 5 = .ok (.bipush 6, 2) := by decide +kernel
theorem dX5_kindsBy_7 : decode cX5_kindsBy 7 = .ok (.if_icmp .ge 24, 3) := by decide +kernel
theorem dX5_kindsBy_10 : decode cX5_kindsBy 10 = .ok (.aload_n 0, 1) := by decide +kernel
theorem dX5_kindsBy_11 : decode cX5_kindsBy 11 = .ok (.iload_n 3, 1) := by decide +kernel
theorem dX5_kindsBy_12 : decode cX5_kindsBy 12 = .ok (.aload_n 1, 1) := by decide +kernel
theorem dX5_kindsBy_13 : decode cX5_kindsBy 13 = .ok (.invokevirtual 236, 3) := by decide +kernel
theorem dX5_kindsBy_16 : decode cX5_kindsBy 16 = .ok (.ifCond .eq 9, 3) := by decide +kernel
theorem dX5_kindsBy_19 : decode cX5_kindsBy 19 = .ok (.iload_n 2, 1) := by decide +kernel
theorem dX5_kindsBy_20 : decode cX5_kindsBy 20 = .ok (.iconst 1, 1) := by decide +kernel
theorem dX5_kindsBy_21 : decode cX5_kindsBy 21 = .ok (.iload_n 3, 1) := by decide +kernel
theorem dX5_kindsBy_22 : decode cX5_kindsBy 22 = .ok (.ishl, 1) := by decide +kernel
theorem dX5_kindsBy_23 : decode cX5_kindsBy 23 = .ok (.ior, 1) := by decide +kernel
theorem dX5_kindsBy_24 : decode cX5_kindsBy 24 = .ok (.istore_n 2, 1) := by decide +kernel
theorem dX5_kindsBy_25 : decode cX5_kindsBy 25 = .ok (.iinc 3 1, 3) := by decide +kernel
theorem dX5_kindsBy_28 : decode cX5_kindsBy 28 = .ok (.goto (-24), 3) := by decide +kernel
theorem dX5_kindsBy_31 : decode cX5_kindsBy 31 = .ok (.iload_n 2, 1) := by decide +kernel
theorem dX5_kindsBy_32 : decode cX5_kindsBy 32 = .ok (.ireturn, 1) := by decide +kernel
theorem dX5_holds_0 : decode cX5_holds 0 = .ok (.iload_n 0, 1) := by decide +kernel
theorem dX5_holds_1 : decode cX5_holds 1 = .ok (.iload_n 1, 1) := by decide +kernel
theorem dX5_holds_2 : decode cX5_holds 2 = .ok (.ishr, 1) := by decide +kernel
theorem dX5_holds_3 : decode cX5_holds 3 = .ok (.iconst 1, 1) := by decide +kernel
theorem dX5_holds_4 : decode cX5_holds 4 = .ok (.iand, 1) := by decide +kernel
theorem dX5_holds_5 : decode cX5_holds 5 = .ok (.ifCond .eq 7, 3) := by decide +kernel
theorem dX5_holds_8 : decode cX5_holds 8 = .ok (.iconst 1, 1) := by decide +kernel
theorem dX5_holds_9 : decode cX5_holds 9 = .ok (.goto 4, 3) := by decide +kernel
theorem dX5_holds_12 : decode cX5_holds 12 = .ok (.iconst 0, 1) := by decide +kernel
theorem dX5_holds_13 : decode cX5_holds 13 = .ok (.ireturn, 1) := by decide +kernel
theorem dX5_partOf_0 : decode cX5_partOf 0 = .ok (.iconst 0, 1) := by decide +kernel
theorem dX5_partOf_1 : decode cX5_partOf 1 = .ok (.istore 4, 2) := by decide +kernel
theorem dX5_partOf_3 : decode cX5_partOf 3 = .ok (.iconst 0, 1) := by decide +kernel
theorem dX5_partOf_4 : decode cX5_partOf 4 = .ok (.istore 5, 2) := by decide +kernel
theorem dX5_partOf_6 : decode cX5_partOf 6 = .ok (.iload 5, 2) := by decide +kernel
theorem dX5_partOf_8 : decode cX5_partOf 8 = .ok (.bipush 6, 2) := by decide +kernel
theorem dX5_partOf_10 : decode cX5_partOf 10 = .ok (.if_icmp .ge 45, 3) := by decide +kernel
theorem dX5_partOf_13 : decode cX5_partOf 13 = .ok (.iload 4, 2) := by decide +kernel
theorem dX5_partOf_15 : decode cX5_partOf 15 = .ok (.iload_n 1, 1) := by decide +kernel
theorem dX5_partOf_16 : decode cX5_partOf 16 = .ok (.iload 5, 2) := by decide +kernel
theorem dX5_partOf_18 : decode cX5_partOf 18 = .ok (.invokestatic 240, 3) := by decide +kernel
theorem dX5_partOf_21 : decode cX5_partOf 21 = .ok (.ifCond .eq 24, 3) := by decide +kernel
theorem dX5_partOf_24 : decode cX5_partOf 24 = .ok (.iload 5, 2) := by decide +kernel
theorem dX5_partOf_26 : decode cX5_partOf 26 = .ok (.iload_n 2, 1) := by decide +kernel
theorem dX5_partOf_27 : decode cX5_partOf 27 = .ok (.aload_n 0, 1) := by decide +kernel
theorem dX5_partOf_28 : decode cX5_partOf 28 = .ok (.getfield 49, 3) := by decide +kernel
theorem dX5_partOf_31 : decode cX5_partOf 31 = .ok (.getfield 152, 3) := by decide +kernel
theorem dX5_partOf_34 : decode cX5_partOf 34 = .ok (.invokestatic 233, 3) := by decide +kernel
theorem dX5_partOf_37 : decode cX5_partOf 37 = .ok (.iload_n 3, 1) := by decide +kernel
theorem dX5_partOf_38 : decode cX5_partOf 38 = .ok (.if_icmp .ne 7, 3) := by decide +kernel
theorem dX5_partOf_41 : decode cX5_partOf 41 = .ok (.iconst 1, 1) := by decide +kernel
theorem dX5_partOf_42 : decode cX5_partOf 42 = .ok (.goto 4, 3) := by decide +kernel
theorem dX5_partOf_45 : decode cX5_partOf 45 = .ok (.iconst 0, 1) := by decide +kernel
theorem dX5_partOf_46 : decode cX5_partOf 46 = .ok (.iadd, 1) := by decide +kernel
theorem dX5_partOf_47 : decode cX5_partOf 47 = .ok (.istore 4, 2) := by decide +kernel
theorem dX5_partOf_49 : decode cX5_partOf 49 = .ok (.iinc 5 1, 3) := by decide +kernel
theorem dX5_partOf_52 : decode cX5_partOf 52 = .ok (.goto (-46), 3) := by decide +kernel
theorem dX5_partOf_55 : decode cX5_partOf 55 = .ok (.iload 4, 2) := by decide +kernel
theorem dX5_partOf_57 : decode cX5_partOf 57 = .ok (.ireturn, 1) := by decide +kernel
theorem dX5_greatestPart_0 : decode cX5_greatestPart 0 = .ok (.iconst 0, 1) := by decide +kernel
theorem dX5_greatestPart_1 : decode cX5_greatestPart 1 = .ok (.istore_n 3, 1) := by decide +kernel
theorem dX5_greatestPart_2 : decode cX5_greatestPart 2 = .ok (.iconst 0, 1) := by decide +kernel
theorem dX5_greatestPart_3 : decode cX5_greatestPart 3 = .ok (.istore 4, 2) := by decide +kernel
theorem dX5_greatestPart_5 : decode cX5_greatestPart 5 = .ok (.iload 4, 2) := by decide +kernel
theorem dX5_greatestPart_7 : decode cX5_greatestPart 7 = .ok (.bipush 6, 2) := by decide +kernel
theorem dX5_greatestPart_9 : decode cX5_greatestPart 9 = .ok (.if_icmp .ge 46, 3) := by decide +kernel
theorem dX5_greatestPart_12 : decode cX5_greatestPart 12 = .ok (.iload_n 1, 1) := by decide +kernel
theorem dX5_greatestPart_13 : decode cX5_greatestPart 13 = .ok (.iload 4, 2) := by decide +kernel
theorem dX5_greatestPart_15 : decode cX5_greatestPart 15 = .ok (.invokestatic 240, 3) := by decide +kernel
theorem dX5_greatestPart_18 : decode cX5_greatestPart 18 = .ok (.ifCond .eq 31, 3) := by decide +kernel
theorem dX5_greatestPart_21 : decode cX5_greatestPart 21 = .ok (.iload 4, 2) := by decide +kernel
theorem dX5_greatestPart_23 : decode cX5_greatestPart 23 = .ok (.iload_n 2, 1) := by decide +kernel
theorem dX5_greatestPart_24 : decode cX5_greatestPart 24 = .ok (.aload_n 0, 1) := by decide +kernel
theorem dX5_greatestPart_25 : decode cX5_greatestPart 25 = .ok (.getfield 49, 3) := by decide +kernel
theorem dX5_greatestPart_28 : decode cX5_greatestPart 28 = .ok (.getfield 152, 3) := by decide +kernel
theorem dX5_greatestPart_31 : decode cX5_greatestPart 31 = .ok (.invokestatic 233, 3) := by decide +kernel
theorem dX5_greatestPart_34 : decode cX5_greatestPart 34 = .ok (.istore 5, 2) := by decide +kernel
theorem dX5_greatestPart_36 : decode cX5_greatestPart 36 = .ok (.iload_n 3, 1) := by decide +kernel
theorem dX5_greatestPart_37 : decode cX5_greatestPart 37 = .ok (.aload_n 0, 1) := by decide +kernel
theorem dX5_greatestPart_38 : decode cX5_greatestPart 38 = .ok (.iload_n 1, 1) := by decide +kernel
theorem dX5_greatestPart_39 : decode cX5_greatestPart 39 = .ok (.iload_n 2, 1) := by decide +kernel
theorem dX5_greatestPart_40 : decode cX5_greatestPart 40 = .ok (.iload 5, 2) := by decide +kernel
theorem dX5_greatestPart_42 : decode cX5_greatestPart 42 = .ok (.invokevirtual 243, 3) := by decide +kernel
theorem dX5_greatestPart_45 : decode cX5_greatestPart 45 = .ok (.invokestatic 79, 3) := by decide +kernel
theorem dX5_greatestPart_48 : decode cX5_greatestPart 48 = .ok (.istore_n 3, 1) := by decide +kernel
theorem dX5_greatestPart_49 : decode cX5_greatestPart 49 = .ok (.iinc 4 1, 3) := by decide +kernel
theorem dX5_greatestPart_52 : decode cX5_greatestPart 52 = .ok (.goto (-47), 3) := by decide +kernel
theorem dX5_greatestPart_55 : decode cX5_greatestPart 55 = .ok (.iload_n 3, 1) := by decide +kernel
theorem dX5_greatestPart_56 : decode cX5_greatestPart 56 = .ok (.ireturn, 1) := by decide +kernel
theorem dX5_whose_0 : decode cX5_whose 0 = .ok (.aload_n 0, 1) := by decide +kernel
theorem dX5_whose_1 : decode cX5_whose 1 = .ok (.getfield 13, 3) := by decide +kernel
theorem dX5_whose_4 : decode cX5_whose 4 = .ok (.iload_n 1, 1) := by decide +kernel
theorem dX5_whose_5 : decode cX5_whose 5 = .ok (.invokestatic 99, 3) := by decide +kernel
theorem dX5_whose_8 : decode cX5_whose 8 = .ok (.astore_n 2, 1) := by decide +kernel
theorem dX5_whose_9 : decode cX5_whose 9 = .ok (.aload_n 0, 1) := by decide +kernel
theorem dX5_whose_10 : decode cX5_whose 10 = .ok (.aload_n 2, 1) := by decide +kernel
theorem dX5_whose_11 : decode cX5_whose 11 = .ok (.invokevirtual 246, 3) := by decide +kernel
theorem dX5_whose_14 : decode cX5_whose 14 = .ok (.istore_n 3, 1) := by decide +kernel
theorem dX5_whose_15 : decode cX5_whose 15 = .ok (.aload_n 2, 1) := by decide +kernel
theorem dX5_whose_16 : decode cX5_whose 16 = .ok (.ifnull 7, 3) := by decide +kernel
theorem dX5_whose_19 : decode cX5_whose 19 = .ok (.iload_n 3, 1) := by decide +kernel
theorem dX5_whose_20 : decode cX5_whose 20 = .ok (.ifCond .eq 5, 3) := by decide +kernel
theorem dX5_whose_23 : decode cX5_whose 23 = .ok (.iload_n 3, 1) := by decide +kernel
theorem dX5_whose_24 : decode cX5_whose 24 = .ok (.ireturn, 1) := by decide +kernel
theorem dX5_whose_25 : decode cX5_whose 25 = .ok (.iconst 0, 1) := by decide +kernel
theorem dX5_whose_26 : decode cX5_whose 26 = .ok (.istore 4, 2) := by decide +kernel
theorem dX5_whose_28 : decode cX5_whose 28 = .ok (.iconst 0, 1) := by decide +kernel
theorem dX5_whose_29 : decode cX5_whose 29 = .ok (.istore 5, 2) := by decide +kernel
theorem dX5_whose_31 : decode cX5_whose 31 = .ok (.iload 5, 2) := by decide +kernel
theorem dX5_whose_33 : decode cX5_whose 33 = .ok (.aload_n 0, 1) := by decide +kernel
theorem dX5_whose_34 : decode cX5_whose 34 = .ok (.getfield 49, 3) := by decide +kernel
theorem dX5_whose_37 : decode cX5_whose 37 = .ok (.getfield 131, 3) := by decide +kernel
theorem dX5_whose_40 : decode cX5_whose 40 = .ok (.if_icmp .ge 38, 3) := by decide +kernel
theorem dX5_whose_43 : decode cX5_whose 43 = .ok (.aload_n 0, 1) := by decide +kernel
theorem dX5_whose_44 : decode cX5_whose 44 = .ok (.aload_n 0, 1) := by decide +kernel
theorem dX5_whose_45 : decode cX5_whose 45 = .ok (.getfield 49, 3) := by decide +kernel
theorem dX5_whose_48 : decode cX5_whose 48 = .ok (.getfield 138, 3) := by decide +kernel
theorem dX5_whose_51 : decode cX5_whose 51 = .ok (.iload 5, 2) := by decide +kernel
theorem dX5_whose_53 : decode cX5_whose 53 = .ok (.invokevirtual 68, 3) := by decide +kernel
theorem dX5_whose_56 : decode cX5_whose 56 = .ok (.aload_n 2, 1) := by decide +kernel
theorem dX5_whose_57 : decode cX5_whose 57 = .ok (.invokevirtual 236, 3) := by decide +kernel
theorem dX5_whose_60 : decode cX5_whose 60 = .ok (.ifCond .eq 12, 3) := by decide +kernel
theorem dX5_whose_63 : decode cX5_whose 63 = .ok (.iload 4, 2) := by decide +kernel
theorem dX5_whose_65 : decode cX5_whose 65 = .ok (.iconst 1, 1) := by decide +kernel
theorem dX5_whose_66 : decode cX5_whose 66 = .ok (.iload 5, 2) := by decide +kernel
theorem dX5_whose_68 : decode cX5_whose 68 = .ok (.ishl, 1) := by decide +kernel
theorem dX5_whose_69 : decode cX5_whose 69 = .ok (.ior, 1) := by decide +kernel
theorem dX5_whose_70 : decode cX5_whose 70 = .ok (.istore 4, 2) := by decide +kernel
theorem dX5_whose_72 : decode cX5_whose 72 = .ok (.iinc 5 1, 3) := by decide +kernel
theorem dX5_whose_75 : decode cX5_whose 75 = .ok (.goto (-44), 3) := by decide +kernel
theorem dX5_whose_78 : decode cX5_whose 78 = .ok (.iload 4, 2) := by decide +kernel
theorem dX5_whose_80 : decode cX5_whose 80 = .ok (.ireturn, 1) := by decide +kernel
theorem dX5_kinds_0 : decode cX5_kinds 0 = .ok (.aload_n 0, 1) := by decide +kernel
theorem dX5_kinds_1 : decode cX5_kinds 1 = .ok (.getfield 13, 3) := by decide +kernel
theorem dX5_kinds_4 : decode cX5_kinds 4 = .ok (.iload_n 1, 1) := by decide +kernel
theorem dX5_kinds_5 : decode cX5_kinds 5 = .ok (.invokestatic 99, 3) := by decide +kernel
theorem dX5_kinds_8 : decode cX5_kinds 8 = .ok (.astore_n 2, 1) := by decide +kernel
theorem dX5_kinds_9 : decode cX5_kinds 9 = .ok (.aload_n 0, 1) := by decide +kernel
theorem dX5_kinds_10 : decode cX5_kinds 10 = .ok (.aload_n 2, 1) := by decide +kernel
theorem dX5_kinds_11 : decode cX5_kinds 11 = .ok (.invokevirtual 246, 3) := by decide +kernel
theorem dX5_kinds_14 : decode cX5_kinds 14 = .ok (.istore_n 3, 1) := by decide +kernel
theorem dX5_kinds_15 : decode cX5_kinds 15 = .ok (.aload_n 2, 1) := by decide +kernel
theorem dX5_kinds_16 : decode cX5_kinds 16 = .ok (.ifnull 7, 3) := by decide +kernel
theorem dX5_kinds_19 : decode cX5_kinds 19 = .ok (.iload_n 3, 1) := by decide +kernel
theorem dX5_kinds_20 : decode cX5_kinds 20 = .ok (.ifCond .eq 5, 3) := by decide +kernel
theorem dX5_kinds_23 : decode cX5_kinds 23 = .ok (.iload_n 3, 1) := by decide +kernel
theorem dX5_kinds_24 : decode cX5_kinds 24 = .ok (.ireturn, 1) := by decide +kernel
theorem dX5_kinds_25 : decode cX5_kinds 25 = .ok (.aload_n 0, 1) := by decide +kernel
theorem dX5_kinds_26 : decode cX5_kinds 26 = .ok (.aload_n 2, 1) := by decide +kernel
theorem dX5_kinds_27 : decode cX5_kinds 27 = .ok (.invokevirtual 249, 3) := by decide +kernel
theorem dX5_kinds_30 : decode cX5_kinds 30 = .ok (.ireturn, 1) := by decide +kernel
theorem dX5_test_0 : decode cX5_test 0 = .ok (.aload_n 0, 1) := by decide +kernel
theorem dX5_test_1 : decode cX5_test 1 = .ok (.getfield 13, 3) := by decide +kernel
theorem dX5_test_4 : decode cX5_test 4 = .ok (.iload_n 1, 1) := by decide +kernel
theorem dX5_test_5 : decode cX5_test 5 = .ok (.invokestatic 99, 3) := by decide +kernel
theorem dX5_test_8 : decode cX5_test 8 = .ok (.astore_n 2, 1) := by decide +kernel
theorem dX5_test_9 : decode cX5_test 9 = .ok (.aload_n 0, 1) := by decide +kernel
theorem dX5_test_10 : decode cX5_test 10 = .ok (.aload_n 2, 1) := by decide +kernel
theorem dX5_test_11 : decode cX5_test 11 = .ok (.invokevirtual 246, 3) := by decide +kernel
theorem dX5_test_14 : decode cX5_test 14 = .ok (.istore_n 3, 1) := by decide +kernel
theorem dX5_test_15 : decode cX5_test 15 = .ok (.aload_n 2, 1) := by decide +kernel
theorem dX5_test_16 : decode cX5_test 16 = .ok (.ifnull 7, 3) := by decide +kernel
theorem dX5_test_19 : decode cX5_test 19 = .ok (.iload_n 3, 1) := by decide +kernel
theorem dX5_test_20 : decode cX5_test 20 = .ok (.ifCond .eq 5, 3) := by decide +kernel
theorem dX5_test_23 : decode cX5_test 23 = .ok (.iload_n 3, 1) := by decide +kernel
theorem dX5_test_24 : decode cX5_test 24 = .ok (.ireturn, 1) := by decide +kernel
theorem dX5_test_25 : decode cX5_test 25 = .ok (.aload_n 0, 1) := by decide +kernel
theorem dX5_test_26 : decode cX5_test 26 = .ok (.aload_n 2, 1) := by decide +kernel
theorem dX5_test_27 : decode cX5_test 27 = .ok (.invokevirtual 249, 3) := by decide +kernel
theorem dX5_test_30 : decode cX5_test 30 = .ok (.istore 4, 2) := by decide +kernel
theorem dX5_test_32 : decode cX5_test 32 = .ok (.iload 4, 2) := by decide +kernel
theorem dX5_test_34 : decode cX5_test 34 = .ok (.ifCond .ne 6, 3) := by decide +kernel
theorem dX5_test_37 : decode cX5_test 37 = .ok (.bipush (-9), 2) := by decide +kernel
theorem dX5_test_39 : decode cX5_test 39 = .ok (.ireturn, 1) := by decide +kernel
theorem dX5_test_40 : decode cX5_test 40 = .ok (.iconst 0, 1) := by decide +kernel
theorem dX5_test_41 : decode cX5_test 41 = .ok (.istore 5, 2) := by decide +kernel
theorem dX5_test_43 : decode cX5_test 43 = .ok (.aload_n 0, 1) := by decide +kernel
theorem dX5_test_44 : decode cX5_test 44 = .ok (.iload 4, 2) := by decide +kernel
theorem dX5_test_46 : decode cX5_test 46 = .ok (.iconst 0, 1) := by decide +kernel
theorem dX5_test_47 : decode cX5_test 47 = .ok (.invokevirtual 252, 3) := by decide +kernel
theorem dX5_test_50 : decode cX5_test 50 = .ok (.istore 6, 2) := by decide +kernel
theorem dX5_test_52 : decode cX5_test 52 = .ok (.iconst 1, 1) := by decide +kernel
theorem dX5_test_53 : decode cX5_test 53 = .ok (.istore 7, 2) := by decide +kernel
theorem dX5_test_55 : decode cX5_test 55 = .ok (.iload 7, 2) := by decide +kernel
theorem dX5_test_57 : decode cX5_test 57 = .ok (.bipush 99, 2) := by decide +kernel
theorem dX5_test_59 : decode cX5_test 59 = .ok (.if_icmp .gt 34, 3) := by decide +kernel
theorem dX5_test_62 : decode cX5_test 62 = .ok (.aload_n 0, 1) := by decide +kernel
theorem dX5_test_63 : decode cX5_test 63 = .ok (.iload 4, 2) := by decide +kernel
theorem dX5_test_65 : decode cX5_test 65 = .ok (.iload 7, 2) := by decide +kernel
theorem dX5_test_67 : decode cX5_test 67 = .ok (.invokevirtual 252, 3) := by decide +kernel
theorem dX5_test_70 : decode cX5_test 70 = .ok (.istore 8, 2) := by decide +kernel
theorem dX5_test_72 : decode cX5_test 72 = .ok (.iload 8, 2) := by decide +kernel
theorem dX5_test_74 : decode cX5_test 74 = .ok (.iload 6, 2) := by decide +kernel
theorem dX5_test_76 : decode cX5_test 76 = .ok (.if_icmp .ge 11, 3) := by decide +kernel
theorem dX5_test_79 : decode cX5_test 79 = .ok (.iload 8, 2) := by decide +kernel
theorem dX5_test_81 : decode cX5_test 81 = .ok (.istore 6, 2) := by decide +kernel
theorem dX5_test_83 : decode cX5_test 83 = .ok (.iload 7, 2) := by decide +kernel
theorem dX5_test_85 : decode cX5_test 85 = .ok (.istore 5, 2) := by decide +kernel
theorem dX5_test_87 : decode cX5_test 87 = .ok (.iinc 7 1, 3) := by decide +kernel
theorem dX5_test_90 : decode cX5_test 90 = .ok (.goto (-35), 3) := by decide +kernel
theorem dX5_test_93 : decode cX5_test 93 = .ok (.aload_n 0, 1) := by decide +kernel
theorem dX5_test_94 : decode cX5_test 94 = .ok (.iload 6, 2) := by decide +kernel
theorem dX5_test_96 : decode cX5_test 96 = .ok (.putfield 107, 3) := by decide +kernel
theorem dX5_test_99 : decode cX5_test 99 = .ok (.iload 5, 2) := by decide +kernel
theorem dX5_test_101 : decode cX5_test 101 = .ok (.ireturn, 1) := by decide +kernel
theorem dX5_sets_0 : decode cX5_sets 0 = .ok (.iload_n 1, 1) := by decide +kernel
theorem dX5_sets_1 : decode cX5_sets 1 = .ok (.iconst 0, 1) := by decide +kernel
theorem dX5_sets_2 : decode cX5_sets 2 = .ok (.bipush 99, 2) := by decide +kernel
theorem dX5_sets_4 : decode cX5_sets 4 = .ok (.invokestatic 75, 3) := by decide +kernel
theorem dX5_sets_7 : decode cX5_sets 7 = .ok (.ifCond .ne 5, 3) := by decide +kernel
theorem dX5_sets_10 : decode cX5_sets 10 = .ok (.iconst (-1), 1) := by decide +kernel
theorem dX5_sets_11 : decode cX5_sets 11 = .ok (.ireturn, 1) := by decide +kernel
theorem dX5_sets_12 : decode cX5_sets 12 = .ok (.aload_n 0, 1) := by decide +kernel
theorem dX5_sets_13 : decode cX5_sets 13 = .ok (.getfield 49, 3) := by decide +kernel
theorem dX5_sets_16 : decode cX5_sets 16 = .ok (.getfield 131, 3) := by decide +kernel
theorem dX5_sets_19 : decode cX5_sets 19 = .ok (.ifCond .ne 6, 3) := by decide +kernel
theorem dX5_sets_22 : decode cX5_sets 22 = .ok (.bipush (-4), 2) := by decide +kernel
theorem dX5_sets_24 : decode cX5_sets 24 = .ok (.ireturn, 1) := by decide +kernel
theorem dX5_sets_25 : decode cX5_sets 25 = .ok (.bipush (-9), 2) := by decide +kernel
theorem dX5_sets_27 : decode cX5_sets 27 = .ok (.istore_n 2, 1) := by decide +kernel
theorem dX5_sets_28 : decode cX5_sets 28 = .ok (.iconst 0, 1) := by decide +kernel
theorem dX5_sets_29 : decode cX5_sets 29 = .ok (.istore_n 3, 1) := by decide +kernel
theorem dX5_sets_30 : decode cX5_sets 30 = .ok (.iconst 0, 1) := by decide +kernel
theorem dX5_sets_31 : decode cX5_sets 31 = .ok (.istore 4, 2) := by decide +kernel
theorem dX5_sets_33 : decode cX5_sets 33 = .ok (.iload 4, 2) := by decide +kernel
theorem dX5_sets_35 : decode cX5_sets 35 = .ok (.iconst 1, 1) := by decide +kernel
theorem dX5_sets_36 : decode cX5_sets 36 = .ok (.aload_n 0, 1) := by decide +kernel
theorem dX5_sets_37 : decode cX5_sets 37 = .ok (.getfield 49, 3) := by decide +kernel
theorem dX5_sets_40 : decode cX5_sets 40 = .ok (.getfield 131, 3) := by decide +kernel
theorem dX5_sets_43 : decode cX5_sets 43 = .ok (.ishl, 1) := by decide +kernel
theorem dX5_sets_44 : decode cX5_sets 44 = .ok (.if_icmp .ge 36, 3) := by decide +kernel
theorem dX5_sets_47 : decode cX5_sets 47 = .ok (.aload_n 0, 1) := by decide +kernel
theorem dX5_sets_48 : decode cX5_sets 48 = .ok (.getfield 49, 3) := by decide +kernel
theorem dX5_sets_51 : decode cX5_sets 51 = .ok (.iload 4, 2) := by decide +kernel
theorem dX5_sets_53 : decode cX5_sets 53 = .ok (.invokevirtual 255, 3) := by decide +kernel
theorem dX5_sets_56 : decode cX5_sets 56 = .ok (.iload_n 1, 1) := by decide +kernel
theorem dX5_sets_57 : decode cX5_sets 57 = .ok (.if_icmp .ne 17, 3) := by decide +kernel
theorem dX5_sets_60 : decode cX5_sets 60 = .ok (.iload_n 3, 1) := by decide +kernel
theorem dX5_sets_61 : decode cX5_sets 61 = .ok (.ifCond .ne 8, 3) := by decide +kernel
theorem dX5_sets_64 : decode cX5_sets 64 = .ok (.iload 4, 2) := by decide +kernel
theorem dX5_sets_66 : decode cX5_sets 66 = .ok (.goto 4, 3) := by decide +kernel
theorem dX5_sets_69 : decode cX5_sets 69 = .ok (.iload_n 2, 1) := by decide +kernel
theorem dX5_sets_70 : decode cX5_sets 70 = .ok (.istore_n 2, 1) := by decide +kernel
theorem dX5_sets_71 : decode cX5_sets 71 = .ok (.iinc 3 1, 3) := by decide +kernel
theorem dX5_sets_74 : decode cX5_sets 74 = .ok (.iinc 4 1, 3) := by decide +kernel
theorem dX5_sets_77 : decode cX5_sets 77 = .ok (.goto (-44), 3) := by decide +kernel
theorem dX5_sets_80 : decode cX5_sets 80 = .ok (.aload_n 0, 1) := by decide +kernel
theorem dX5_sets_81 : decode cX5_sets 81 = .ok (.iload_n 2, 1) := by decide +kernel
theorem dX5_sets_82 : decode cX5_sets 82 = .ok (.putfield 107, 3) := by decide +kernel
theorem dX5_sets_85 : decode cX5_sets 85 = .ok (.aload_n 0, 1) := by decide +kernel
theorem dX5_sets_86 : decode cX5_sets 86 = .ok (.iload_n 3, 1) := by decide +kernel
theorem dX5_sets_87 : decode cX5_sets 87 = .ok (.i2l, 1) := by decide +kernel
theorem dX5_sets_88 : decode cX5_sets 88 = .ok (.lconst 1, 1) := by decide +kernel
theorem dX5_sets_89 : decode cX5_sets 89 = .ok (.invokevirtual 258, 3) := by decide +kernel
theorem dX5_sets_92 : decode cX5_sets 92 = .ok (.iconst 1, 1) := by decide +kernel
theorem dX5_sets_93 : decode cX5_sets 93 = .ok (.ireturn, 1) := by decide +kernel
theorem dX5_sure_0 : decode cX5_sure 0 = .ok (.iload_n 1, 1) := by decide +kernel
theorem dX5_sure_1 : decode cX5_sure 1 = .ok (.iconst 0, 1) := by decide +kernel
theorem dX5_sure_2 : decode cX5_sure 2 = .ok (.bipush 99, 2) := by decide +kernel
theorem dX5_sure_4 : decode cX5_sure 4 = .ok (.invokestatic 75, 3) := by decide +kernel
theorem dX5_sure_7 : decode cX5_sure 7 = .ok (.ifCond .ne 5, 3) := by decide +kernel
theorem dX5_sure_10 : decode cX5_sure 10 = .ok (.iconst (-1), 1) := by decide +kernel
theorem dX5_sure_11 : decode cX5_sure 11 = .ok (.ireturn, 1) := by decide +kernel
theorem dX5_sure_12 : decode cX5_sure 12 = .ok (.aload_n 0, 1) := by decide +kernel
theorem dX5_sure_13 : decode cX5_sure 13 = .ok (.getfield 49, 3) := by decide +kernel
theorem dX5_sure_16 : decode cX5_sure 16 = .ok (.getfield 131, 3) := by decide +kernel
theorem dX5_sure_19 : decode cX5_sure 19 = .ok (.ifCond .ne 6, 3) := by decide +kernel
theorem dX5_sure_22 : decode cX5_sure 22 = .ok (.bipush (-4), 2) := by decide +kernel
theorem dX5_sure_24 : decode cX5_sure 24 = .ok (.ireturn, 1) := by decide +kernel
theorem dX5_sure_25 : decode cX5_sure 25 = .ok (.iconst 1, 1) := by decide +kernel
theorem dX5_sure_26 : decode cX5_sure 26 = .ok (.aload_n 0, 1) := by decide +kernel
theorem dX5_sure_27 : decode cX5_sure 27 = .ok (.getfield 49, 3) := by decide +kernel
theorem dX5_sure_30 : decode cX5_sure 30 = .ok (.getfield 131, 3) := by decide +kernel
theorem dX5_sure_33 : decode cX5_sure 33 = .ok (.ishl, 1) := by decide +kernel
theorem dX5_sure_34 : decode cX5_sure 34 = .ok (.iconst 1, 1) := by decide +kernel
theorem dX5_sure_35 : decode cX5_sure 35 = .ok (.isub, 1) := by decide +kernel
theorem dX5_sure_36 : decode cX5_sure 36 = .ok (.istore_n 2, 1) := by decide +kernel
theorem dX5_sure_37 : decode cX5_sure 37 = .ok (.iload_n 2, 1) := by decide +kernel
theorem dX5_sure_38 : decode cX5_sure 38 = .ok (.istore_n 3, 1) := by decide +kernel
theorem dX5_sure_39 : decode cX5_sure 39 = .ok (.iconst 0, 1) := by decide +kernel
theorem dX5_sure_40 : decode cX5_sure 40 = .ok (.istore 4, 2) := by decide +kernel
theorem dX5_sure_42 : decode cX5_sure 42 = .ok (.iconst 0, 1) := by decide +kernel
theorem dX5_sure_43 : decode cX5_sure 43 = .ok (.istore 5, 2) := by decide +kernel
theorem dX5_sure_45 : decode cX5_sure 45 = .ok (.iconst 0, 1) := by decide +kernel
theorem dX5_sure_46 : decode cX5_sure 46 = .ok (.istore 6, 2) := by decide +kernel
theorem dX5_sure_48 : decode cX5_sure 48 = .ok (.iload 6, 2) := by decide +kernel
theorem dX5_sure_50 : decode cX5_sure 50 = .ok (.iload_n 2, 1) := by decide +kernel
theorem dX5_sure_51 : decode cX5_sure 51 = .ok (.if_icmp .gt 37, 3) := by decide +kernel
theorem dX5_sure_54 : decode cX5_sure 54 = .ok (.aload_n 0, 1) := by decide +kernel
theorem dX5_sure_55 : decode cX5_sure 55 = .ok (.getfield 49, 3) := by decide +kernel
theorem dX5_sure_58 : decode cX5_sure 58 = .ok (.iload 6, 2) := by decide +kernel
theorem dX5_sure_60 : decode cX5_sure 60 = .ok (.invokevirtual 255, 3) := by decide +kernel
theorem dX5_sure_63 : decode cX5_sure 63 = .ok (.iload_n 1, 1) := by decide +kernel
theorem dX5_sure_64 : decode cX5_sure 64 = .ok (.if_icmp .ne 18, 3) := by decide +kernel
theorem dX5_sure_67 : decode cX5_sure 67 = .ok (.iload_n 3, 1) := by decide +kernel
theorem dX5_sure_68 : decode cX5_sure 68 = .ok (.iload 6, 2) := by decide +kernel
theorem dX5_sure_70 : decode cX5_sure 70 = .ok (.iand, 1) := by decide +kernel
theorem dX5_sure_71 : decode cX5_sure 71 = .ok (.istore_n 3, 1) := by decide +kernel
theorem dX5_sure_72 : decode cX5_sure 72 = .ok (.iload 4, 2) := by decide +kernel
theorem dX5_sure_74 : decode cX5_sure 74 = .ok (.iload 6, 2) := by decide +kernel
theorem dX5_sure_76 : decode cX5_sure 76 = .ok (.ior, 1) := by decide +kernel
theorem dX5_sure_77 : decode cX5_sure 77 = .ok (.istore 4, 2) := by decide +kernel
theorem dX5_sure_79 : decode cX5_sure 79 = .ok (.iinc 5 1, 3) := by decide +kernel
theorem dX5_sure_82 : decode cX5_sure 82 = .ok (.iinc 6 1, 3) := by decide +kernel
theorem dX5_sure_85 : decode cX5_sure 85 = .ok (.goto (-37), 3) := by decide +kernel
theorem dX5_sure_88 : decode cX5_sure 88 = .ok (.iload 5, 2) := by decide +kernel
theorem dX5_sure_90 : decode cX5_sure 90 = .ok (.ifCond .ne 9, 3) := by decide +kernel
theorem dX5_sure_93 : decode cX5_sure 93 = .ok (.aload_n 0, 1) := by decide +kernel
theorem dX5_sure_94 : decode cX5_sure 94 = .ok (.iconst 4, 1) := by decide +kernel
theorem dX5_sure_95 : decode cX5_sure 95 = .ok (.invokevirtual 88, 3) := by decide +kernel
theorem dX5_sure_98 : decode cX5_sure 98 = .ok (.ireturn, 1) := by decide +kernel
theorem dX5_sure_99 : decode cX5_sure 99 = .ok (.aload_n 0, 1) := by decide +kernel
theorem dX5_sure_100 : decode cX5_sure 100 = .ok (.iload_n 2, 1) := by decide +kernel
theorem dX5_sure_101 : decode cX5_sure 101 = .ok (.iload 4, 2) := by decide +kernel
theorem dX5_sure_103 : decode cX5_sure 103 = .ok (.iconst (-1), 1) := by decide +kernel
theorem dX5_sure_104 : decode cX5_sure 104 = .ok (.ixor, 1) := by decide +kernel
theorem dX5_sure_105 : decode cX5_sure 105 = .ok (.iand, 1) := by decide +kernel
theorem dX5_sure_106 : decode cX5_sure 106 = .ok (.putfield 107, 3) := by decide +kernel
theorem dX5_sure_109 : decode cX5_sure 109 = .ok (.iload_n 3, 1) := by decide +kernel
theorem dX5_sure_110 : decode cX5_sure 110 = .ok (.ireturn, 1) := by decide +kernel
theorem dX5_duel_0 : decode cX5_duel 0 = .ok (.iload_n 1, 1) := by decide +kernel
theorem dX5_duel_1 : decode cX5_duel 1 = .ok (.iconst 0, 1) := by decide +kernel
theorem dX5_duel_2 : decode cX5_duel 2 = .ok (.iconst 3, 1) := by decide +kernel
theorem dX5_duel_3 : decode cX5_duel 3 = .ok (.invokestatic 75, 3) := by decide +kernel
theorem dX5_duel_6 : decode cX5_duel 6 = .ok (.ifCond .ne 5, 3) := by decide +kernel
theorem dX5_duel_9 : decode cX5_duel 9 = .ok (.iconst (-1), 1) := by decide +kernel
theorem dX5_duel_10 : decode cX5_duel 10 = .ok (.ireturn, 1) := by decide +kernel
theorem dX5_duel_11 : decode cX5_duel 11 = .ok (.aload_n 0, 1) := by decide +kernel
theorem dX5_duel_12 : decode cX5_duel 12 = .ok (.getfield 49, 3) := by decide +kernel
theorem dX5_duel_15 : decode cX5_duel 15 = .ok (.getfield 131, 3) := by decide +kernel
theorem dX5_duel_18 : decode cX5_duel 18 = .ok (.ifCond .ne 6, 3) := by decide +kernel
theorem dX5_duel_21 : decode cX5_duel 21 = .ok (.bipush (-4), 2) := by decide +kernel
theorem dX5_duel_23 : decode cX5_duel 23 = .ok (.ireturn, 1) := by decide +kernel
theorem dX5_duel_24 : decode cX5_duel 24 = .ok (.aload_n 0, 1) := by decide +kernel
theorem dX5_duel_25 : decode cX5_duel 25 = .ok (.aload_n 0, 1) := by decide +kernel
theorem dX5_duel_26 : decode cX5_duel 26 = .ok (.getfield 49, 3) := by decide +kernel
theorem dX5_duel_29 : decode cX5_duel 29 = .ok (.iconst 0, 1) := by decide +kernel
theorem dX5_duel_30 : decode cX5_duel 30 = .ok (.iload_n 1, 1) := by decide +kernel
theorem dX5_duel_31 : decode cX5_duel 31 = .ok (.invokevirtual 262, 3) := by decide +kernel
theorem dX5_duel_34 : decode cX5_duel 34 = .ok (.aload_n 0, 1) := by decide +kernel
theorem dX5_duel_35 : decode cX5_duel 35 = .ok (.getfield 49, 3) := by decide +kernel
theorem dX5_duel_38 : decode cX5_duel 38 = .ok (.iconst 1, 1) := by decide +kernel
theorem dX5_duel_39 : decode cX5_duel 39 = .ok (.iload_n 1, 1) := by decide +kernel
theorem dX5_duel_40 : decode cX5_duel 40 = .ok (.invokevirtual 262, 3) := by decide +kernel
theorem dX5_duel_43 : decode cX5_duel 43 = .ok (.isub, 1) := by decide +kernel
theorem dX5_duel_44 : decode cX5_duel 44 = .ok (.putfield 107, 3) := by decide +kernel
theorem dX5_duel_47 : decode cX5_duel 47 = .ok (.iconst 1, 1) := by decide +kernel
theorem dX5_duel_48 : decode cX5_duel 48 = .ok (.ireturn, 1) := by decide +kernel
theorem dX5_power_0 : decode cX5_power 0 = .ok (.lconst 1, 1) := by decide +kernel
theorem dX5_power_1 : decode cX5_power 1 = .ok (.lstore_n 3, 1) := by decide +kernel
theorem dX5_power_2 : decode cX5_power 2 = .ok (.iconst 0, 1) := by decide +kernel
theorem dX5_power_3 : decode cX5_power 3 = .ok (.istore 5, 2) := by decide +kernel
theorem dX5_power_5 : decode cX5_power 5 = .ok (.iload 5, 2) := by decide +kernel
theorem dX5_power_7 : decode cX5_power 7 = .ok (.iload_n 2, 1) := by decide +kernel
theorem dX5_power_8 : decode cX5_power 8 = .ok (.if_icmp .ge 13, 3) := by decide +kernel
theorem dX5_power_11 : decode cX5_power 11 = .ok (.lload_n 3, 1) := by decide +kernel
theorem dX5_power_12 : decode cX5_power 12 = .ok (.lload_n 0, 1) := by decide +kernel
theorem dX5_power_13 : decode cX5_power 13 = .ok (.lmul, 1) := by decide +kernel
theorem dX5_power_14 : decode cX5_power 14 = .ok (.lstore_n 3, 1) := by decide +kernel
theorem dX5_power_15 : decode cX5_power 15 = .ok (.iinc 5 1, 3) := by decide +kernel
theorem dX5_power_18 : decode cX5_power 18 = .ok (.goto (-13), 3) := by decide +kernel
theorem dX5_power_21 : decode cX5_power 21 = .ok (.lload_n 3, 1) := by decide +kernel
theorem dX5_power_22 : decode cX5_power 22 = .ok (.lreturn, 1) := by decide +kernel
theorem dX5_ways_0 : decode cX5_ways 0 = .ok (.lconst 1, 1) := by decide +kernel
theorem dX5_ways_1 : decode cX5_ways 1 = .ok (.lstore_n 2, 1) := by decide +kernel
theorem dX5_ways_2 : decode cX5_ways 2 = .ok (.iconst 0, 1) := by decide +kernel
theorem dX5_ways_3 : decode cX5_ways 3 = .ok (.istore 4, 2) := by decide +kernel
theorem dX5_ways_5 : decode cX5_ways 5 = .ok (.iload 4, 2) := by decide +kernel
theorem dX5_ways_7 : decode cX5_ways 7 = .ok (.iload_n 1, 1) := by decide +kernel
theorem dX5_ways_8 : decode cX5_ways 8 = .ok (.if_icmp .ge 23, 3) := by decide +kernel
theorem dX5_ways_11 : decode cX5_ways 11 = .ok (.lload_n 2, 1) := by decide +kernel
theorem dX5_ways_12 : decode cX5_ways 12 = .ok (.iload_n 0, 1) := by decide +kernel
theorem dX5_ways_13 : decode cX5_ways 13 = .ok (.iload 4, 2) := by decide +kernel
theorem dX5_ways_15 : decode cX5_ways 15 = .ok (.isub, 1) := by decide +kernel
theorem dX5_ways_16 : decode cX5_ways 16 = .ok (.i2l, 1) := by decide +kernel
theorem dX5_ways_17 : decode cX5_ways 17 = .ok (.lmul, 1) := by decide +kernel
theorem dX5_ways_18 : decode cX5_ways 18 = .ok (.iload 4, 2) := by decide +kernel
theorem dX5_ways_20 : decode cX5_ways 20 = .ok (.iconst 1, 1) := by decide +kernel
theorem dX5_ways_21 : decode cX5_ways 21 = .ok (.iadd, 1) := by decide +kernel
theorem dX5_ways_22 : decode cX5_ways 22 = .ok (.i2l, 1) := by decide +kernel
theorem dX5_ways_23 : decode cX5_ways 23 = .ok (.ldiv, 1) := by decide +kernel
theorem dX5_ways_24 : decode cX5_ways 24 = .ok (.lstore_n 2, 1) := by decide +kernel
theorem dX5_ways_25 : decode cX5_ways 25 = .ok (.iinc 4 1, 3) := by decide +kernel
theorem dX5_ways_28 : decode cX5_ways 28 = .ok (.goto (-23), 3) := by decide +kernel
theorem dX5_ways_31 : decode cX5_ways 31 = .ok (.lload_n 2, 1) := by decide +kernel
theorem dX5_ways_32 : decode cX5_ways 32 = .ok (.lreturn, 1) := by decide +kernel
theorem dX5_weight_0 : decode cX5_weight 0 = .ok (.iload_n 0, 1) := by decide +kernel
theorem dX5_weight_1 : decode cX5_weight 1 = .ok (.iload_n 1, 1) := by decide +kernel
theorem dX5_weight_2 : decode cX5_weight 2 = .ok (.invokestatic 265, 3) := by decide +kernel
theorem dX5_weight_5 : decode cX5_weight 5 = .ok (.iload_n 2, 1) := by decide +kernel
theorem dX5_weight_6 : decode cX5_weight 6 = .ok (.i2l, 1) := by decide +kernel
theorem dX5_weight_7 : decode cX5_weight 7 = .ok (.iload_n 1, 1) := by decide +kernel
theorem dX5_weight_8 : decode cX5_weight 8 = .ok (.invokestatic 269, 3) := by decide +kernel
theorem dX5_weight_11 : decode cX5_weight 11 = .ok (.lmul, 1) := by decide +kernel
theorem dX5_weight_12 : decode cX5_weight 12 = .ok (.bipush 12, 2) := by decide +kernel
theorem dX5_weight_14 : decode cX5_weight 14 = .ok (.iload_n 2, 1) := by decide +kernel
theorem dX5_weight_15 : decode cX5_weight 15 = .ok (.isub, 1) := by decide +kernel
theorem dX5_weight_16 : decode cX5_weight 16 = .ok (.i2l, 1) := by decide +kernel
theorem dX5_weight_17 : decode cX5_weight 17 = .ok (.iload_n 0, 1) := by decide +kernel
theorem dX5_weight_18 : decode cX5_weight 18 = .ok (.iload_n 1, 1) := by decide +kernel
theorem dX5_weight_19 : decode cX5_weight 19 = .ok (.isub, 1) := by decide +kernel
theorem dX5_weight_20 : decode cX5_weight 20 = .ok (.invokestatic 269, 3) := by decide +kernel
theorem dX5_weight_23 : decode cX5_weight 23 = .ok (.lmul, 1) := by decide +kernel
theorem dX5_weight_24 : decode cX5_weight 24 = .ok (.lreturn, 1) := by decide +kernel
theorem dX5_divisor_0 : decode cX5_divisor 0 = .ok (.iconst 0, 1) := by decide +kernel
theorem dX5_divisor_1 : decode cX5_divisor 1 = .ok (.istore 4, 2) := by decide +kernel
theorem dX5_divisor_3 : decode cX5_divisor 3 = .ok (.iload 4, 2) := by decide +kernel
theorem dX5_divisor_5 : decode cX5_divisor 5 = .ok (.bipush 100, 2) := by decide +kernel
theorem dX5_divisor_7 : decode cX5_divisor 7 = .ok (.if_icmp .ge 25, 3) := by decide +kernel
theorem dX5_divisor_10 : decode cX5_divisor 10 = .ok (.lload_n 2, 1) := by decide +kernel
theorem dX5_divisor_11 : decode cX5_divisor 11 = .ok (.lconst 0, 1) := by decide +kernel
theorem dX5_divisor_12 : decode cX5_divisor 12 = .ok (.lcmp, 1) := by decide +kernel
theorem dX5_divisor_13 : decode cX5_divisor 13 = .ok (.ifCond .eq 19, 3) := by decide +kernel
theorem dX5_divisor_16 : decode cX5_divisor 16 = .ok (.lload_n 0, 1) := by decide +kernel
theorem dX5_divisor_17 : decode cX5_divisor 17 = .ok (.lload_n 2, 1) := by decide +kernel
theorem dX5_divisor_18 : decode cX5_divisor 18 = .ok (.lrem, 1) := by decide +kernel
theorem dX5_divisor_19 : decode cX5_divisor 19 = .ok (.lstore 5, 2) := by decide +kernel
theorem dX5_divisor_21 : decode cX5_divisor 21 = .ok (.lload_n 2, 1) := by decide +kernel
theorem dX5_divisor_22 : decode cX5_divisor 22 = .ok (.lstore_n 0, 1) := by decide +kernel
theorem dX5_divisor_23 : decode cX5_divisor 23 = .ok (.lload 5, 2) := by decide +kernel
theorem dX5_divisor_25 : decode cX5_divisor 25 = .ok (.lstore_n 2, 1) := by decide +kernel
theorem dX5_divisor_26 : decode cX5_divisor 26 = .ok (.iinc 4 1, 3) := by decide +kernel
theorem dX5_divisor_29 : decode cX5_divisor 29 = .ok (.goto (-26), 3) := by decide +kernel
theorem dX5_divisor_32 : decode cX5_divisor 32 = .ok (.lload_n 0, 1) := by decide +kernel
theorem dX5_divisor_33 : decode cX5_divisor 33 = .ok (.lreturn, 1) := by decide +kernel
theorem dX5_tellRatio_0 : decode cX5_tellRatio 0 = .ok (.lload_n 1, 1) := by decide +kernel
theorem dX5_tellRatio_1 : decode cX5_tellRatio 1 = .ok (.lload_n 3, 1) := by decide +kernel
theorem dX5_tellRatio_2 : decode cX5_tellRatio 2 = .ok (.invokestatic 273, 3) := by decide +kernel
theorem dX5_tellRatio_5 : decode cX5_tellRatio 5 = .ok (.lstore 5, 2) := by decide +kernel
theorem dX5_tellRatio_7 : decode cX5_tellRatio 7 = .ok (.aload_n 0, 1) := by decide +kernel
theorem dX5_tellRatio_8 : decode cX5_tellRatio 8 = .ok (.lload 5, 2) := by decide +kernel
theorem dX5_tellRatio_10 : decode cX5_tellRatio 10 = .ok (.lconst 0, 1) := by decide +kernel
theorem dX5_tellRatio_11 : decode cX5_tellRatio 11 = .ok (.lcmp, 1) := by decide +kernel
theorem dX5_tellRatio_12 : decode cX5_tellRatio 12 = .ok (.ifCond .le 10, 3) := by decide +kernel
theorem dX5_tellRatio_15 : decode cX5_tellRatio 15 = .ok (.lload_n 1, 1) := by decide +kernel
theorem dX5_tellRatio_16 : decode cX5_tellRatio 16 = .ok (.lload 5, 2) := by decide +kernel
theorem dX5_tellRatio_18 : decode cX5_tellRatio 18 = .ok (.ldiv, 1) := by decide +kernel
theorem dX5_tellRatio_19 : decode cX5_tellRatio 19 = .ok (.goto 4, 3) := by decide +kernel
theorem dX5_tellRatio_22 : decode cX5_tellRatio 22 = .ok (.lload_n 1, 1) := by decide +kernel
theorem dX5_tellRatio_23 : decode cX5_tellRatio 23 = .ok (.putfield 277, 3) := by decide +kernel
theorem dX5_tellRatio_26 : decode cX5_tellRatio 26 = .ok (.aload_n 0, 1) := by decide +kernel
theorem dX5_tellRatio_27 : decode cX5_tellRatio 27 = .ok (.lload 5, 2) := by decide +kernel
theorem dX5_tellRatio_29 : decode cX5_tellRatio 29 = .ok (.lconst 0, 1) := by decide +kernel
theorem dX5_tellRatio_30 : decode cX5_tellRatio 30 = .ok (.lcmp, 1) := by decide +kernel
theorem dX5_tellRatio_31 : decode cX5_tellRatio 31 = .ok (.ifCond .le 10, 3) := by decide +kernel
theorem dX5_tellRatio_34 : decode cX5_tellRatio 34 = .ok (.lload_n 3, 1) := by decide +kernel
theorem dX5_tellRatio_35 : decode cX5_tellRatio 35 = .ok (.lload 5, 2) := by decide +kernel
theorem dX5_tellRatio_37 : decode cX5_tellRatio 37 = .ok (.ldiv, 1) := by decide +kernel
theorem dX5_tellRatio_38 : decode cX5_tellRatio 38 = .ok (.goto 4, 3) := by decide +kernel
theorem dX5_tellRatio_41 : decode cX5_tellRatio 41 = .ok (.lload_n 3, 1) := by decide +kernel
theorem dX5_tellRatio_42 : decode cX5_tellRatio 42 = .ok (.putfield 56, 3) := by decide +kernel
theorem dX5_tellRatio_45 : decode cX5_tellRatio 45 = .ok (.return_, 1) := by decide +kernel
theorem dX5_isTry_0 : decode cX5_isTry 0 = .ok (.aload_n 0, 1) := by decide +kernel
theorem dX5_isTry_1 : decode cX5_isTry 1 = .ok (.getfield 49, 3) := by decide +kernel
theorem dX5_isTry_4 : decode cX5_isTry 4 = .ok (.iload_n 1, 1) := by decide +kernel
theorem dX5_isTry_5 : decode cX5_isTry 5 = .ok (.invokevirtual 132, 3) := by decide +kernel
theorem dX5_isTry_8 : decode cX5_isTry 8 = .ok (.ifCond .eq 27, 3) := by decide +kernel
theorem dX5_isTry_11 : decode cX5_isTry 11 = .ok (.iload_n 2, 1) := by decide +kernel
theorem dX5_isTry_12 : decode cX5_isTry 12 = .ok (.iconst 0, 1) := by decide +kernel
theorem dX5_isTry_13 : decode cX5_isTry 13 = .ok (.bipush 8, 2) := by decide +kernel
theorem dX5_isTry_15 : decode cX5_isTry 15 = .ok (.invokestatic 75, 3) := by decide +kernel
theorem dX5_isTry_18 : decode cX5_isTry 18 = .ok (.ifCond .eq 17, 3) := by decide +kernel
theorem dX5_isTry_21 : decode cX5_isTry 21 = .ok (.iload_n 3, 1) := by decide +kernel
theorem dX5_isTry_22 : decode cX5_isTry 22 = .ok (.iconst 0, 1) := by decide +kernel
theorem dX5_isTry_23 : decode cX5_isTry 23 = .ok (.bipush 12, 2) := by decide +kernel
theorem dX5_isTry_25 : decode cX5_isTry 25 = .ok (.invokestatic 75, 3) := by decide +kernel
theorem dX5_isTry_28 : decode cX5_isTry 28 = .ok (.ifCond .eq 7, 3) := by decide +kernel
theorem dX5_isTry_31 : decode cX5_isTry 31 = .ok (.iconst 1, 1) := by decide +kernel
theorem dX5_isTry_32 : decode cX5_isTry 32 = .ok (.goto 4, 3) := by decide +kernel
theorem dX5_isTry_35 : decode cX5_isTry 35 = .ok (.iconst 0, 1) := by decide +kernel
theorem dX5_isTry_36 : decode cX5_isTry 36 = .ok (.ireturn, 1) := by decide +kernel
theorem dX5_odds_0 : decode cX5_odds 0 = .ok (.aload_n 0, 1) := by decide +kernel
theorem dX5_odds_1 : decode cX5_odds 1 = .ok (.iload_n 1, 1) := by decide +kernel
theorem dX5_odds_2 : decode cX5_odds 2 = .ok (.iload_n 2, 1) := by decide +kernel
theorem dX5_odds_3 : decode cX5_odds 3 = .ok (.iload_n 3, 1) := by decide +kernel
theorem dX5_odds_4 : decode cX5_odds 4 = .ok (.invokevirtual 280, 3) := by decide +kernel
theorem dX5_odds_7 : decode cX5_odds 7 = .ok (.ifCond .ne 5, 3) := by decide +kernel
theorem dX5_odds_10 : decode cX5_odds 10 = .ok (.iconst (-1), 1) := by decide +kernel
theorem dX5_odds_11 : decode cX5_odds 11 = .ok (.ireturn, 1) := by decide +kernel
theorem dX5_odds_12 : decode cX5_odds 12 = .ok (.aload_n 0, 1) := by decide +kernel
theorem dX5_odds_13 : decode cX5_odds 13 = .ok (.getfield 49, 3) := by decide +kernel
theorem dX5_odds_16 : decode cX5_odds 16 = .ok (.iload_n 1, 1) := by decide +kernel
theorem dX5_odds_17 : decode cX5_odds 17 = .ok (.invokevirtual 283, 3) := by decide +kernel
theorem dX5_odds_20 : decode cX5_odds 20 = .ok (.istore 4, 2) := by decide +kernel
theorem dX5_odds_22 : decode cX5_odds 22 = .ok (.lconst 0, 1) := by decide +kernel
theorem dX5_odds_23 : decode cX5_odds 23 = .ok (.lstore 5, 2) := by decide +kernel
theorem dX5_odds_25 : decode cX5_odds 25 = .ok (.iconst 0, 1) := by decide +kernel
theorem dX5_odds_26 : decode cX5_odds 26 = .ok (.istore 7, 2) := by decide +kernel
theorem dX5_odds_28 : decode cX5_odds 28 = .ok (.iload 7, 2) := by decide +kernel
theorem dX5_odds_30 : decode cX5_odds 30 = .ok (.iload_n 2, 1) := by decide +kernel
theorem dX5_odds_31 : decode cX5_odds 31 = .ok (.if_icmp .gt 39, 3) := by decide +kernel
theorem dX5_odds_34 : decode cX5_odds 34 = .ok (.iload 4, 2) := by decide +kernel
theorem dX5_odds_36 : decode cX5_odds 36 = .ok (.bipush (-9), 2) := by decide +kernel
theorem dX5_odds_38 : decode cX5_odds 38 = .ok (.if_icmp .eq 32, 3) := by decide +kernel
theorem dX5_odds_41 : decode cX5_odds 41 = .ok (.lload 5, 2) := by decide +kernel
theorem dX5_odds_43 : decode cX5_odds 43 = .ok (.iload 7, 2) := by decide +kernel
theorem dX5_odds_45 : decode cX5_odds 45 = .ok (.iload 4, 2) := by decide +kernel
theorem dX5_odds_47 : decode cX5_odds 47 = .ok (.if_icmp .lt 13, 3) := by decide +kernel
theorem dX5_odds_50 : decode cX5_odds 50 = .ok (.iload_n 2, 1) := by decide +kernel
theorem dX5_odds_51 : decode cX5_odds 51 = .ok (.iload 7, 2) := by decide +kernel
theorem dX5_odds_53 : decode cX5_odds 53 = .ok (.iload_n 3, 1) := by decide +kernel
theorem dX5_odds_54 : decode cX5_odds 54 = .ok (.invokestatic 286, 3) := by decide +kernel
theorem dX5_odds_57 : decode cX5_odds 57 = .ok (.goto 4, 3) := by decide +kernel
theorem dX5_odds_60 : decode cX5_odds 60 = .ok (.lconst 0, 1) := by decide +kernel
theorem dX5_odds_61 : decode cX5_odds 61 = .ok (.ladd, 1) := by decide +kernel
theorem dX5_odds_62 : decode cX5_odds 62 = .ok (.lstore 5, 2) := by decide +kernel
theorem dX5_odds_64 : decode cX5_odds 64 = .ok (.iinc 7 1, 3) := by decide +kernel
theorem dX5_odds_67 : decode cX5_odds 67 = .ok (.goto (-39), 3) := by decide +kernel
theorem dX5_odds_70 : decode cX5_odds 70 = .ok (.aload_n 0, 1) := by decide +kernel
theorem dX5_odds_71 : decode cX5_odds 71 = .ok (.lload 5, 2) := by decide +kernel
theorem dX5_odds_73 : decode cX5_odds 73 = .ok (.ldc2_w 290, 3) := by decide +kernel
theorem dX5_odds_76 : decode cX5_odds 76 = .ok (.iload_n 2, 1) := by decide +kernel
theorem dX5_odds_77 : decode cX5_odds 77 = .ok (.invokestatic 269, 3) := by decide +kernel
theorem dX5_odds_80 : decode cX5_odds 80 = .ok (.invokevirtual 258, 3) := by decide +kernel
theorem dX5_odds_83 : decode cX5_odds 83 = .ok (.iconst 1, 1) := by decide +kernel
theorem dX5_odds_84 : decode cX5_odds 84 = .ok (.ireturn, 1) := by decide +kernel
theorem dX5_mid_0 : decode cX5_mid 0 = .ok (.aload_n 0, 1) := by decide +kernel
theorem dX5_mid_1 : decode cX5_mid 1 = .ok (.iload_n 1, 1) := by decide +kernel
theorem dX5_mid_2 : decode cX5_mid 2 = .ok (.iload_n 2, 1) := by decide +kernel
theorem dX5_mid_3 : decode cX5_mid 3 = .ok (.iload_n 3, 1) := by decide +kernel
theorem dX5_mid_4 : decode cX5_mid 4 = .ok (.invokevirtual 280, 3) := by decide +kernel
theorem dX5_mid_7 : decode cX5_mid 7 = .ok (.ifCond .ne 5, 3) := by decide +kernel
theorem dX5_mid_10 : decode cX5_mid 10 = .ok (.iconst (-1), 1) := by decide +kernel
theorem dX5_mid_11 : decode cX5_mid 11 = .ok (.ireturn, 1) := by decide +kernel
theorem dX5_mid_12 : decode cX5_mid 12 = .ok (.aload_n 0, 1) := by decide +kernel
theorem dX5_mid_13 : decode cX5_mid 13 = .ok (.getfield 49, 3) := by decide +kernel
theorem dX5_mid_16 : decode cX5_mid 16 = .ok (.iload_n 1, 1) := by decide +kernel
theorem dX5_mid_17 : decode cX5_mid 17 = .ok (.invokevirtual 283, 3) := by decide +kernel
theorem dX5_mid_20 : decode cX5_mid 20 = .ok (.istore 4, 2) := by decide +kernel
theorem dX5_mid_22 : decode cX5_mid 22 = .ok (.iload 4, 2) := by decide +kernel
theorem dX5_mid_24 : decode cX5_mid 24 = .ok (.bipush (-9), 2) := by decide +kernel
theorem dX5_mid_26 : decode cX5_mid 26 = .ok (.if_icmp .ne 9, 3) := by decide +kernel
theorem dX5_mid_29 : decode cX5_mid 29 = .ok (.aload_n 0, 1) := by decide +kernel
theorem dX5_mid_30 : decode cX5_mid 30 = .ok (.iconst 4, 1) := by decide +kernel
theorem dX5_mid_31 : decode cX5_mid 31 = .ok (.invokevirtual 88, 3) := by decide +kernel
theorem dX5_mid_34 : decode cX5_mid 34 = .ok (.ireturn, 1) := by decide +kernel
theorem dX5_mid_35 : decode cX5_mid 35 = .ok (.lconst 0, 1) := by decide +kernel
theorem dX5_mid_36 : decode cX5_mid 36 = .ok (.lstore 5, 2) := by decide +kernel
theorem dX5_mid_38 : decode cX5_mid 38 = .ok (.iconst 0, 1) := by decide +kernel
theorem dX5_mid_39 : decode cX5_mid 39 = .ok (.istore 7, 2) := by decide +kernel
theorem dX5_mid_41 : decode cX5_mid 41 = .ok (.iload 7, 2) := by decide +kernel
theorem dX5_mid_43 : decode cX5_mid 43 = .ok (.iload_n 2, 1) := by decide +kernel
theorem dX5_mid_44 : decode cX5_mid 44 = .ok (.if_icmp .gt 32, 3) := by decide +kernel
theorem dX5_mid_47 : decode cX5_mid 47 = .ok (.lload 5, 2) := by decide +kernel
theorem dX5_mid_49 : decode cX5_mid 49 = .ok (.iload_n 2, 1) := by decide +kernel
theorem dX5_mid_50 : decode cX5_mid 50 = .ok (.iload 7, 2) := by decide +kernel
theorem dX5_mid_52 : decode cX5_mid 52 = .ok (.iload_n 3, 1) := by decide +kernel
theorem dX5_mid_53 : decode cX5_mid 53 = .ok (.invokestatic 286, 3) := by decide +kernel
theorem dX5_mid_56 : decode cX5_mid 56 = .ok (.iconst 0, 1) := by decide +kernel
theorem dX5_mid_57 : decode cX5_mid 57 = .ok (.iload 4, 2) := by decide +kernel
theorem dX5_mid_59 : decode cX5_mid 59 = .ok (.iload 7, 2) := by decide +kernel
theorem dX5_mid_61 : decode cX5_mid 61 = .ok (.isub, 1) := by decide +kernel
theorem dX5_mid_62 : decode cX5_mid 62 = .ok (.invokestatic 79, 3) := by decide +kernel
theorem dX5_mid_65 : decode cX5_mid 65 = .ok (.i2l, 1) := by decide +kernel
theorem dX5_mid_66 : decode cX5_mid 66 = .ok (.lmul, 1) := by decide +kernel
theorem dX5_mid_67 : decode cX5_mid 67 = .ok (.ladd, 1) := by decide +kernel
theorem dX5_mid_68 : decode cX5_mid 68 = .ok (.lstore 5, 2) := by decide +kernel
theorem dX5_mid_70 : decode cX5_mid 70 = .ok (.iinc 7 1, 3) := by decide +kernel
theorem dX5_mid_73 : decode cX5_mid 73 = .ok (.goto (-32), 3) := by decide +kernel
theorem dX5_mid_76 : decode cX5_mid 76 = .ok (.aload_n 0, 1) := by decide +kernel
theorem dX5_mid_77 : decode cX5_mid 77 = .ok (.lload 5, 2) := by decide +kernel
theorem dX5_mid_79 : decode cX5_mid 79 = .ok (.ldc2_w 290, 3) := by decide +kernel
theorem dX5_mid_82 : decode cX5_mid 82 = .ok (.iload_n 2, 1) := by decide +kernel
theorem dX5_mid_83 : decode cX5_mid 83 = .ok (.invokestatic 269, 3) := by decide +kernel
theorem dX5_mid_86 : decode cX5_mid 86 = .ok (.invokevirtual 258, 3) := by decide +kernel
theorem dX5_mid_89 : decode cX5_mid 89 = .ok (.iconst 1, 1) := by decide +kernel
theorem dX5_mid_90 : decode cX5_mid 90 = .ok (.ireturn, 1) := by decide +kernel
theorem dX5_asked_0 : decode cX5_asked 0 = .ok (.aload_n 0, 1) := by decide +kernel
theorem dX5_asked_1 : decode cX5_asked 1 = .ok (.getfield 107, 3) := by decide +kernel
theorem dX5_asked_4 : decode cX5_asked 4 = .ok (.ireturn, 1) := by decide +kernel
theorem dX5_upper_0 : decode cX5_upper 0 = .ok (.aload_n 0, 1) := by decide +kernel
theorem dX5_upper_1 : decode cX5_upper 1 = .ok (.getfield 277, 3) := by decide +kernel
theorem dX5_upper_4 : decode cX5_upper 4 = .ok (.lreturn, 1) := by decide +kernel
theorem dX5_lower_0 : decode cX5_lower 0 = .ok (.aload_n 0, 1) := by decide +kernel
theorem dX5_lower_1 : decode cX5_lower 1 = .ok (.getfield 56, 3) := by decide +kernel
theorem dX5_lower_4 : decode cX5_lower 4 = .ok (.lreturn, 1) := by decide +kernel
theorem dX5_count_0 : decode cX5_count 0 = .ok (.iload_n 1, 1) := by decide +kernel
theorem dX5_count_1 : decode cX5_count 1 = .ok (.tableswitch 188 0 13 #[71, 79, 87, 95, 106, 114, 122, 130, 138, 147, 156, 164, 172, 180], 71) := by decide +kernel
theorem dX5_count_72 : decode cX5_count 72 = .ok (.aload_n 0, 1) := by decide +kernel
theorem dX5_count_73 : decode cX5_count 73 = .ok (.getfield 49, 3) := by decide +kernel
theorem dX5_count_76 : decode cX5_count 76 = .ok (.getfield 131, 3) := by decide +kernel
theorem dX5_count_79 : decode cX5_count 79 = .ok (.ireturn, 1) := by decide +kernel
theorem dX5_count_80 : decode cX5_count 80 = .ok (.aload_n 0, 1) := by decide +kernel
theorem dX5_count_81 : decode cX5_count 81 = .ok (.getfield 49, 3) := by decide +kernel
theorem dX5_count_84 : decode cX5_count 84 = .ok (.getfield 179, 3) := by decide +kernel
theorem dX5_count_87 : decode cX5_count 87 = .ok (.ireturn, 1) := by decide +kernel
theorem dX5_count_88 : decode cX5_count 88 = .ok (.aload_n 0, 1) := by decide +kernel
theorem dX5_count_89 : decode cX5_count 89 = .ok (.getfield 49, 3) := by decide +kernel
theorem dX5_count_92 : decode cX5_count 92 = .ok (.getfield 299, 3) := by decide +kernel
theorem dX5_count_95 : decode cX5_count 95 = .ok (.ireturn, 1) := by decide +kernel
theorem dX5_count_96 : decode cX5_count 96 = .ok (.aload_n 0, 1) := by decide +kernel
theorem dX5_count_97 : decode cX5_count 97 = .ok (.getfield 49, 3) := by decide +kernel
theorem dX5_count_100 : decode cX5_count 100 = .ok (.getfield 125, 3) := by decide +kernel
theorem dX5_count_103 : decode cX5_count 103 = .ok (.getfield 85, 3) := by decide +kernel
theorem dX5_count_106 : decode cX5_count 106 = .ok (.ireturn, 1) := by decide +kernel
theorem dX5_count_107 : decode cX5_count 107 = .ok (.aload_n 0, 1) := by decide +kernel
theorem dX5_count_108 : decode cX5_count 108 = .ok (.getfield 49, 3) := by decide +kernel
theorem dX5_count_111 : decode cX5_count 111 = .ok (.getfield 169, 3) := by decide +kernel
theorem dX5_count_114 : decode cX5_count 114 = .ok (.ireturn, 1) := by decide +kernel
theorem dX5_count_115 : decode cX5_count 115 = .ok (.aload_n 0, 1) := by decide +kernel
theorem dX5_count_116 : decode cX5_count 116 = .ok (.getfield 49, 3) := by decide +kernel
theorem dX5_count_119 : decode cX5_count 119 = .ok (.getfield 152, 3) := by decide +kernel
theorem dX5_count_122 : decode cX5_count 122 = .ok (.ireturn, 1) := by decide +kernel
theorem dX5_count_123 : decode cX5_count 123 = .ok (.aload_n 0, 1) := by decide +kernel
theorem dX5_count_124 : decode cX5_count 124 = .ok (.getfield 49, 3) := by decide +kernel
theorem dX5_count_127 : decode cX5_count 127 = .ok (.invokevirtual 188, 3) := by decide +kernel
theorem dX5_count_130 : decode cX5_count 130 = .ok (.ireturn, 1) := by decide +kernel
theorem dX5_count_131 : decode cX5_count 131 = .ok (.aload_n 0, 1) := by decide +kernel
theorem dX5_count_132 : decode cX5_count 132 = .ok (.getfield 49, 3) := by decide +kernel
theorem dX5_count_135 : decode cX5_count 135 = .ok (.getfield 302, 3) := by decide +kernel
theorem dX5_count_138 : decode cX5_count 138 = .ok (.ireturn, 1) := by decide +kernel
theorem dX5_count_139 : decode cX5_count 139 = .ok (.aload_n 0, 1) := by decide +kernel
theorem dX5_count_140 : decode cX5_count 140 = .ok (.getfield 49, 3) := by decide +kernel
theorem dX5_count_143 : decode cX5_count 143 = .ok (.iconst 1, 1) := by decide +kernel
theorem dX5_count_144 : decode cX5_count 144 = .ok (.invokevirtual 305, 3) := by decide +kernel
theorem dX5_count_147 : decode cX5_count 147 = .ok (.ireturn, 1) := by decide +kernel
theorem dX5_count_148 : decode cX5_count 148 = .ok (.aload_n 0, 1) := by decide +kernel
theorem dX5_count_149 : decode cX5_count 149 = .ok (.getfield 49, 3) := by decide +kernel
theorem dX5_count_152 : decode cX5_count 152 = .ok (.iconst 2, 1) := by decide +kernel
theorem dX5_count_153 : decode cX5_count 153 = .ok (.invokevirtual 305, 3) := by decide +kernel
theorem dX5_count_156 : decode cX5_count 156 = .ok (.ireturn, 1) := by decide +kernel
theorem dX5_count_157 : decode cX5_count 157 = .ok (.aload_n 0, 1) := by decide +kernel
theorem dX5_count_158 : decode cX5_count 158 = .ok (.getfield 13, 3) := by decide +kernel
theorem dX5_count_161 : decode cX5_count 161 = .ok (.invokestatic 308, 3) := by decide +kernel
theorem dX5_count_164 : decode cX5_count 164 = .ok (.ireturn, 1) := by decide +kernel
theorem dX5_count_165 : decode cX5_count 165 = .ok (.aload_n 0, 1) := by decide +kernel
theorem dX5_count_166 : decode cX5_count 166 = .ok (.getfield 17, 3) := by decide +kernel
theorem dX5_count_169 : decode cX5_count 169 = .ok (.invokestatic 308, 3) := by decide +kernel
theorem dX5_count_172 : decode cX5_count 172 = .ok (.ireturn, 1) := by decide +kernel
theorem dX5_count_173 : decode cX5_count 173 = .ok (.aload_n 0, 1) := by decide +kernel
theorem dX5_count_174 : decode cX5_count 174 = .ok (.getfield 20, 3) := by decide +kernel
theorem dX5_count_177 : decode cX5_count 177 = .ok (.invokestatic 308, 3) := by decide +kernel
theorem dX5_count_180 : decode cX5_count 180 = .ok (.ireturn, 1) := by decide +kernel
theorem dX5_count_181 : decode cX5_count 181 = .ok (.aload_n 0, 1) := by decide +kernel
theorem dX5_count_182 : decode cX5_count 182 = .ok (.getfield 49, 3) := by decide +kernel
theorem dX5_count_185 : decode cX5_count 185 = .ok (.getfield 312, 3) := by decide +kernel
theorem dX5_count_188 : decode cX5_count 188 = .ok (.ireturn, 1) := by decide +kernel
theorem dX5_count_189 : decode cX5_count 189 = .ok (.iconst (-1), 1) := by decide +kernel
theorem dX5_count_190 : decode cX5_count 190 = .ok (.ireturn, 1) := by decide +kernel
