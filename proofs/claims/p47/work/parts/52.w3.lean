set_option maxHeartbeats 4000000 in
set_option maxRecDepth 100000 in
theorem cs_L_law_802 {p : Program} {l : Launch} {e : Env} {s : State} {m : MethodId} {args : Array Value} {below : List Frame} {meth : Method} {c : Code} {D : va_G} {cI cR : ClassId} {ad : Nat → Nat} (hap : apN 77 ad) (C : Cx p s m args meth c cL_law 34 "WokenYearsLaw" D (tysC cI cR) 77 ad (some .boolean)) {Q : State → Prop} (hQ : LawEnd p l e s m args below meth c D ad cI cR Q) {b L : Nat} {xs : Nat → Int32} (hX : va_X b L xs s s.heap) (hbl : b < s.heap.size) (hbA : ¬ inA 77 ad b) {z5 : Int32} {z7 : Int32} {z8 : Bool} {σ : Sg} (h : s_L_law_802 L xs z5 z7 z8 σ = some true) : Jd p l e room_1 s m args below meth c D 77 ad (celC cI cR ad) okC 34 Q 802 [(0, .ref b), (1, .ref (ad 0)), (2, .ref (ad (41 + 33))), (3, .ref (ad (42 + 33))), (5, .int z5), (7, .int z7), (8, .int (b2i z8))] [] σ := by
  unfold s_L_law_802 at h
  refine J_iload (q := 804) C dL_law_802 rfl 5 rfl ?_
  refine J_aload_n (q := 805) C dL_law_804 rfl rfl 0 rfl ?_
  refine J_bipush (v := 22) (q := 807) C dL_law_805 rfl rfl ?_
  obtain ⟨r50, ec50, h⟩ := bnd_of h
  refine JS_callIS (q := 810) (As := [.ref b, .int (22 : Int32)]) C hX hbl hbA (c_L_cell hap hbA ec50) ok_L_cell kM_L_15 rfl rfl rfl ⟨Nat.le_of_ble_eq_true rfl, Nat.le_of_ble_eq_true rfl⟩ (Nat.le_of_ble_eq_true rfl) dL_law_807 rfl ?_
  refine J_iconst (v := 1 ) (q := 811) C dL_law_810 rfl rfl ?_
  refine J_aload_n (q := 812) C dL_law_811 rfl rfl 2 rfl ?_
  refine J_iconst (v := 1 ) (q := 813) C dL_law_812 rfl rfl ?_
  refine JL_iald (q := 814) C isLA_41 h dL_law_813 rfl (fun h => ?_)
  refine J_ishl (q := 815) C dL_law_814 rfl ?_
  obtain ⟨r51, ec51, h⟩ := bnd_of h
  refine J_callIS (q := 818) (As := [.int r50, .int ((1 : Int32) <<< ((gA σ 41 (1 : Int32).toNatClampNeg) &&& 31))]) C (c_L_low hap  ec51) ok_L_low kM_L_21 rfl rfl rfl ⟨Nat.le_of_ble_eq_true rfl, Nat.le_of_ble_eq_true rfl⟩ (Nat.le_of_ble_eq_true rfl) dL_law_815 rfl ?_
  refine J_iand (q := 819) C dL_law_818 rfl ?_
  refine J_nmi h (fun y52 ey52 h => ?_)
  refine J_istore (q := 821) C dL_law_819 rfl (by decide) rfl ?_
  refine J_aload_n (q := 822) C dL_law_821 rfl rfl 2 rfl ?_
  refine J_iload (q := 824) C dL_law_822 rfl 0 rfl ?_
  obtain ⟨r53, ec53, h⟩ := bnd_of h
  refine J_callIV (q := 827) (As := [.int y52]) C (c_X5_soonest hap  ec53) ok_X5_soonest kM_L_128 (by decide) rfl rfl rfl rfl rfl rfl ⟨Nat.le_of_ble_eq_true rfl, Nat.le_of_ble_eq_true rfl⟩ (Nat.le_of_ble_eq_true rfl) dL_law_824 rfl ?_
  refine J_istore (q := 829) C dL_law_827 rfl (by decide) rfl ?_
  refine J_aload_n (q := 830) C dL_law_829 rfl rfl 3 rfl ?_
  refine J_iload (q := 832) C dL_law_830 rfl 1 rfl ?_
  refine J_iconst (v := 2 ) (q := 833) C dL_law_832 rfl rfl ?_
  obtain ⟨r54, σ54, ec54, h⟩ := bnd2_of h
  refine J_callIV (q := 836) (As := [.int y52, .int (2 : Int32)]) C (c_X5_intime hap  ec54) ok_X5_intime kM_L_131 (by decide) rfl rfl rfl rfl rfl rfl ⟨Nat.le_of_ble_eq_true rfl, Nat.le_of_ble_eq_true rfl⟩ (Nat.le_of_ble_eq_true rfl) dL_law_833 rfl ?_
  refine J_istore (q := 838) C dL_law_836 rfl (by decide) rfl ?_
  refine J_iload (q := 840) C dL_law_838 rfl 1 rfl ?_
  refine J_if_lt (tgt := 890) (q := 843) C dL_law_840 rfl (by decide) h (fun _ h => ?_) (fun _ h => ?_)
  · refine J_iconst (v := 0 ) (q := 891) C dL_law_890 rfl rfl ?_
    cases h
  · refine J_iload (q := 845) C dL_law_843 rfl 2 rfl ?_
    refine jn_elim h (fun k853 ek853 h => ?_)
    have hk853 : ∀ (t0_853 : Bool), k853 t0_853 = some true → Jd p l e room_1 s m args below meth c D 77 ad (celC cI cR ad) okC 34 Q 853 [(0, .ref b), (1, .ref (ad 0)), (2, .ref (ad (41 + 33))), (3, .ref (ad (42 + 33))), (5, .int z5), (7, .int z7), (8, .int (b2i z8)), (9, .int y52), (10, .int r53), (11, .int r54)] [.int (b2i t0_853)] σ54 := by
      intro t0_853 h
      rw [ek853] at h
      refine J_iload (q := 855) C dL_law_853 rfl 8 rfl ?_
      refine jn_elim h (fun k863 ek863 h => ?_)
      have hk863 : ∀ (t0_863 : Bool), k863 t0_863 = some true → Jd p l e room_1 s m args below meth c D 77 ad (celC cI cR ad) okC 34 Q 863 [(0, .ref b), (1, .ref (ad 0)), (2, .ref (ad (41 + 33))), (3, .ref (ad (42 + 33))), (5, .int z5), (7, .int z7), (8, .int (b2i z8)), (9, .int y52), (10, .int r53), (11, .int r54)] [.int (b2i t0_863), .int (b2i t0_853)] σ54 := by
        intro t0_863 h
        rw [ek863] at h
        refine J_icmp_ne (tgt := 890) (q := 866) C dL_law_863 rfl (by decide) h (fun _ h => ?_) (fun _ h => ?_)
        · refine J_iload (q := 868) C dL_law_866 rfl 9 rfl ?_
          refine jn_elim h (fun k878 ek878 h => ?_)
          have hk878 : k878 = some true → Jd p l e room_1 s m args below meth c D 77 ad (celC cI cR ad) okC 34 Q 878 [(0, .ref b), (1, .ref (ad 0)), (2, .ref (ad (41 + 33))), (3, .ref (ad (42 + 33))), (5, .int z5), (7, .int z7), (8, .int (b2i z8)), (9, .int y52), (11, .int r54)] [] σ54 := by
            intro  h
            rw [ek878] at h
            refine J_iload (q := 880) C dL_law_878 rfl 8 rfl ?_
            refine jn_elim h (fun k892 ek892 h => ?_)
            have hk892 : k892 = some true → Jd p l e room_1 s m args below meth c D 77 ad (celC cI cR ad) okC 34 Q 892 [(0, .ref b), (1, .ref (ad 0)), (2, .ref (ad (41 + 33))), (3, .ref (ad (42 + 33))), (5, .int z5), (7, .int z7), (8, .int (b2i z8)), (9, .int y52), (11, .int r54)] [] σ54 := by
              intro  h
              rw [ek892] at h
              refine J_aload_n (q := 893) C dL_law_892 rfl rfl 1 rfl ?_
              refine J_iconst (v := 1 ) (q := 894) C dL_law_893 rfl rfl ?_
              obtain ⟨r55, ec55, h⟩ := bnd_of h
              refine J_callIV (q := 897) (As := [.int (1 : Int32)]) C (c_X5_count hap  ec55) ok_X5_count kM_L_62 (by decide) rfl rfl rfl rfl rfl rfl ⟨Nat.le_of_ble_eq_true rfl, Nat.le_of_ble_eq_true rfl⟩ (Nat.le_of_ble_eq_true rfl) dL_law_894 rfl ?_
              refine J_istore (q := 899) C dL_law_897 rfl (by decide) rfl ?_
              refine J_iload (q := 901) C dL_law_899 rfl 9 rfl ?_
              refine jn_elim h (fun k1081 ek1081 h => ?_)
              have hk1081 : ∀ (σj1081 : Sg), k1081 σj1081 = some true → Jd p l e room_1 s m args below meth c D 77 ad (celC cI cR ad) okC 34 Q 1081 [(0, .ref b), (1, .ref (ad 0)), (2, .ref (ad (41 + 33))), (3, .ref (ad (42 + 33))), (5, .int z5), (7, .int z7), (8, .int (b2i z8)), (9, .int y52), (11, .int r54)] [] σj1081 := by
                intro σj1081 h
                rw [ek1081] at h
                refine J_aload_n (q := 1082) C dL_law_1081 rfl rfl 1 rfl ?_
                refine J_iconst (v := 1 ) (q := 1083) C dL_law_1082 rfl rfl ?_
                obtain ⟨r56, σ56, ec56, h⟩ := bnd2_of h
                refine J_callIV (q := 1086) (As := [.int (1 : Int32)]) C (c_X5_on hap  ec56) ok_X5_on kM_L_137 (by decide) rfl rfl rfl rfl rfl rfl ⟨Nat.le_of_ble_eq_true rfl, Nat.le_of_ble_eq_true rfl⟩ (Nat.le_of_ble_eq_true rfl) dL_law_1083 rfl ?_
                refine J_iload (q := 1088) C dL_law_1086 rfl 4 rfl ?_
                refine J_icmp_eq (tgt := 1093) (q := 1091) C dL_law_1088 rfl (by decide) h (fun _ h => ?_) (fun _ h => ?_)
                · refine J_aload_n (q := 1094) C dL_law_1093 rfl rfl 1 rfl ?_
                  obtain ⟨r57, σ57, ec57, h⟩ := bnd2_of h
                  refine J_callIV (q := 1097) (As := []) C (c_X5_many hap  ec57) ok_X5_many kM_L_140 (by decide) rfl rfl rfl rfl rfl rfl ⟨Nat.le_of_ble_eq_true rfl, Nat.le_of_ble_eq_true rfl⟩ (Nat.le_of_ble_eq_true rfl) dL_law_1094 rfl ?_
                  refine J_istore (q := 1099) C dL_law_1097 rfl (by decide) rfl ?_
                  refine J_aload_n (q := 1100) C dL_law_1099 rfl rfl 2 rfl ?_
                  obtain ⟨r58, ec58, h⟩ := bnd_of h
                  refine J_callIV (q := 1103) (As := []) C (c_X5_asked hap  ec58) ok_X5_asked kM_L_92 (by decide) rfl rfl rfl rfl rfl rfl ⟨Nat.le_of_ble_eq_true rfl, Nat.le_of_ble_eq_true rfl⟩ (Nat.le_of_ble_eq_true rfl) dL_law_1100 rfl ?_
                  refine J_istore (q := 1105) C dL_law_1103 rfl (by decide) rfl ?_
                  refine J_iload (q := 1107) C dL_law_1105 rfl 1 rfl ?_
                  refine J_iload (q := 1109) C dL_law_1107 rfl 8 rfl ?_
                  refine J_icmp_lt (tgt := 1157) (q := 1112) C dL_law_1109 rfl (by decide) h (fun _ h => ?_) (fun _ h => ?_)
                  · refine J_iconst (v := 0 ) (q := 1158) C dL_law_1157 rfl rfl ?_
                    cases h
                  · refine J_iload (q := 1114) C dL_law_1112 rfl 1 rfl ?_
                    refine J_iload (q := 1116) C dL_law_1114 rfl 0 rfl ?_
                    obtain ⟨r59, ec59, h⟩ := bnd_of h
                    refine J_callIS (q := 1119) (As := [.int r58]) C (c_L_bits hap  ec59) ok_L_bits kM_L_59 rfl rfl rfl ⟨Nat.le_of_ble_eq_true rfl, Nat.le_of_ble_eq_true rfl⟩ (Nat.le_of_ble_eq_true rfl) dL_law_1116 rfl ?_
                    refine J_icmp_ne (tgt := 1157) (q := 1122) C dL_law_1119 rfl (by decide) h (fun _ h => ?_) (fun _ h => ?_)
                    · refine J_iload (q := 1124) C dL_law_1122 rfl 0 rfl ?_
                      refine J_iload (q := 1126) C dL_law_1124 rfl 7 rfl ?_
                      refine J_iconst (v := -1 ) (q := 1127) C dL_law_1126 rfl rfl ?_
                      refine J_ixor (q := 1128) C dL_law_1127 rfl ?_
                      refine J_iand (q := 1129) C dL_law_1128 rfl ?_
                      refine J_if_ne (tgt := 1157) (q := 1132) C dL_law_1129 rfl (by decide) h (fun _ h => ?_) (fun _ h => ?_)
                      · refine J_aload_n (q := 1133) C dL_law_1132 rfl rfl 3 rfl ?_
                        refine J_iload (q := 1135) C dL_law_1133 rfl 0 rfl ?_
                        refine J_iconst (v := 2 ) (q := 1136) C dL_law_1135 rfl rfl ?_
                        obtain ⟨r60, σ60, ec60, h⟩ := bnd2_of h
                        refine J_callIV (q := 1139) (As := [.int r58, .int (2 : Int32)]) C (c_X5_intime hap  ec60) ok_X5_intime kM_L_131 (by decide) rfl rfl rfl rfl rfl rfl ⟨Nat.le_of_ble_eq_true rfl, Nat.le_of_ble_eq_true rfl⟩ (Nat.le_of_ble_eq_true rfl) dL_law_1136 rfl ?_
                        refine J_if_lt (tgt := 1157) (q := 1142) C dL_law_1139 rfl (by decide) h (fun _ h => ?_) (fun _ h => ?_)
                        · refine J_iconst (v := 0 ) (q := 1158) C dL_law_1157 rfl rfl ?_
                          cases h
                        · refine J_iload (q := 1144) C dL_law_1142 rfl 1 rfl ?_
                          refine J_iload (q := 1146) C dL_law_1144 rfl 9 rfl ?_
                          obtain ⟨r61, ec61, h⟩ := bnd_of h
                          refine J_callIS (q := 1149) (As := [.int y52]) C (c_L_bits hap  ec61) ok_L_bits kM_L_59 rfl rfl rfl ⟨Nat.le_of_ble_eq_true rfl, Nat.le_of_ble_eq_true rfl⟩ (Nat.le_of_ble_eq_true rfl) dL_law_1146 rfl ?_
                          refine jn_elim h (fun k1159 ek1159 h => ?_)
                          have hk1159 : k1159 = some true → Jd p l e room_1 s m args below meth c D 77 ad (celC cI cR ad) okC 34 Q 1159 [(0, .ref b), (1, .ref (ad 0)), (2, .ref (ad (41 + 33))), (3, .ref (ad (42 + 33))), (5, .int z5)] [] σ60 := by
                            intro  h
                            rw [ek1159] at h
                            refine J_iconst (v := 0 ) (q := 1160) C dL_law_1159 rfl rfl ?_
                            refine J_istore (q := 1162) C dL_law_1160 rfl (by decide) rfl ?_
                            refine J_iconst (v := 0 ) (q := 1163) C dL_law_1162 rfl rfl ?_
                            refine J_istore (q := 1165) C dL_law_1163 rfl (by decide) rfl ?_
                            refine J_sub [2, 3, 4, 5, 6, 1, 0] rfl ?_
                            refine cl_L_law_1165 hap C hQ hX hbl hbA  (fun v15_1202 h => ?_) FU _ _ h
                            · exact cs_L_law_1202 hap C hQ hX hbl hbA h
                          refine J_icmp_ge (tgt := 1159) (q := 1152) C dL_law_1149 rfl (by decide) h (fun _ h => ?_) (fun _ h => ?_)
                          · refine J_sub [2, 3, 4, 5, 6] rfl ?_
                            exact hk1159 h
                          · refine J_iload (q := 1154) C dL_law_1152 rfl 10 rfl ?_
                            refine J_if_lt (tgt := 1159) (q := 1157) C dL_law_1154 rfl (by decide) h (fun _ h => ?_) (fun _ h => ?_)
                            · refine J_sub [2, 3, 4, 5, 6] rfl ?_
                              exact hk1159 h
                            · refine J_iconst (v := 0 ) (q := 1158) C dL_law_1157 rfl rfl ?_
                              cases h
                      · refine J_iconst (v := 0 ) (q := 1158) C dL_law_1157 rfl rfl ?_
                        cases h
                    · refine J_iconst (v := 0 ) (q := 1158) C dL_law_1157 rfl rfl ?_
                      cases h
                · refine J_iconst (v := 0 ) (q := 1092) C dL_law_1091 rfl rfl ?_
                  cases h
              refine J_if_lt (tgt := 1081) (q := 904) C dL_law_901 rfl (by decide) h (fun _ h => ?_) (fun _ h => ?_)
              · refine J_sub [1, 2, 3, 4, 5, 6, 7, 8, 9] rfl ?_
                exact hk1081 _ h
              · refine J_iload (q := 906) C dL_law_904 rfl 5 rfl ?_
                refine J_bipush (v := 9) (q := 908) C dL_law_906 rfl rfl ?_
                refine J_icmp_ge (tgt := 1081) (q := 911) C dL_law_908 rfl (by decide) h (fun _ h => ?_) (fun _ h => ?_)
                · refine J_sub [1, 2, 3, 4, 5, 6, 7, 8, 9] rfl ?_
                  exact hk1081 _ h
                · refine J_iload (q := 913) C dL_law_911 rfl 8 rfl ?_
                  obtain ⟨r122, ec122, h⟩ := bnd_of h
                  refine J_callIS (q := 916) (As := [.int y52]) C (c_L_bits hap  ec122) ok_L_bits kM_L_59 rfl rfl rfl ⟨Nat.le_of_ble_eq_true rfl, Nat.le_of_ble_eq_true rfl⟩ (Nat.le_of_ble_eq_true rfl) dL_law_913 rfl ?_
                  refine J_istore (q := 918) C dL_law_916 rfl (by decide) rfl ?_
                  refine J_iconst (v := 1 ) (q := 919) C dL_law_918 rfl rfl ?_
                  refine J_istore (q := 921) C dL_law_919 rfl (by decide) rfl ?_
                  refine J_iconst (v := 0 ) (q := 922) C dL_law_921 rfl rfl ?_
                  refine J_istore (q := 924) C dL_law_922 rfl (by decide) rfl ?_
                  refine J_sub [4, 5, 6, 7, 8, 9, 10, 11, 12, 3, 2, 1, 0] rfl ?_
                  refine cl_L_law_924 hap C hQ hX hbl hbA  (fun v14_1047 σv1047 h => ?_) FU _ _ _ h
                  · refine J_iload (q := 1049) C dL_law_1047 rfl 10 rfl ?_
                    refine J_ifeq_b (tgt := 1079) (q := 1052) C dL_law_1049 rfl (by decide) h (fun _ h => ?_) (fun _ h => ?_)
                    · refine J_aload_n (q := 1053) C dL_law_1052 rfl rfl 1 rfl ?_
                      refine J_iconst (v := 1 ) (q := 1054) C dL_law_1053 rfl rfl ?_
                      obtain ⟨r131, ec131, h⟩ := bnd_of h
                      refine J_callIV (q := 1057) (As := [.int (1 : Int32)]) C (c_X5_count hap  ec131) ok_X5_count kM_L_62 (by decide) rfl rfl rfl rfl rfl rfl ⟨Nat.le_of_ble_eq_true rfl, Nat.le_of_ble_eq_true rfl⟩ (Nat.le_of_ble_eq_true rfl) dL_law_1054 rfl ?_
                      refine J_iload (q := 1059) C dL_law_1057 rfl 9 rfl ?_
                      refine J_isub (q := 1060) C dL_law_1059 rfl ?_
                      refine J_iload (q := 1062) C dL_law_1060 rfl 8 rfl ?_
                      refine J_icmp_ne (tgt := 1079) (q := 1065) C dL_law_1062 rfl (by decide) h (fun _ h => ?_) (fun _ h => ?_)
                      · refine J_iload (q := 1067) C dL_law_1065 rfl 7 rfl ?_
                        refine J_aload_n (q := 1068) C dL_law_1067 rfl rfl 1 rfl ?_
                        refine J_bipush (v := 6) (q := 1070) C dL_law_1068 rfl rfl ?_
                        obtain ⟨r132, ec132, h⟩ := bnd_of h
                        refine J_callIV (q := 1073) (As := [.int (6 : Int32)]) C (c_X5_count hap  ec132) ok_X5_count kM_L_62 (by decide) rfl rfl rfl rfl rfl rfl ⟨Nat.le_of_ble_eq_true rfl, Nat.le_of_ble_eq_true rfl⟩ (Nat.le_of_ble_eq_true rfl) dL_law_1070 rfl ?_
                        refine J_iconst (v := -1 ) (q := 1074) C dL_law_1073 rfl rfl ?_
                        refine J_ixor (q := 1075) C dL_law_1074 rfl ?_
                        refine J_iand (q := 1076) C dL_law_1075 rfl ?_
                        refine J_if_eq (tgt := 1081) (q := 1079) C dL_law_1076 rfl (by decide) h (fun _ h => ?_) (fun _ h => ?_)
                        · refine J_sub [0, 1, 2, 3, 4, 5, 6, 7, 8] rfl ?_
                          exact hk1081 _ h
                        · refine J_iconst (v := 0 ) (q := 1080) C dL_law_1079 rfl rfl ?_
                          cases h
                      · refine J_iconst (v := 0 ) (q := 1080) C dL_law_1079 rfl rfl ?_
                        cases h
                    · refine J_iconst (v := 0 ) (q := 1080) C dL_law_1079 rfl rfl ?_
                      cases h
            refine J_if_ge (tgt := 892) (q := 883) C dL_law_880 rfl (by decide) h (fun _ h => ?_) (fun _ h => ?_)
            · exact hk892 h
            · refine J_iload (q := 885) C dL_law_883 rfl 8 rfl ?_
              refine J_bipush (v := -9) (q := 887) C dL_law_885 rfl rfl ?_
              refine J_icmp_eq (tgt := 892) (q := 890) C dL_law_887 rfl (by decide) h (fun _ h => ?_) (fun _ h => ?_)
              · exact hk892 h
              · refine J_iconst (v := 0 ) (q := 891) C dL_law_890 rfl rfl ?_
                cases h
          refine J_if_lt (tgt := 878) (q := 871) C dL_law_868 rfl (by decide) h (fun _ h => ?_) (fun _ h => ?_)
          · refine J_sub [0, 1, 2, 3, 4, 5, 6, 7, 9] rfl ?_
            exact hk878 h
          · refine J_iload (q := 873) C dL_law_871 rfl 9 rfl ?_
            refine J_iload (q := 875) C dL_law_873 rfl 8 rfl ?_
            refine J_icmp_lt (tgt := 890) (q := 878) C dL_law_875 rfl (by decide) h (fun _ h => ?_) (fun _ h => ?_)
            · refine J_iconst (v := 0 ) (q := 891) C dL_law_890 rfl rfl ?_
              cases h
            · refine J_sub [0, 1, 2, 3, 4, 5, 6, 7, 9] rfl ?_
              exact hk878 h
        · refine J_iconst (v := 0 ) (q := 891) C dL_law_890 rfl rfl ?_
          cases h
      refine J_if_ne (tgt := 862) (q := 858) C dL_law_855 rfl (by decide) h (fun _ h => ?_) (fun _ h => ?_)
      · refine J_iconst (v := 1 ) (q := 859) C dL_law_858 rfl rfl ?_
        refine J_goto (tgt := 863) C dL_law_859 (by decide) ?_
        exact hk863 _ h
      · refine J_iconst (v := 0 ) (q := 863) C dL_law_862 rfl rfl ?_
        exact hk863 _ h
    refine J_if_ne (tgt := 852) (q := 848) C dL_law_845 rfl (by decide) h (fun _ h => ?_) (fun _ h => ?_)
    · refine J_iconst (v := 1 ) (q := 849) C dL_law_848 rfl rfl ?_
      refine J_goto (tgt := 853) C dL_law_849 (by decide) ?_
      refine J_sub [3, 4, 5, 6, 7, 8, 9, 2, 1, 0] rfl ?_
      exact hk853 _ h
    · refine J_iconst (v := 0 ) (q := 853) C dL_law_852 rfl rfl ?_
      refine J_sub [3, 4, 5, 6, 7, 8, 9, 2, 1, 0] rfl ?_
      exact hk853 _ h
set_option maxHeartbeats 4000000 in
set_option maxRecDepth 100000 in
theorem cs_L_law_735 {p : Program} {l : Launch} {e : Env} {s : State} {m : MethodId} {args : Array Value} {below : List Frame} {meth : Method} {c : Code} {D : va_G} {cI cR : ClassId} {ad : Nat → Nat} (hap : apN 77 ad) (C : Cx p s m args meth c cL_law 34 "WokenYearsLaw" D (tysC cI cR) 77 ad (some .boolean)) {Q : State → Prop} (hQ : LawEnd p l e s m args below meth c D ad cI cR Q) {b L : Nat} {xs : Nat → Int32} (hX : va_X b L xs s s.heap) (hbl : b < s.heap.size) (hbA : ¬ inA 77 ad b) {z5 : Int32} {σ : Sg} (h : s_L_law_735 L xs z5 σ = some true) : Jd p l e room_1 s m args below meth c D 77 ad (celC cI cR ad) okC 34 Q 735 [(0, .ref b), (1, .ref (ad 0)), (2, .ref (ad (41 + 33))), (3, .ref (ad (42 + 33))), (5, .int z5)] [] σ := by
  unfold s_L_law_735 at h
  refine J_iconst (v := 0 ) (q := 736) C dL_law_735 rfl rfl ?_
  refine J_istore (q := 738) C dL_law_736 rfl (by decide) rfl ?_
  refine J_iconst (v := 0 ) (q := 739) C dL_law_738 rfl rfl ?_
  refine J_istore (q := 741) C dL_law_739 rfl (by decide) rfl ?_
  refine J_iconst (v := 0 ) (q := 742) C dL_law_741 rfl rfl ?_
  refine J_istore (q := 744) C dL_law_742 rfl (by decide) rfl ?_
  refine J_sub [3, 4, 5, 6, 7, 2, 1, 0] rfl ?_
  refine cl_L_law_744 hap C hQ hX hbl hbA  (fun v7_802 v8_802 σv802 h => ?_) FU _ _ _ _ h
  · exact cs_L_law_802 hap C hQ hX hbl hbA h
set_option maxHeartbeats 4000000 in
set_option maxRecDepth 100000 in
theorem cs_L_law_533 {p : Program} {l : Launch} {e : Env} {s : State} {m : MethodId} {args : Array Value} {below : List Frame} {meth : Method} {c : Code} {D : va_G} {cI cR : ClassId} {ad : Nat → Nat} (hap : apN 77 ad) (C : Cx p s m args meth c cL_law 34 "WokenYearsLaw" D (tysC cI cR) 77 ad (some .boolean)) {Q : State → Prop} (hQ : LawEnd p l e s m args below meth c D ad cI cR Q) {b L : Nat} {xs : Nat → Int32} (hX : va_X b L xs s s.heap) (hbl : b < s.heap.size) (hbA : ¬ inA 77 ad b) {σ : Sg} (h : s_L_law_533 L xs σ = some true) : Jd p l e room_1 s m args below meth c D 77 ad (celC cI cR ad) okC 34 Q 533 [(0, .ref b), (1, .ref (ad 0)), (2, .ref (ad (41 + 33))), (3, .ref (ad (42 + 33)))] [] σ := by
  unfold s_L_law_533 at h
  refine J_aload_n (q := 534) C dL_law_533 rfl rfl 1 rfl ?_
  refine J_iconst (v := 1 ) (q := 535) C dL_law_534 rfl rfl ?_
  obtain ⟨r35, σ35, ec35, h⟩ := bnd2_of h
  refine J_callIV (q := 538) (As := [.int (1 : Int32)]) C (c_X5_keep hap  ec35) ok_X5_keep kM_L_120 (by decide) rfl rfl rfl rfl rfl rfl ⟨Nat.le_of_ble_eq_true rfl, Nat.le_of_ble_eq_true rfl⟩ (Nat.le_of_ble_eq_true rfl) dL_law_535 rfl ?_
  refine J_aload_n (q := 539) C dL_law_538 rfl rfl 1 rfl ?_
  refine J_iconst (v := 3 ) (q := 540) C dL_law_539 rfl rfl ?_
  obtain ⟨r36, ec36, h⟩ := bnd_of h
  refine J_callIV (q := 543) (As := [.int (3 : Int32)]) C (c_X5_count hap  ec36) ok_X5_count kM_L_62 (by decide) rfl rfl rfl rfl rfl rfl ⟨Nat.le_of_ble_eq_true rfl, Nat.le_of_ble_eq_true rfl⟩ (Nat.le_of_ble_eq_true rfl) dL_law_540 rfl ?_
  refine J_icmp_eq (tgt := 548) (q := 546) C dL_law_543 rfl (by decide) h (fun _ h => ?_) (fun _ h => ?_)
  · refine J_aload_n (q := 549) C dL_law_548 rfl rfl 1 rfl ?_
    refine J_iconst (v := 3 ) (q := 550) C dL_law_549 rfl rfl ?_
    obtain ⟨r37, ec37, h⟩ := bnd_of h
    refine J_callIV (q := 553) (As := [.int (3 : Int32)]) C (c_X5_count hap  ec37) ok_X5_count kM_L_62 (by decide) rfl rfl rfl rfl rfl rfl ⟨Nat.le_of_ble_eq_true rfl, Nat.le_of_ble_eq_true rfl⟩ (Nat.le_of_ble_eq_true rfl) dL_law_550 rfl ?_
    refine J_istore (q := 555) C dL_law_553 rfl (by decide) rfl ?_
    refine J_aload_n (q := 556) C dL_law_555 rfl rfl 1 rfl ?_
    refine J_bipush (v := 21) (q := 558) C dL_law_556 rfl rfl ?_
    obtain ⟨r38, ec38, h⟩ := bnd_of h
    refine JS_callIS (q := 561) (As := [.ref b, .int (21 : Int32)]) C hX hbl hbA (c_L_cell hap hbA ec38) ok_L_cell kM_L_15 rfl rfl rfl ⟨Nat.le_of_ble_eq_true rfl, Nat.le_of_ble_eq_true rfl⟩ (Nat.le_of_ble_eq_true rfl) dL_law_558 rfl ?_
    refine J_bipush (v := 100) (q := 563) C dL_law_561 rfl rfl ?_
    obtain ⟨r39, ec39, h⟩ := bnd_of h
    refine J_callIS (q := 566) (As := [.int r38, .int (100 : Int32)]) C (c_L_low hap  ec39) ok_L_low kM_L_21 rfl rfl rfl ⟨Nat.le_of_ble_eq_true rfl, Nat.le_of_ble_eq_true rfl⟩ (Nat.le_of_ble_eq_true rfl) dL_law_563 rfl ?_
    refine J_istore (q := 568) C dL_law_566 rfl (by decide) rfl ?_
    refine J_iconst (v := 0 ) (q := 569) C dL_law_568 rfl rfl ?_
    refine J_istore (q := 571) C dL_law_569 rfl (by decide) rfl ?_
    refine J_sub [3, 4, 5, 6, 2, 1, 0] rfl ?_
    refine cl_L_law_571 hap C hQ hX hbl hbA  (fun h => ?_) FU _ h
    · exact cs_L_law_735 hap C hQ hX hbl hbA h
  · refine J_iconst (v := 0 ) (q := 547) C dL_law_546 rfl rfl ?_
    cases h
set_option maxHeartbeats 4000000 in
set_option maxRecDepth 100000 in
theorem c_L_law {p : Program} {l : Launch} {e : Env} {s : State} {m : MethodId} {args : Array Value} {below : List Frame} {meth : Method} {c : Code} {D : va_G} {cI cR : ClassId} {ad : Nat → Nat} (hap : apN 77 ad) (C : Cx p s m args meth c cL_law 34 "WokenYearsLaw" D (tysC cI cR) 77 ad (some .boolean)) {Q : State → Prop} (hQ : LawEnd p l e s m args below meth c D ad cI cR Q) {b L : Nat} {xs : Nat → Int32} (hX : va_X b L xs s s.heap) (hbl : b < s.heap.size) (hbA : ¬ inA 77 ad b) {σ : Sg} (h : f_L_law L xs σ = some true) : Jd p l e room_1 s m args below meth c D 77 ad (celC cI cR ad) okC 34 Q 24 [(0, .ref b), (1, .ref (ad 0)), (2, .ref (ad (41 + 33))), (3, .ref (ad (42 + 33))), (4, .ref (ad (43 + 33)))] [] σ := by
  unfold f_L_law at h
  refine J_aload_n (q := 25) C dL_law_24 rfl rfl 1 rfl ?_
  refine J_aload_n (q := 26) C dL_law_25 rfl rfl 0 rfl ?_
  refine J_iconst (v := 0 ) (q := 27) C dL_law_26 rfl rfl ?_
  refine J_iconst (v := 5 ) (q := 28) C dL_law_27 rfl rfl ?_
  refine J_aload_n (q := 29) C dL_law_28 rfl rfl 2 rfl ?_
  refine J_aload_n (q := 30) C dL_law_29 rfl rfl 3 rfl ?_
  obtain ⟨r1, σ1, ec1, h⟩ := bnd2_of h
  refine JS_callIS (q := 33) (As := [.ref (ad 0), .ref b, .int (0 : Int32), .int (5 : Int32), .ref (ad (41 + 33)), .ref (ad (42 + 33))]) C hX hbl hbA (c_L_built hap hbA isLA_41 isLA_42 ec1) ok_L_built kM_L_96 rfl rfl rfl ⟨Nat.le_of_ble_eq_true rfl, Nat.le_of_ble_eq_true rfl⟩ (Nat.le_of_ble_eq_true rfl) dL_law_30 rfl ?_
  refine J_ifne_b (tgt := 38) (q := 36) C dL_law_33 rfl (by decide) h (fun _ h => ?_) (fun _ h => ?_)
  · refine J_iconst (v := 0 ) (q := 39) C dL_law_38 rfl rfl ?_
    refine J_istore (q := 41) C dL_law_39 rfl (by decide) rfl ?_
    refine J_sub [1, 2, 3, 4, 5, 0] rfl ?_
    refine cl_L_law_41 hap C hQ hX hbl hbA  (fun σv533 h => ?_) FU _ _ h
    · exact cs_L_law_533 hap C hQ hX hbl hbA h
  · refine J_iconst (v := 0 ) (q := 37) C dL_law_36 rfl rfl ?_
    cases h
