section
-- ===== PART A: goes FIRST, ahead of the names: the tables' words, and 'selects' of the private methods out of them =====
/-- a private method of a class that the tables say can be made, by its rows of tables_1 -/
def lw_okq (q : MethodName × Nat) : Prop := (q.1.cls ≠ "java/lang/invoke/MethodHandle" ∧ q.1.cls ≠ "java/lang/invoke/VarHandle") ∧ Cond.instantiable q.1.cls q.2 ∈ tables_1 ∧ Cond.privateMethod q.1 ∈ tables_1 ∧ Cond.instanceMethod q.1 ∈ tables_1
theorem lw_p0 : lw_okq (⟨"WokenYears", "found", "(I)I"⟩, 12) := ⟨⟨by decide +kernel, by decide +kernel⟩, List.mem_of_getElem? (i := 12) (by decide +kernel), List.mem_of_getElem? (i := 209) (by decide +kernel), List.mem_of_getElem? (i := 210) (by decide +kernel)⟩
theorem lw_p1 : lw_okq (⟨"WokenYears", "refusedAt", "(LWokenYears$Ints;I)I"⟩, 12) := ⟨⟨by decide +kernel, by decide +kernel⟩, List.mem_of_getElem? (i := 12) (by decide +kernel), List.mem_of_getElem? (i := 225) (by decide +kernel), List.mem_of_getElem? (i := 226) (by decide +kernel)⟩
theorem lw_p2 : lw_okq (⟨"WokenYears", "refused", "(LWokenYears$Ints;)I"⟩, 12) := ⟨⟨by decide +kernel, by decide +kernel⟩, List.mem_of_getElem? (i := 12) (by decide +kernel), List.mem_of_getElem? (i := 229) (by decide +kernel), List.mem_of_getElem? (i := 230) (by decide +kernel)⟩
theorem lw_p3 : lw_okq (⟨"WokenYears$Reader", "skipBlanks", "()V"⟩, 3) := ⟨⟨by decide +kernel, by decide +kernel⟩, List.mem_of_getElem? (i := 45) (by decide +kernel), List.mem_of_getElem? (i := 285) (by decide +kernel), List.mem_of_getElem? (i := 286) (by decide +kernel)⟩
theorem lw_p4 : lw_okq (⟨"WokenYears$Reader", "sign", "()I"⟩, 3) := ⟨⟨by decide +kernel, by decide +kernel⟩, List.mem_of_getElem? (i := 45) (by decide +kernel), List.mem_of_getElem? (i := 289) (by decide +kernel), List.mem_of_getElem? (i := 290) (by decide +kernel)⟩
theorem lw_p5 : lw_okq (⟨"WokenYears$Reader", "letter", "(I)V"⟩, 3) := ⟨⟨by decide +kernel, by decide +kernel⟩, List.mem_of_getElem? (i := 45) (by decide +kernel), List.mem_of_getElem? (i := 294) (by decide +kernel), List.mem_of_getElem? (i := 295) (by decide +kernel)⟩
theorem lw_p6 : lw_okq (⟨"WokenYears$Reader", "figure", "(I)I"⟩, 3) := ⟨⟨by decide +kernel, by decide +kernel⟩, List.mem_of_getElem? (i := 45) (by decide +kernel), List.mem_of_getElem? (i := 298) (by decide +kernel), List.mem_of_getElem? (i := 299) (by decide +kernel)⟩
theorem lw_p7 : lw_okq (⟨"WokenYears$Reader", "twoFigures", "()I"⟩, 3) := ⟨⟨by decide +kernel, by decide +kernel⟩, List.mem_of_getElem? (i := 45) (by decide +kernel), List.mem_of_getElem? (i := 302) (by decide +kernel), List.mem_of_getElem? (i := 303) (by decide +kernel)⟩
theorem lw_p8 : lw_okq (⟨"WokenYears$Reader", "readHouse", "(LWokenYears$Street;)V"⟩, 3) := ⟨⟨by decide +kernel, by decide +kernel⟩, List.mem_of_getElem? (i := 45) (by decide +kernel), List.mem_of_getElem? (i := 310) (by decide +kernel), List.mem_of_getElem? (i := 311) (by decide +kernel)⟩
theorem lw_p9 : lw_okq (⟨"WokenYears$Street", "sleep", "()V"⟩, 15) := ⟨⟨by decide +kernel, by decide +kernel⟩, List.mem_of_getElem? (i := 89) (by decide +kernel), List.mem_of_getElem? (i := 339) (by decide +kernel), List.mem_of_getElem? (i := 340) (by decide +kernel)⟩
theorem lw_p10 : lw_okq (⟨"WokenYears$Street", "perform", "(I)V"⟩, 15) := ⟨⟨by decide +kernel, by decide +kernel⟩, List.mem_of_getElem? (i := 89) (by decide +kernel), List.mem_of_getElem? (i := 344) (by decide +kernel), List.mem_of_getElem? (i := 345) (by decide +kernel)⟩
theorem lw_p11 : lw_okq (⟨"WokenYears$Street", "hear", "(I)V"⟩, 15) := ⟨⟨by decide +kernel, by decide +kernel⟩, List.mem_of_getElem? (i := 89) (by decide +kernel), List.mem_of_getElem? (i := 351) (by decide +kernel), List.mem_of_getElem? (i := 352) (by decide +kernel)⟩
theorem lw_p12 : lw_okq (⟨"WokenYears", "isFull", "(I)Z"⟩, 12) := ⟨⟨by decide +kernel, by decide +kernel⟩, List.mem_of_getElem? (i := 12) (by decide +kernel), List.mem_of_getElem? (i := 429) (by decide +kernel), List.mem_of_getElem? (i := 430) (by decide +kernel)⟩
theorem lw_p13 : lw_okq (⟨"WokenYears$Rounds", "start", "(LWokenYears$Street;)V"⟩, 6) := ⟨⟨by decide +kernel, by decide +kernel⟩, List.mem_of_getElem? (i := 61) (by decide +kernel), List.mem_of_getElem? (i := 529) (by decide +kernel), List.mem_of_getElem? (i := 530) (by decide +kernel)⟩
theorem lw_p14 : lw_okq (⟨"WokenYears$Rounds", "endAt", "(III)I"⟩, 6) := ⟨⟨by decide +kernel, by decide +kernel⟩, List.mem_of_getElem? (i := 61) (by decide +kernel), List.mem_of_getElem? (i := 552) (by decide +kernel), List.mem_of_getElem? (i := 553) (by decide +kernel)⟩
theorem lw_p15 : lw_okq (⟨"WokenYears", "refusedPairs", "(LWokenYears$Ints;)I"⟩, 12) := ⟨⟨by decide +kernel, by decide +kernel⟩, List.mem_of_getElem? (i := 12) (by decide +kernel), List.mem_of_getElem? (i := 568) (by decide +kernel), List.mem_of_getElem? (i := 569) (by decide +kernel)⟩
def lw_privs_1 : List (MethodName × Nat) := [(⟨"WokenYears", "found", "(I)I"⟩, 12), (⟨"WokenYears", "refusedAt", "(LWokenYears$Ints;I)I"⟩, 12), (⟨"WokenYears", "refused", "(LWokenYears$Ints;)I"⟩, 12), (⟨"WokenYears$Reader", "skipBlanks", "()V"⟩, 3), (⟨"WokenYears$Reader", "sign", "()I"⟩, 3), (⟨"WokenYears$Reader", "letter", "(I)V"⟩, 3), (⟨"WokenYears$Reader", "figure", "(I)I"⟩, 3), (⟨"WokenYears$Reader", "twoFigures", "()I"⟩, 3), (⟨"WokenYears$Reader", "readHouse", "(LWokenYears$Street;)V"⟩, 3), (⟨"WokenYears$Street", "sleep", "()V"⟩, 15), (⟨"WokenYears$Street", "perform", "(I)V"⟩, 15), (⟨"WokenYears$Street", "hear", "(I)V"⟩, 15), (⟨"WokenYears", "isFull", "(I)Z"⟩, 12), (⟨"WokenYears$Rounds", "start", "(LWokenYears$Street;)V"⟩, 6), (⟨"WokenYears$Rounds", "endAt", "(III)I"⟩, 6), (⟨"WokenYears", "refusedPairs", "(LWokenYears$Ints;)I"⟩, 12)]
theorem lw_r1 : ∀ q ∈ lw_privs_1, lw_okq q := List.forall_mem_cons.mpr ⟨lw_p0, List.forall_mem_cons.mpr ⟨lw_p1, List.forall_mem_cons.mpr ⟨lw_p2, List.forall_mem_cons.mpr ⟨lw_p3, List.forall_mem_cons.mpr ⟨lw_p4, List.forall_mem_cons.mpr ⟨lw_p5, List.forall_mem_cons.mpr ⟨lw_p6, List.forall_mem_cons.mpr ⟨lw_p7, List.forall_mem_cons.mpr ⟨lw_p8, List.forall_mem_cons.mpr ⟨lw_p9, List.forall_mem_cons.mpr ⟨lw_p10, List.forall_mem_cons.mpr ⟨lw_p11, List.forall_mem_cons.mpr ⟨lw_p12, List.forall_mem_cons.mpr ⟨lw_p13, List.forall_mem_cons.mpr ⟨lw_p14, List.forall_mem_cons.mpr ⟨lw_p15, fun _ h => absurd h List.not_mem_nil⟩⟩⟩⟩⟩⟩⟩⟩⟩⟩⟩⟩⟩⟩⟩⟩
theorem lw_p16 : lw_okq (⟨"WokenYears", "canBe", "(ILWokenYears$Ints;)Z"⟩, 12) := ⟨⟨by decide +kernel, by decide +kernel⟩, List.mem_of_getElem? (i := 12) (by decide +kernel), List.mem_of_getElem? (i := 572) (by decide +kernel), List.mem_of_getElem? (i := 573) (by decide +kernel)⟩
theorem lw_p17 : lw_okq (⟨"WokenYears", "kindsBy", "(LWokenYears$Ints;)I"⟩, 12) := ⟨⟨by decide +kernel, by decide +kernel⟩, List.mem_of_getElem? (i := 12) (by decide +kernel), List.mem_of_getElem? (i := 583) (by decide +kernel), List.mem_of_getElem? (i := 584) (by decide +kernel)⟩
theorem lw_p18 : lw_okq (⟨"WokenYears", "greatestPart", "(II)I"⟩, 12) := ⟨⟨by decide +kernel, by decide +kernel⟩, List.mem_of_getElem? (i := 12) (by decide +kernel), List.mem_of_getElem? (i := 591) (by decide +kernel), List.mem_of_getElem? (i := 592) (by decide +kernel)⟩
theorem lw_p19 : lw_okq (⟨"WokenYears", "partOf", "(III)I"⟩, 12) := ⟨⟨by decide +kernel, by decide +kernel⟩, List.mem_of_getElem? (i := 12) (by decide +kernel), List.mem_of_getElem? (i := 596) (by decide +kernel), List.mem_of_getElem? (i := 597) (by decide +kernel)⟩
theorem lw_p20 : lw_okq (⟨"WokenYears", "tellRatio", "(JJ)V"⟩, 12) := ⟨⟨by decide +kernel, by decide +kernel⟩, List.mem_of_getElem? (i := 12) (by decide +kernel), List.mem_of_getElem? (i := 608) (by decide +kernel), List.mem_of_getElem? (i := 609) (by decide +kernel)⟩
theorem lw_p21 : lw_okq (⟨"WokenYears", "isTry", "(III)Z"⟩, 12) := ⟨⟨by decide +kernel, by decide +kernel⟩, List.mem_of_getElem? (i := 12) (by decide +kernel), List.mem_of_getElem? (i := 631) (by decide +kernel), List.mem_of_getElem? (i := 632) (by decide +kernel)⟩
theorem lw_p22 : lw_okq (⟨"WokenYearsModel", "finds", "(I)I"⟩, 28) := ⟨⟨by decide +kernel, by decide +kernel⟩, List.mem_of_getElem? (i := 703) (by decide +kernel), List.mem_of_getElem? (i := 801) (by decide +kernel), List.mem_of_getElem? (i := 802) (by decide +kernel)⟩
theorem lw_p23 : lw_okq (⟨"WokenYearsModel", "wrongAt", "(II)I"⟩, 28) := ⟨⟨by decide +kernel, by decide +kernel⟩, List.mem_of_getElem? (i := 703) (by decide +kernel), List.mem_of_getElem? (i := 809) (by decide +kernel), List.mem_of_getElem? (i := 810) (by decide +kernel)⟩
theorem lw_p24 : lw_okq (⟨"WokenYearsModel", "tells", "(I)I"⟩, 28) := ⟨⟨by decide +kernel, by decide +kernel⟩, List.mem_of_getElem? (i := 703) (by decide +kernel), List.mem_of_getElem? (i := 813) (by decide +kernel), List.mem_of_getElem? (i := 814) (by decide +kernel)⟩
theorem lw_p25 : lw_okq (⟨"WokenYearsModel", "read", "(I)I"⟩, 28) := ⟨⟨by decide +kernel, by decide +kernel⟩, List.mem_of_getElem? (i := 703) (by decide +kernel), List.mem_of_getElem? (i := 848) (by decide +kernel), List.mem_of_getElem? (i := 849) (by decide +kernel)⟩
theorem lw_p26 : lw_okq (⟨"WokenYearsModel", "skip", "()V"⟩, 28) := ⟨⟨by decide +kernel, by decide +kernel⟩, List.mem_of_getElem? (i := 703) (by decide +kernel), List.mem_of_getElem? (i := 852) (by decide +kernel), List.mem_of_getElem? (i := 853) (by decide +kernel)⟩
theorem lw_p27 : lw_okq (⟨"WokenYearsModel", "letterAt", "(I)I"⟩, 28) := ⟨⟨by decide +kernel, by decide +kernel⟩, List.mem_of_getElem? (i := 703) (by decide +kernel), List.mem_of_getElem? (i := 856) (by decide +kernel), List.mem_of_getElem? (i := 857) (by decide +kernel)⟩
theorem lw_p28 : lw_okq (⟨"WokenYearsModel", "isStreet", "()Z"⟩, 28) := ⟨⟨by decide +kernel, by decide +kernel⟩, List.mem_of_getElem? (i := 703) (by decide +kernel), List.mem_of_getElem? (i := 860) (by decide +kernel), List.mem_of_getElem? (i := 861) (by decide +kernel)⟩
theorem lw_p29 : lw_okq (⟨"WokenYearsModel", "figure", "(II)I"⟩, 28) := ⟨⟨by decide +kernel, by decide +kernel⟩, List.mem_of_getElem? (i := 703) (by decide +kernel), List.mem_of_getElem? (i := 864) (by decide +kernel), List.mem_of_getElem? (i := 865) (by decide +kernel)⟩
theorem lw_p30 : lw_okq (⟨"WokenYearsModel", "twoFigures", "()I"⟩, 28) := ⟨⟨by decide +kernel, by decide +kernel⟩, List.mem_of_getElem? (i := 703) (by decide +kernel), List.mem_of_getElem? (i := 868) (by decide +kernel), List.mem_of_getElem? (i := 869) (by decide +kernel)⟩
theorem lw_p31 : lw_okq (⟨"WokenYearsModel", "isHouseItem", "()Z"⟩, 28) := ⟨⟨by decide +kernel, by decide +kernel⟩, List.mem_of_getElem? (i := 703) (by decide +kernel), List.mem_of_getElem? (i := 872) (by decide +kernel), List.mem_of_getElem? (i := 873) (by decide +kernel)⟩
def lw_privs_2 : List (MethodName × Nat) := [(⟨"WokenYears", "canBe", "(ILWokenYears$Ints;)Z"⟩, 12), (⟨"WokenYears", "kindsBy", "(LWokenYears$Ints;)I"⟩, 12), (⟨"WokenYears", "greatestPart", "(II)I"⟩, 12), (⟨"WokenYears", "partOf", "(III)I"⟩, 12), (⟨"WokenYears", "tellRatio", "(JJ)V"⟩, 12), (⟨"WokenYears", "isTry", "(III)Z"⟩, 12), (⟨"WokenYearsModel", "finds", "(I)I"⟩, 28), (⟨"WokenYearsModel", "wrongAt", "(II)I"⟩, 28), (⟨"WokenYearsModel", "tells", "(I)I"⟩, 28), (⟨"WokenYearsModel", "read", "(I)I"⟩, 28), (⟨"WokenYearsModel", "skip", "()V"⟩, 28), (⟨"WokenYearsModel", "letterAt", "(I)I"⟩, 28), (⟨"WokenYearsModel", "isStreet", "()Z"⟩, 28), (⟨"WokenYearsModel", "figure", "(II)I"⟩, 28), (⟨"WokenYearsModel", "twoFigures", "()I"⟩, 28), (⟨"WokenYearsModel", "isHouseItem", "()Z"⟩, 28)]
theorem lw_r2 : ∀ q ∈ lw_privs_2, lw_okq q := List.forall_mem_cons.mpr ⟨lw_p16, List.forall_mem_cons.mpr ⟨lw_p17, List.forall_mem_cons.mpr ⟨lw_p18, List.forall_mem_cons.mpr ⟨lw_p19, List.forall_mem_cons.mpr ⟨lw_p20, List.forall_mem_cons.mpr ⟨lw_p21, List.forall_mem_cons.mpr ⟨lw_p22, List.forall_mem_cons.mpr ⟨lw_p23, List.forall_mem_cons.mpr ⟨lw_p24, List.forall_mem_cons.mpr ⟨lw_p25, List.forall_mem_cons.mpr ⟨lw_p26, List.forall_mem_cons.mpr ⟨lw_p27, List.forall_mem_cons.mpr ⟨lw_p28, List.forall_mem_cons.mpr ⟨lw_p29, List.forall_mem_cons.mpr ⟨lw_p30, List.forall_mem_cons.mpr ⟨lw_p31, fun _ h => absurd h List.not_mem_nil⟩⟩⟩⟩⟩⟩⟩⟩⟩⟩⟩⟩⟩⟩⟩⟩
theorem lw_p32 : lw_okq (⟨"WokenYearsModel", "isOne", "(I)Z"⟩, 28) := ⟨⟨by decide +kernel, by decide +kernel⟩, List.mem_of_getElem? (i := 703) (by decide +kernel), List.mem_of_getElem? (i := 887) (by decide +kernel), List.mem_of_getElem? (i := 888) (by decide +kernel)⟩
theorem lw_p33 : lw_okq (⟨"WokenYearsModel", "houseTells", "(II)I"⟩, 28) := ⟨⟨by decide +kernel, by decide +kernel⟩, List.mem_of_getElem? (i := 703) (by decide +kernel), List.mem_of_getElem? (i := 891) (by decide +kernel), List.mem_of_getElem? (i := 892) (by decide +kernel)⟩
theorem lw_p34 : lw_okq (⟨"WokenYearsModel", "moreOf", "(I)I"⟩, 28) := ⟨⟨by decide +kernel, by decide +kernel⟩, List.mem_of_getElem? (i := 703) (by decide +kernel), List.mem_of_getElem? (i := 895) (by decide +kernel), List.mem_of_getElem? (i := 896) (by decide +kernel)⟩
theorem lw_p35 : lw_okq (⟨"WokenYearsModel", "isAwake", "(I)Z"⟩, 28) := ⟨⟨by decide +kernel, by decide +kernel⟩, List.mem_of_getElem? (i := 703) (by decide +kernel), List.mem_of_getElem? (i := 899) (by decide +kernel), List.mem_of_getElem? (i := 900) (by decide +kernel)⟩
theorem lw_p36 : lw_okq (⟨"WokenYearsModel", "takesOf", "(I)I"⟩, 28) := ⟨⟨by decide +kernel, by decide +kernel⟩, List.mem_of_getElem? (i := 703) (by decide +kernel), List.mem_of_getElem? (i := 903) (by decide +kernel), List.mem_of_getElem? (i := 904) (by decide +kernel)⟩
theorem lw_p37 : lw_okq (⟨"WokenYearsModel", "takesBy", "(II)I"⟩, 28) := ⟨⟨by decide +kernel, by decide +kernel⟩, List.mem_of_getElem? (i := 703) (by decide +kernel), List.mem_of_getElem? (i := 907) (by decide +kernel), List.mem_of_getElem? (i := 908) (by decide +kernel)⟩
theorem lw_p38 : lw_okq (⟨"WokenYearsModel", "awakeOnes", "()I"⟩, 28) := ⟨⟨by decide +kernel, by decide +kernel⟩, List.mem_of_getElem? (i := 703) (by decide +kernel), List.mem_of_getElem? (i := 921) (by decide +kernel), List.mem_of_getElem? (i := 922) (by decide +kernel)⟩
theorem lw_p39 : lw_okq (⟨"WokenYearsModel", "earlier", "(I)I"⟩, 28) := ⟨⟨by decide +kernel, by decide +kernel⟩, List.mem_of_getElem? (i := 703) (by decide +kernel), List.mem_of_getElem? (i := 928) (by decide +kernel), List.mem_of_getElem? (i := 929) (by decide +kernel)⟩
theorem lw_p40 : lw_okq (⟨"WokenYearsModel", "note", "()V"⟩, 28) := ⟨⟨by decide +kernel, by decide +kernel⟩, List.mem_of_getElem? (i := 703) (by decide +kernel), List.mem_of_getElem? (i := 936) (by decide +kernel), List.mem_of_getElem? (i := 937) (by decide +kernel)⟩
theorem lw_p41 : lw_okq (⟨"WokenYearsModel", "goes", "(I)V"⟩, 28) := ⟨⟨by decide +kernel, by decide +kernel⟩, List.mem_of_getElem? (i := 703) (by decide +kernel), List.mem_of_getElem? (i := 943) (by decide +kernel), List.mem_of_getElem? (i := 944) (by decide +kernel)⟩
theorem lw_p42 : lw_okq (⟨"WokenYearsModel", "taps", "()V"⟩, 28) := ⟨⟨by decide +kernel, by decide +kernel⟩, List.mem_of_getElem? (i := 703) (by decide +kernel), List.mem_of_getElem? (i := 954) (by decide +kernel), List.mem_of_getElem? (i := 955) (by decide +kernel)⟩
theorem lw_p43 : lw_okq (⟨"WokenYearsModel", "changes", "(II)V"⟩, 28) := ⟨⟨by decide +kernel, by decide +kernel⟩, List.mem_of_getElem? (i := 703) (by decide +kernel), List.mem_of_getElem? (i := 962) (by decide +kernel), List.mem_of_getElem? (i := 963) (by decide +kernel)⟩
theorem lw_p44 : lw_okq (⟨"WokenYearsModel", "isSet", "(I)Z"⟩, 28) := ⟨⟨by decide +kernel, by decide +kernel⟩, List.mem_of_getElem? (i := 703) (by decide +kernel), List.mem_of_getElem? (i := 1006) (by decide +kernel), List.mem_of_getElem? (i := 1007) (by decide +kernel)⟩
theorem lw_p45 : lw_okq (⟨"WokenYearsModel", "wakable", "()I"⟩, 28) := ⟨⟨by decide +kernel, by decide +kernel⟩, List.mem_of_getElem? (i := 703) (by decide +kernel), List.mem_of_getElem? (i := 1010) (by decide +kernel), List.mem_of_getElem? (i := 1011) (by decide +kernel)⟩
theorem lw_p46 : lw_okq (⟨"WokenYearsModel", "bestOf", "(I)I"⟩, 28) := ⟨⟨by decide +kernel, by decide +kernel⟩, List.mem_of_getElem? (i := 703) (by decide +kernel), List.mem_of_getElem? (i := 1021) (by decide +kernel), List.mem_of_getElem? (i := 1022) (by decide +kernel)⟩
theorem lw_p47 : lw_okq (⟨"WokenYearsModel", "layRow", "(III)Z"⟩, 28) := ⟨⟨by decide +kernel, by decide +kernel⟩, List.mem_of_getElem? (i := 703) (by decide +kernel), List.mem_of_getElem? (i := 1028) (by decide +kernel), List.mem_of_getElem? (i := 1029) (by decide +kernel)⟩
def lw_privs_3 : List (MethodName × Nat) := [(⟨"WokenYearsModel", "isOne", "(I)Z"⟩, 28), (⟨"WokenYearsModel", "houseTells", "(II)I"⟩, 28), (⟨"WokenYearsModel", "moreOf", "(I)I"⟩, 28), (⟨"WokenYearsModel", "isAwake", "(I)Z"⟩, 28), (⟨"WokenYearsModel", "takesOf", "(I)I"⟩, 28), (⟨"WokenYearsModel", "takesBy", "(II)I"⟩, 28), (⟨"WokenYearsModel", "awakeOnes", "()I"⟩, 28), (⟨"WokenYearsModel", "earlier", "(I)I"⟩, 28), (⟨"WokenYearsModel", "note", "()V"⟩, 28), (⟨"WokenYearsModel", "goes", "(I)V"⟩, 28), (⟨"WokenYearsModel", "taps", "()V"⟩, 28), (⟨"WokenYearsModel", "changes", "(II)V"⟩, 28), (⟨"WokenYearsModel", "isSet", "(I)Z"⟩, 28), (⟨"WokenYearsModel", "wakable", "()I"⟩, 28), (⟨"WokenYearsModel", "bestOf", "(I)I"⟩, 28), (⟨"WokenYearsModel", "layRow", "(III)Z"⟩, 28)]
theorem lw_r3 : ∀ q ∈ lw_privs_3, lw_okq q := List.forall_mem_cons.mpr ⟨lw_p32, List.forall_mem_cons.mpr ⟨lw_p33, List.forall_mem_cons.mpr ⟨lw_p34, List.forall_mem_cons.mpr ⟨lw_p35, List.forall_mem_cons.mpr ⟨lw_p36, List.forall_mem_cons.mpr ⟨lw_p37, List.forall_mem_cons.mpr ⟨lw_p38, List.forall_mem_cons.mpr ⟨lw_p39, List.forall_mem_cons.mpr ⟨lw_p40, List.forall_mem_cons.mpr ⟨lw_p41, List.forall_mem_cons.mpr ⟨lw_p42, List.forall_mem_cons.mpr ⟨lw_p43, List.forall_mem_cons.mpr ⟨lw_p44, List.forall_mem_cons.mpr ⟨lw_p45, List.forall_mem_cons.mpr ⟨lw_p46, List.forall_mem_cons.mpr ⟨lw_p47, fun _ h => absurd h List.not_mem_nil⟩⟩⟩⟩⟩⟩⟩⟩⟩⟩⟩⟩⟩⟩⟩⟩
theorem lw_p48 : lw_okq (⟨"WokenYearsModel", "minutesOf", "(I)I"⟩, 28) := ⟨⟨by decide +kernel, by decide +kernel⟩, List.mem_of_getElem? (i := 703) (by decide +kernel), List.mem_of_getElem? (i := 1032) (by decide +kernel), List.mem_of_getElem? (i := 1033) (by decide +kernel)⟩
theorem lw_p49 : lw_okq (⟨"WokenYearsModel", "anew", "(II)V"⟩, 28) := ⟨⟨by decide +kernel, by decide +kernel⟩, List.mem_of_getElem? (i := 703) (by decide +kernel), List.mem_of_getElem? (i := 1036) (by decide +kernel), List.mem_of_getElem? (i := 1037) (by decide +kernel)⟩
theorem lw_p50 : lw_okq (⟨"WokenYearsModel", "wrongPairs", "(I)I"⟩, 28) := ⟨⟨by decide +kernel, by decide +kernel⟩, List.mem_of_getElem? (i := 703) (by decide +kernel), List.mem_of_getElem? (i := 1053) (by decide +kernel), List.mem_of_getElem? (i := 1054) (by decide +kernel)⟩
theorem lw_p51 : lw_okq (⟨"WokenYearsModel", "tookSo", "(II)Z"⟩, 28) := ⟨⟨by decide +kernel, by decide +kernel⟩, List.mem_of_getElem? (i := 703) (by decide +kernel), List.mem_of_getElem? (i := 1057) (by decide +kernel), List.mem_of_getElem? (i := 1058) (by decide +kernel)⟩
theorem lw_p52 : lw_okq (⟨"WokenYearsModel", "tookBy", "(II)I"⟩, 28) := ⟨⟨by decide +kernel, by decide +kernel⟩, List.mem_of_getElem? (i := 703) (by decide +kernel), List.mem_of_getElem? (i := 1061) (by decide +kernel), List.mem_of_getElem? (i := 1062) (by decide +kernel)⟩
theorem lw_p53 : lw_okq (⟨"WokenYearsModel", "kindsBy", "(I)I"⟩, 28) := ⟨⟨by decide +kernel, by decide +kernel⟩, List.mem_of_getElem? (i := 703) (by decide +kernel), List.mem_of_getElem? (i := 1069) (by decide +kernel), List.mem_of_getElem? (i := 1070) (by decide +kernel)⟩
theorem lw_p54 : lw_okq (⟨"WokenYearsModel", "pay", "(II)Z"⟩, 28) := ⟨⟨by decide +kernel, by decide +kernel⟩, List.mem_of_getElem? (i := 703) (by decide +kernel), List.mem_of_getElem? (i := 1081) (by decide +kernel), List.mem_of_getElem? (i := 1082) (by decide +kernel)⟩
theorem lw_p55 : lw_okq (⟨"WokenYearsModel", "ownBy", "(II)I"⟩, 28) := ⟨⟨by decide +kernel, by decide +kernel⟩, List.mem_of_getElem? (i := 703) (by decide +kernel), List.mem_of_getElem? (i := 1093) (by decide +kernel), List.mem_of_getElem? (i := 1094) (by decide +kernel)⟩
theorem lw_p56 : lw_okq (⟨"WokenYearsModel", "tellsPart", "(JJ)V"⟩, 28) := ⟨⟨by decide +kernel, by decide +kernel⟩, List.mem_of_getElem? (i := 703) (by decide +kernel), List.mem_of_getElem? (i := 1108) (by decide +kernel), List.mem_of_getElem? (i := 1109) (by decide +kernel)⟩
theorem lw_p57 : lw_okq (⟨"WokenYearsModel", "kindMany", "(I)I"⟩, 28) := ⟨⟨by decide +kernel, by decide +kernel⟩, List.mem_of_getElem? (i := 703) (by decide +kernel), List.mem_of_getElem? (i := 1142) (by decide +kernel), List.mem_of_getElem? (i := 1143) (by decide +kernel)⟩
def lw_privs_4 : List (MethodName × Nat) := [(⟨"WokenYearsModel", "minutesOf", "(I)I"⟩, 28), (⟨"WokenYearsModel", "anew", "(II)V"⟩, 28), (⟨"WokenYearsModel", "wrongPairs", "(I)I"⟩, 28), (⟨"WokenYearsModel", "tookSo", "(II)Z"⟩, 28), (⟨"WokenYearsModel", "tookBy", "(II)I"⟩, 28), (⟨"WokenYearsModel", "kindsBy", "(I)I"⟩, 28), (⟨"WokenYearsModel", "pay", "(II)Z"⟩, 28), (⟨"WokenYearsModel", "ownBy", "(II)I"⟩, 28), (⟨"WokenYearsModel", "tellsPart", "(JJ)V"⟩, 28), (⟨"WokenYearsModel", "kindMany", "(I)I"⟩, 28)]
theorem lw_r4 : ∀ q ∈ lw_privs_4, lw_okq q := List.forall_mem_cons.mpr ⟨lw_p48, List.forall_mem_cons.mpr ⟨lw_p49, List.forall_mem_cons.mpr ⟨lw_p50, List.forall_mem_cons.mpr ⟨lw_p51, List.forall_mem_cons.mpr ⟨lw_p52, List.forall_mem_cons.mpr ⟨lw_p53, List.forall_mem_cons.mpr ⟨lw_p54, List.forall_mem_cons.mpr ⟨lw_p55, List.forall_mem_cons.mpr ⟨lw_p56, List.forall_mem_cons.mpr ⟨lw_p57, fun _ h => absurd h List.not_mem_nil⟩⟩⟩⟩⟩⟩⟩⟩⟩⟩
def lw_privs : List (MethodName × Nat) := lw_privs_1 ++ (lw_privs_2 ++ (lw_privs_3 ++ (lw_privs_4)))
def lw_tbl : List Cond := k2_sels lw_privs ++ tables_1
theorem lw_privs_ok : ∀ q ∈ lw_privs, lw_okq q := by
  show ∀ q ∈ lw_privs_1 ++ (lw_privs_2 ++ (lw_privs_3 ++ (lw_privs_4))), lw_okq q
  exact List.forall_mem_append.mpr ⟨lw_r1, List.forall_mem_append.mpr ⟨lw_r2, List.forall_mem_append.mpr ⟨lw_r3, lw_r4⟩⟩⟩
-- ===== end of PART A; then your names; then what follows =====
end
section
/-! ===== BEGIN printed: names, fields, word lists, decode rows ===== -/
def RX0 : String := "WokenYears$Ints"
def TX0 : u_T := fun k => match k with
  | 0 => ("WokenYears$Ints", "cells", "[I", true)
  | _ => ("WokenYears$Ints", "size", "I", false)
def tyX0 : Nat → FieldType := fun k => match k with
  | 0 => .array .int
  | _ => .int
abbrev wsX00 : List Cond := u_ws RX0 TX0 2
theorem nmX0 : ∀ a, a < 2 → ∀ b, b < 2 → a ≠ b → (TX0 a).2.1 ≠ (TX0 b).2.1 := by decide +kernel
theorem tyX0_ok : ∀ k, k < 2 → parseFieldDescriptor (TX0 k).2.2.1 = some (tyX0 k) := by decide +kernel
abbrev cX0_init : ByteArray := prog_2_method_1_code
def yX0_init : MethodName := ⟨RX0, "<init>", "(I)V"⟩
abbrev cX0_has : ByteArray := prog_2_method_2_code
def yX0_has : MethodName := ⟨RX0, "has", "(I)Z"⟩
abbrev cX0_get : ByteArray := prog_2_method_3_code
def yX0_get : MethodName := ⟨RX0, "get", "(I)I"⟩
abbrev cX0_set : ByteArray := prog_2_method_4_code
def yX0_set : MethodName := ⟨RX0, "set", "(II)V"⟩
abbrev cX0_fill : ByteArray := prog_2_method_5_code
def yX0_fill : MethodName := ⟨RX0, "fill", "(II)V"⟩
abbrev cX0_add : ByteArray := prog_2_method_6_code
def yX0_add : MethodName := ⟨RX0, "add", "(I)V"⟩
abbrev cX0_cut : ByteArray := prog_2_method_7_code
def yX0_cut : MethodName := ⟨RX0, "cut", "(I)V"⟩
abbrev cX0_drop : ByteArray := prog_2_method_8_code
def yX0_drop : MethodName := ⟨RX0, "drop", "()V"⟩
abbrev cX0_spans : ByteArray := prog_2_method_9_code
def yX0_spans : MethodName := ⟨RX0, "spans", "(II)Z"⟩
abbrev cX0_copyOut : ByteArray := prog_2_method_10_code
def yX0_copyOut : MethodName := ⟨RX0, "copyOut", "(ILWokenYears$Ints;II)V"⟩
abbrev cX0_takeFrom : ByteArray := prog_2_method_11_code
def yX0_takeFrom : MethodName := ⟨RX0, "takeFrom", "(LWokenYears$Ints;)V"⟩
def RX1 : String := "WokenYears$Kinds"
def TX1 : u_T := fun k => match k with
  | _ => ("", "", "", false)
def tyX1 : Nat → FieldType := fun k => match k with
  | _ => .int
abbrev wsX10 : List Cond := u_ws RX1 TX1 0
theorem nmX1 : ∀ a, a < 0 → ∀ b, b < 0 → a ≠ b → (TX1 a).2.1 ≠ (TX1 b).2.1 := by decide +kernel
theorem tyX1_ok : ∀ k, k < 0 → parseFieldDescriptor (TX1 k).2.2.1 = some (tyX1 k) := by decide +kernel
abbrev cX1_byLetter : ByteArray := prog_3_method_2_code
def yX1_byLetter : MethodName := ⟨RX1, "byLetter", "(I)I"⟩
abbrev cX1_isOf : ByteArray := prog_3_method_3_code
def yX1_isOf : MethodName := ⟨RX1, "isOf", "(II)Z"⟩
abbrev cX1_taps : ByteArray := prog_3_method_4_code
def yX1_taps : MethodName := ⟨RX1, "taps", "(III)I"⟩
abbrev cX1_fee : ByteArray := prog_3_method_5_code
def yX1_fee : MethodName := ⟨RX1, "fee", "(I)I"⟩
def RX2 : String := "WokenYears$Reader"
def TX2 : u_T := fun k => match k with
  | 0 => ("WokenYears$Reader", "text", "LWokenYears$Ints;", false)
  | 1 => ("WokenYears$Reader", "place", "I", false)
  | _ => ("WokenYears$Reader", "good", "Z", false)
def tyX2 : Nat → FieldType := fun k => match k with
  | 0 => .object "WokenYears$Ints"
  | 1 => .int
  | _ => .boolean
abbrev wsX20 : List Cond := u_ws RX2 TX2 3
theorem nmX2 : ∀ a, a < 3 → ∀ b, b < 3 → a ≠ b → (TX2 a).2.1 ≠ (TX2 b).2.1 := by decide +kernel
theorem tyX2_ok : ∀ k, k < 3 → parseFieldDescriptor (TX2 k).2.2.1 = some (tyX2 k) := by decide +kernel
abbrev cX2_init : ByteArray := prog_4_method_1_code
def yX2_init : MethodName := ⟨RX2, "<init>", "()V"⟩
abbrev cX2_read : ByteArray := prog_4_method_2_code
def yX2_read : MethodName := ⟨RX2, "read", "(LWokenYears$Ints;LWokenYears$Street;)I"⟩
abbrev cX2_readHouse : ByteArray := prog_4_method_3_code
def yX2_readHouse : MethodName := ⟨RX2, "readHouse", "(LWokenYears$Street;)V"⟩
abbrev cX2_sign : ByteArray := prog_4_method_4_code
def yX2_sign : MethodName := ⟨RX2, "sign", "()I"⟩
abbrev cX2_skipBlanks : ByteArray := prog_4_method_5_code
def yX2_skipBlanks : MethodName := ⟨RX2, "skipBlanks", "()V"⟩
abbrev cX2_letter : ByteArray := prog_4_method_6_code
def yX2_letter : MethodName := ⟨RX2, "letter", "(I)V"⟩
abbrev cX2_figure : ByteArray := prog_4_method_7_code
def yX2_figure : MethodName := ⟨RX2, "figure", "(I)I"⟩
abbrev cX2_twoFigures : ByteArray := prog_4_method_8_code
def yX2_twoFigures : MethodName := ⟨RX2, "twoFigures", "()I"⟩
def RX3 : String := "WokenYears$Rounds"
def TX3 : u_T := fun k => match k with
  | 0 => ("WokenYears$Rounds", "ends", "LWokenYears$Ints;", true)
  | 1 => ("WokenYears$Rounds", "order", "LWokenYears$Ints;", true)
  | 2 => ("WokenYears$Rounds", "more", "LWokenYears$Ints;", true)
  | 3 => ("WokenYears$Rounds", "spare", "LWokenYears$Ints;", true)
  | 4 => ("WokenYears$Rounds", "best", "LWokenYears$Ints;", true)
  | _ => ("WokenYears$Rounds", "bestWalked", "I", false)
def tyX3 : Nat → FieldType := fun k => match k with
  | 0 => .object "WokenYears$Ints"
  | 1 => .object "WokenYears$Ints"
  | 2 => .object "WokenYears$Ints"
  | 3 => .object "WokenYears$Ints"
  | 4 => .object "WokenYears$Ints"
  | _ => .int
abbrev wsX30 : List Cond := u_ws RX3 TX3 6
theorem nmX3 : ∀ a, a < 6 → ∀ b, b < 6 → a ≠ b → (TX3 a).2.1 ≠ (TX3 b).2.1 := by decide +kernel
theorem tyX3_ok : ∀ k, k < 6 → parseFieldDescriptor (TX3 k).2.2.1 = some (tyX3 k) := by decide +kernel
abbrev cX3_init : ByteArray := prog_5_method_1_code
def yX3_init : MethodName := ⟨RX3, "<init>", "()V"⟩
abbrev cX3_start : ByteArray := prog_5_method_2_code
def yX3_start : MethodName := ⟨RX3, "start", "(LWokenYears$Street;)V"⟩
abbrev cX3_walkOver : ByteArray := prog_5_method_3_code
def yX3_walkOver : MethodName := ⟨RX3, "walkOver", "(II)I"⟩
abbrev cX3_fewest : ByteArray := prog_5_method_4_code
def yX3_fewest : MethodName := ⟨RX3, "fewest", "(LWokenYears$Street;I)I"⟩
abbrev cX3_seek : ByteArray := prog_5_method_5_code
def yX3_seek : MethodName := ⟨RX3, "seek", "(LWokenYears$Rounds;IIIII)V"⟩
abbrev cX3_greatest : ByteArray := prog_5_method_6_code
def yX3_greatest : MethodName := ⟨RX3, "greatest", "(LWokenYears$Street;)I"⟩
abbrev cX3_endAt : ByteArray := prog_5_method_7_code
def yX3_endAt : MethodName := ⟨RX3, "endAt", "(III)I"⟩
def RX4 : String := "WokenYears$Street"
def TX4 : u_T := fun k => match k with
  | 0 => ("WokenYears$Street", "kinds", "LWokenYears$Ints;", true)
  | 1 => ("WokenYears$Street", "wants", "LWokenYears$Ints;", true)
  | 2 => ("WokenYears$Street", "firstDates", "LWokenYears$Ints;", true)
  | 3 => ("WokenYears$Street", "dates", "LWokenYears$Ints;", true)
  | 4 => ("WokenYears$Street", "tapped", "LWokenYears$Ints;", true)
  | 5 => ("WokenYears$Street", "years", "LWokenYears$Ints;", true)
  | 6 => ("WokenYears$Street", "deeds", "LWokenYears$Ints;", true)
  | 7 => ("WokenYears$Street", "size", "I", false)
  | 8 => ("WokenYears$Street", "quarrel", "I", false)
  | 9 => ("WokenYears$Street", "firstFrost", "I", false)
  | 10 => ("WokenYears$Street", "frost", "I", false)
  | 11 => ("WokenYears$Street", "minute", "I", false)
  | 12 => ("WokenYears$Street", "night", "I", false)
  | 13 => ("WokenYears$Street", "place", "I", false)
  | _ => ("WokenYears$Street", "purse", "I", false)
def tyX4 : Nat → FieldType := fun k => match k with
  | 0 => .object "WokenYears$Ints"
  | 1 => .object "WokenYears$Ints"
  | 2 => .object "WokenYears$Ints"
  | 3 => .object "WokenYears$Ints"
  | 4 => .object "WokenYears$Ints"
  | 5 => .object "WokenYears$Ints"
  | 6 => .object "WokenYears$Ints"
  | 7 => .int
  | 8 => .int
  | 9 => .int
  | 10 => .int
  | 11 => .int
  | 12 => .int
  | 13 => .int
  | _ => .int
abbrev wsX40 : List Cond := u_ws RX4 TX4 15
theorem nmX4 : ∀ a, a < 15 → ∀ b, b < 15 → a ≠ b → (TX4 a).2.1 ≠ (TX4 b).2.1 := by decide +kernel
theorem tyX4_ok : ∀ k, k < 15 → parseFieldDescriptor (TX4 k).2.2.1 = some (tyX4 k) := by decide +kernel
abbrev cX4_init : ByteArray := prog_6_method_1_code
def yX4_init : MethodName := ⟨RX4, "<init>", "()V"⟩
abbrev cX4_begin : ByteArray := prog_6_method_2_code
def yX4_begin : MethodName := ⟨RX4, "begin", "(II)V"⟩
abbrev cX4_build : ByteArray := prog_6_method_3_code
def yX4_build : MethodName := ⟨RX4, "build", "(III)V"⟩
abbrev cX4_sleep : ByteArray := prog_6_method_4_code
def yX4_sleep : MethodName := ⟨RX4, "sleep", "()V"⟩
abbrev cX4_replay : ByteArray := prog_6_method_5_code
def yX4_replay : MethodName := ⟨RX4, "replay", "()V"⟩
abbrev cX4_does : ByteArray := prog_6_method_6_code
def yX4_does : MethodName := ⟨RX4, "does", "(III)V"⟩
abbrev cX4_doesByLot : ByteArray := prog_6_method_7_code
def yX4_doesByLot : MethodName := ⟨RX4, "doesByLot", "(I)V"⟩
abbrev cX4_perform : ByteArray := prog_6_method_8_code
def yX4_perform : MethodName := ⟨RX4, "perform", "(I)V"⟩
abbrev cX4_hear : ByteArray := prog_6_method_9_code
def yX4_hear : MethodName := ⟨RX4, "hear", "(I)V"⟩
abbrev cX4_isHouse : ByteArray := prog_6_method_10_code
def yX4_isHouse : MethodName := ⟨RX4, "isHouse", "(I)Z"⟩
abbrev cX4_isSet : ByteArray := prog_6_method_11_code
def yX4_isSet : MethodName := ⟨RX4, "isSet", "(I)Z"⟩
abbrev cX4_isAwake : ByteArray := prog_6_method_12_code
def yX4_isAwake : MethodName := ⟨RX4, "isAwake", "(I)Z"⟩
abbrev cX4_tapsFor : ByteArray := prog_6_method_13_code
def yX4_tapsFor : MethodName := ⟨RX4, "tapsFor", "(II)I"⟩
abbrev cX4_fee : ByteArray := prog_6_method_14_code
def yX4_fee : MethodName := ⟨RX4, "fee", "(I)I"⟩
abbrev cX4_more : ByteArray := prog_6_method_15_code
def yX4_more : MethodName := ⟨RX4, "more", "(I)I"⟩
abbrev cX4_tell : ByteArray := prog_6_method_16_code
def yX4_tell : MethodName := ⟨RX4, "tell", "(II)I"⟩
abbrev cX4_awakeSet : ByteArray := prog_6_method_17_code
def yX4_awakeSet : MethodName := ⟨RX4, "awakeSet", "()I"⟩
abbrev cX4_canWake : ByteArray := prog_6_method_18_code
def yX4_canWake : MethodName := ⟨RX4, "canWake", "(I)Z"⟩
abbrev cX4_tapsLeft : ByteArray := prog_6_method_19_code
def yX4_tapsLeft : MethodName := ⟨RX4, "tapsLeft", "(I)I"⟩
abbrev cX4_fees : ByteArray := prog_6_method_20_code
def yX4_fees : MethodName := ⟨RX4, "fees", "(I)I"⟩
abbrev cX4_manyOf : ByteArray := prog_6_method_21_code
def yX4_manyOf : MethodName := ⟨RX4, "manyOf", "(I)I"⟩
abbrev cX4_othersAwake : ByteArray := prog_6_method_22_code
def yX4_othersAwake : MethodName := ⟨RX4, "othersAwake", "(I)I"⟩
abbrev cX4_othersEarlier : ByteArray := prog_6_method_23_code
def yX4_othersEarlier : MethodName := ⟨RX4, "othersEarlier", "(I)I"⟩
abbrev cX4_quarrelling : ByteArray := prog_6_method_24_code
def yX4_quarrelling : MethodName := ⟨RX4, "quarrelling", "()I"⟩
abbrev cX4_nextByDate : ByteArray := prog_6_method_25_code
def yX4_nextByDate : MethodName := ⟨RX4, "nextByDate", "(II)I"⟩
abbrev cX4_mostAwake : ByteArray := prog_6_method_26_code
def yX4_mostAwake : MethodName := ⟨RX4, "mostAwake", "(II)I"⟩
def RX5 : String := "WokenYears"
def TX5 : u_T := fun k => match k with
  | 0 => ("WokenYears", "rows", "[LWokenYears$Ints;", true)
  | 1 => ("WokenYears", "texts", "[LWokenYears$Ints;", true)
  | 2 => ("WokenYears", "kept", "[LWokenYears$Ints;", true)
  | 3 => ("WokenYears", "reader", "LWokenYears$Reader;", true)
  | 4 => ("WokenYears", "rounds", "LWokenYears$Rounds;", true)
  | 5 => ("WokenYears", "findings", "LWokenYears$Ints;", true)
  | 6 => ("WokenYears", "street", "LWokenYears$Street;", false)
  | 7 => ("WokenYears", "draft", "LWokenYears$Street;", false)
  | 8 => ("WokenYears", "finding", "I", false)
  | 9 => ("WokenYears", "asked", "I", false)
  | 10 => ("WokenYears", "upper", "J", false)
  | _ => ("WokenYears", "lower", "J", false)
def tyX5 : Nat → FieldType := fun k => match k with
  | 0 => .array (.object "WokenYears$Ints")
  | 1 => .array (.object "WokenYears$Ints")
  | 2 => .array (.object "WokenYears$Ints")
  | 3 => .object "WokenYears$Reader"
  | 4 => .object "WokenYears$Rounds"
  | 5 => .object "WokenYears$Ints"
  | 6 => .object "WokenYears$Street"
  | 7 => .object "WokenYears$Street"
  | 8 => .int
  | 9 => .int
  | 10 => .long
  | _ => .long
abbrev wsX50 : List Cond := u_ws RX5 TX5 12
theorem nmX5 : ∀ a, a < 12 → ∀ b, b < 12 → a ≠ b → (TX5 a).2.1 ≠ (TX5 b).2.1 := by decide +kernel
theorem tyX5_ok : ∀ k, k < 12 → parseFieldDescriptor (TX5 k).2.2.1 = some (tyX5 k) := by decide +kernel
abbrev cX5_init : ByteArray := prog_1_method_1_code
def yX5_init : MethodName := ⟨RX5, "<init>", "()V"⟩
abbrev cX5_found : ByteArray := prog_1_method_2_code
def yX5_found : MethodName := ⟨RX5, "found", "(I)I"⟩
abbrev cX5_within : ByteArray := prog_1_method_3_code
def yX5_within : MethodName := ⟨RX5, "within", "(III)Z"⟩
abbrev cX5_isDate : ByteArray := prog_1_method_4_code
def yX5_isDate : MethodName := ⟨RX5, "isDate", "(I)Z"⟩
abbrev cX5_missing : ByteArray := prog_1_method_5_code
def yX5_missing : MethodName := ⟨RX5, "missing", "(II)[LWokenYears$Ints;"⟩
abbrev cX5_pick : ByteArray := prog_1_method_6_code
def yX5_pick : MethodName := ⟨RX5, "pick", "([LWokenYears$Ints;I)LWokenYears$Ints;"⟩
abbrev cX5_refused : ByteArray := prog_1_method_7_code
def yX5_refused : MethodName := ⟨RX5, "refused", "(LWokenYears$Ints;)I"⟩
abbrev cX5_refusedAt : ByteArray := prog_1_method_8_code
def yX5_refusedAt : MethodName := ⟨RX5, "refusedAt", "(LWokenYears$Ints;I)I"⟩
abbrev cX5_present : ByteArray := prog_1_method_9_code
def yX5_present : MethodName := ⟨RX5, "present", "([LWokenYears$Ints;)I"⟩
abbrev cX5_row : ByteArray := prog_1_method_10_code
def yX5_row : MethodName := ⟨RX5, "row", "(II)I"⟩
abbrev cX5_lay : ByteArray := prog_1_method_11_code
def yX5_lay : MethodName := ⟨RX5, "lay", "(III)I"⟩
abbrev cX5_at : ByteArray := prog_1_method_12_code
def yX5_at : MethodName := ⟨RX5, "at", "(II)I"⟩
abbrev cX5_tear : ByteArray := prog_1_method_13_code
def yX5_tear : MethodName := ⟨RX5, "tear", "(I)I"⟩
abbrev cX5_copy : ByteArray := prog_1_method_14_code
def yX5_copy : MethodName := ⟨RX5, "copy", "(IIIII)I"⟩
abbrev cX5_mean : ByteArray := prog_1_method_15_code
def yX5_mean : MethodName := ⟨RX5, "mean", "(I)I"⟩
abbrev cX5_text : ByteArray := prog_1_method_16_code
def yX5_text : MethodName := ⟨RX5, "text", "(II)I"⟩
abbrev cX5_put : ByteArray := prog_1_method_17_code
def yX5_put : MethodName := ⟨RX5, "put", "(III)I"⟩
abbrev cX5_fault : ByteArray := prog_1_method_18_code
def yX5_fault : MethodName := ⟨RX5, "fault", "(I)I"⟩
abbrev cX5_town : ByteArray := prog_1_method_19_code
def yX5_town : MethodName := ⟨RX5, "town", "(I)I"⟩
abbrev cX5_house : ByteArray := prog_1_method_20_code
def yX5_house : MethodName := ⟨RX5, "house", "(II)I"⟩
abbrev cX5_mark : ByteArray := prog_1_method_21_code
def yX5_mark : MethodName := ⟨RX5, "mark", "(II)I"⟩
abbrev cX5_isFull : ByteArray := prog_1_method_22_code
def yX5_isFull : MethodName := ⟨RX5, "isFull", "(I)Z"⟩
abbrev cX5_walk : ByteArray := prog_1_method_23_code
def yX5_walk : MethodName := ⟨RX5, "walk", "(I)I"⟩
abbrev cX5_tap : ByteArray := prog_1_method_24_code
def yX5_tap : MethodName := ⟨RX5, "tap", "()I"⟩
abbrev cX5_slate : ByteArray := prog_1_method_25_code
def yX5_slate : MethodName := ⟨RX5, "slate", "(II)I"⟩
abbrev cX5_frost : ByteArray := prog_1_method_26_code
def yX5_frost : MethodName := ⟨RX5, "frost", "(I)I"⟩
abbrev cX5_night : ByteArray := prog_1_method_27_code
def yX5_night : MethodName := ⟨RX5, "night", "()I"⟩
abbrev cX5_undo : ByteArray := prog_1_method_28_code
def yX5_undo : MethodName := ⟨RX5, "undo", "(I)I"⟩
abbrev cX5_keep : ByteArray := prog_1_method_29_code
def yX5_keep : MethodName := ⟨RX5, "keep", "(I)I"⟩
abbrev cX5_on : ByteArray := prog_1_method_30_code
def yX5_on : MethodName := ⟨RX5, "on", "(I)I"⟩
abbrev cX5_takes : ByteArray := prog_1_method_31_code
def yX5_takes : MethodName := ⟨RX5, "takes", "(II)I"⟩
abbrev cX5_pays : ByteArray := prog_1_method_32_code
def yX5_pays : MethodName := ⟨RX5, "pays", "(I)I"⟩
abbrev cX5_who : ByteArray := prog_1_method_33_code
def yX5_who : MethodName := ⟨RX5, "who", "(II)I"⟩
abbrev cX5_quarrels : ByteArray := prog_1_method_34_code
def yX5_quarrels : MethodName := ⟨RX5, "quarrels", "()I"⟩
abbrev cX5_soonest : ByteArray := prog_1_method_35_code
def yX5_soonest : MethodName := ⟨RX5, "soonest", "(I)I"⟩
abbrev cX5_intime : ByteArray := prog_1_method_36_code
def yX5_intime : MethodName := ⟨RX5, "intime", "(II)I"⟩
abbrev cX5_many : ByteArray := prog_1_method_37_code
def yX5_many : MethodName := ⟨RX5, "many", "()I"⟩
abbrev cX5_dates : ByteArray := prog_1_method_38_code
def yX5_dates : MethodName := ⟨RX5, "dates", "(I)I"⟩
abbrev cX5_refusedPairs : ByteArray := prog_1_method_39_code
def yX5_refusedPairs : MethodName := ⟨RX5, "refusedPairs", "(LWokenYears$Ints;)I"⟩
abbrev cX5_tookOf : ByteArray := prog_1_method_40_code
def yX5_tookOf : MethodName := ⟨RX5, "tookOf", "(III)I"⟩
abbrev cX5_canBe : ByteArray := prog_1_method_41_code
def yX5_canBe : MethodName := ⟨RX5, "canBe", "(ILWokenYears$Ints;)Z"⟩
abbrev cX5_kindsBy : ByteArray := prog_1_method_42_code
def yX5_kindsBy : MethodName := ⟨RX5, "kindsBy", "(LWokenYears$Ints;)I"⟩
abbrev cX5_holds : ByteArray := prog_1_method_43_code
def yX5_holds : MethodName := ⟨RX5, "holds", "(II)Z"⟩
abbrev cX5_partOf : ByteArray := prog_1_method_44_code
def yX5_partOf : MethodName := ⟨RX5, "partOf", "(III)I"⟩
abbrev cX5_greatestPart : ByteArray := prog_1_method_45_code
def yX5_greatestPart : MethodName := ⟨RX5, "greatestPart", "(II)I"⟩
abbrev cX5_whose : ByteArray := prog_1_method_46_code
def yX5_whose : MethodName := ⟨RX5, "whose", "(I)I"⟩
abbrev cX5_kinds : ByteArray := prog_1_method_47_code
def yX5_kinds : MethodName := ⟨RX5, "kinds", "(I)I"⟩
abbrev cX5_test : ByteArray := prog_1_method_48_code
def yX5_test : MethodName := ⟨RX5, "test", "(I)I"⟩
abbrev cX5_sets : ByteArray := prog_1_method_49_code
def yX5_sets : MethodName := ⟨RX5, "sets", "(I)I"⟩
abbrev cX5_sure : ByteArray := prog_1_method_50_code
def yX5_sure : MethodName := ⟨RX5, "sure", "(I)I"⟩
abbrev cX5_duel : ByteArray := prog_1_method_51_code
def yX5_duel : MethodName := ⟨RX5, "duel", "(I)I"⟩
abbrev cX5_power : ByteArray := prog_1_method_52_code
def yX5_power : MethodName := ⟨RX5, "power", "(JI)J"⟩
abbrev cX5_ways : ByteArray := prog_1_method_53_code
def yX5_ways : MethodName := ⟨RX5, "ways", "(II)J"⟩
abbrev cX5_weight : ByteArray := prog_1_method_54_code
def yX5_weight : MethodName := ⟨RX5, "weight", "(III)J"⟩
abbrev cX5_divisor : ByteArray := prog_1_method_55_code
def yX5_divisor : MethodName := ⟨RX5, "divisor", "(JJ)J"⟩
abbrev cX5_tellRatio : ByteArray := prog_1_method_56_code
def yX5_tellRatio : MethodName := ⟨RX5, "tellRatio", "(JJ)V"⟩
abbrev cX5_isTry : ByteArray := prog_1_method_57_code
def yX5_isTry : MethodName := ⟨RX5, "isTry", "(III)Z"⟩
abbrev cX5_odds : ByteArray := prog_1_method_58_code
def yX5_odds : MethodName := ⟨RX5, "odds", "(III)I"⟩
abbrev cX5_mid : ByteArray := prog_1_method_59_code
def yX5_mid : MethodName := ⟨RX5, "mid", "(III)I"⟩
abbrev cX5_lots : ByteArray := prog_1_method_60_code
def yX5_lots : MethodName := ⟨RX5, "lots", "(II)I"⟩
abbrev cX5_asked : ByteArray := prog_1_method_61_code
def yX5_asked : MethodName := ⟨RX5, "asked", "()I"⟩
abbrev cX5_upper : ByteArray := prog_1_method_62_code
def yX5_upper : MethodName := ⟨RX5, "upper", "()J"⟩
abbrev cX5_lower : ByteArray := prog_1_method_63_code
def yX5_lower : MethodName := ⟨RX5, "lower", "()J"⟩
abbrev cX5_count : ByteArray := prog_1_method_64_code
def yX5_count : MethodName := ⟨RX5, "count", "(I)I"⟩
abbrev cX5_finding : ByteArray := prog_1_method_65_code
def yX5_finding : MethodName := ⟨RX5, "finding", "()I"⟩
abbrev cX5_findings : ByteArray := prog_1_method_66_code
def yX5_findings : MethodName := ⟨RX5, "findings", "(I)I"⟩
abbrev cX5_digest : ByteArray := prog_1_method_67_code
def yX5_digest : MethodName := ⟨RX5, "digest", "()J"⟩
abbrev cX5_digestOf : ByteArray := prog_1_method_68_code
def yX5_digestOf : MethodName := ⟨RX5, "digestOf", "([LWokenYears$Ints;J)J"⟩
def RX6 : String := "WokenYearsModel"
def TX6 : u_T := fun k => match k with
  | 0 => ("WokenYearsModel", "rowSize", "[I", true)
  | 1 => ("WokenYearsModel", "rowItem", "[I", true)
  | 2 => ("WokenYearsModel", "textSize", "[I", true)
  | 3 => ("WokenYearsModel", "textItem", "[I", true)
  | 4 => ("WokenYearsModel", "findingNow", "I", false)
  | 5 => ("WokenYearsModel", "findingMany", "[I", true)
  | 6 => ("WokenYearsModel", "askedNow", "I", false)
  | 7 => ("WokenYearsModel", "upperNow", "J", false)
  | 8 => ("WokenYearsModel", "lowerNow", "J", false)
  | 9 => ("WokenYearsModel", "position", "I", false)
  | 10 => ("WokenYearsModel", "from", "I", false)
  | 11 => ("WokenYearsModel", "all", "I", false)
  | 12 => ("WokenYearsModel", "readFrost", "I", false)
  | 13 => ("WokenYearsModel", "readQuarrel", "I", false)
  | 14 => ("WokenYearsModel", "readHouses", "I", false)
  | 15 => ("WokenYearsModel", "readHouse", "[I", true)
  | 16 => ("WokenYearsModel", "quarrel", "I", false)
  | 17 => ("WokenYearsModel", "houses", "I", false)
  | 18 => ("WokenYearsModel", "sort", "[I", true)
  | 19 => ("WokenYearsModel", "wants", "[I", true)
  | 20 => ("WokenYearsModel", "now", "[I", true)
  | 21 => ("WokenYearsModel", "deed", "[I", true)
  | 22 => ("WokenYearsModel", "deeds", "I", false)
  | 23 => ("WokenYearsModel", "keptNow", "[I", true)
  | 24 => ("WokenYearsModel", "keptDeed", "[I", true)
  | 25 => ("WokenYearsModel", "keptMany", "[I", true)
  | 26 => ("WokenYearsModel", "row", "[I", true)
  | _ => ("WokenYearsModel", "bestRow", "[I", true)
def tyX6 : Nat → FieldType := fun k => match k with
  | 0 => .array .int
  | 1 => .array .int
  | 2 => .array .int
  | 3 => .array .int
  | 4 => .int
  | 5 => .array .int
  | 6 => .int
  | 7 => .long
  | 8 => .long
  | 9 => .int
  | 10 => .int
  | 11 => .int
  | 12 => .int
  | 13 => .int
  | 14 => .int
  | 15 => .array .int
  | 16 => .int
  | 17 => .int
  | 18 => .array .int
  | 19 => .array .int
  | 20 => .array .int
  | 21 => .array .int
  | 22 => .int
  | 23 => .array .int
  | 24 => .array .int
  | 25 => .array .int
  | 26 => .array .int
  | _ => .array .int
abbrev wsX60 : List Cond := u_ws RX6 TX6 28
theorem nmX6 : ∀ a, a < 28 → ∀ b, b < 28 → a ≠ b → (TX6 a).2.1 ≠ (TX6 b).2.1 := by decide +kernel
theorem tyX6_ok : ∀ k, k < 28 → parseFieldDescriptor (TX6 k).2.2.1 = some (tyX6 k) := by decide +kernel
abbrev cX6_init : ByteArray := prog_8_method_1_code
def yX6_init : MethodName := ⟨RX6, "<init>", "()V"⟩
abbrev cX6_in : ByteArray := prog_8_method_2_code
def yX6_in : MethodName := ⟨RX6, "in", "(III)Z"⟩
abbrev cX6_has : ByteArray := prog_8_method_3_code
def yX6_has : MethodName := ⟨RX6, "has", "(II)Z"⟩
abbrev cX6_bits : ByteArray := prog_8_method_4_code
def yX6_bits : MethodName := ⟨RX6, "bits", "(I)I"⟩
abbrev cX6_finds : ByteArray := prog_8_method_5_code
def yX6_finds : MethodName := ⟨RX6, "finds", "(I)I"⟩
abbrev cX6_tells : ByteArray := prog_8_method_6_code
def yX6_tells : MethodName := ⟨RX6, "tells", "(I)I"⟩
abbrev cX6_bring : ByteArray := prog_8_method_7_code
def yX6_bring : MethodName := ⟨RX6, "bring", "([II[III)V"⟩
abbrev cX6_isOne : ByteArray := prog_8_method_8_code
def yX6_isOne : MethodName := ⟨RX6, "isOne", "(I)Z"⟩
abbrev cX6_row : ByteArray := prog_8_method_9_code
def yX6_row : MethodName := ⟨RX6, "row", "(II)I"⟩
abbrev cX6_wrongAt : ByteArray := prog_8_method_10_code
def yX6_wrongAt : MethodName := ⟨RX6, "wrongAt", "(II)I"⟩
abbrev cX6_lay : ByteArray := prog_8_method_11_code
def yX6_lay : MethodName := ⟨RX6, "lay", "(III)I"⟩
abbrev cX6_at : ByteArray := prog_8_method_12_code
def yX6_at : MethodName := ⟨RX6, "at", "(II)I"⟩
abbrev cX6_tear : ByteArray := prog_8_method_13_code
def yX6_tear : MethodName := ⟨RX6, "tear", "(I)I"⟩
abbrev cX6_isPart : ByteArray := prog_8_method_14_code
def yX6_isPart : MethodName := ⟨RX6, "isPart", "(III)Z"⟩
abbrev cX6_copy : ByteArray := prog_8_method_15_code
def yX6_copy : MethodName := ⟨RX6, "copy", "(IIIII)I"⟩
abbrev cX6_mean : ByteArray := prog_8_method_16_code
def yX6_mean : MethodName := ⟨RX6, "mean", "(I)I"⟩
abbrev cX6_text : ByteArray := prog_8_method_17_code
def yX6_text : MethodName := ⟨RX6, "text", "(II)I"⟩
abbrev cX6_put : ByteArray := prog_8_method_18_code
def yX6_put : MethodName := ⟨RX6, "put", "(III)I"⟩
abbrev cX6_letterAt : ByteArray := prog_8_method_19_code
def yX6_letterAt : MethodName := ⟨RX6, "letterAt", "(I)I"⟩
abbrev cX6_figure : ByteArray := prog_8_method_20_code
def yX6_figure : MethodName := ⟨RX6, "figure", "(II)I"⟩
abbrev cX6_skip : ByteArray := prog_8_method_21_code
def yX6_skip : MethodName := ⟨RX6, "skip", "()V"⟩
abbrev cX6_sortBy : ByteArray := prog_8_method_22_code
def yX6_sortBy : MethodName := ⟨RX6, "sortBy", "(I)I"⟩
abbrev cX6_twoFigures : ByteArray := prog_8_method_23_code
def yX6_twoFigures : MethodName := ⟨RX6, "twoFigures", "()I"⟩
abbrev cX6_isStreet : ByteArray := prog_8_method_24_code
def yX6_isStreet : MethodName := ⟨RX6, "isStreet", "()Z"⟩
abbrev cX6_isHouseItem : ByteArray := prog_8_method_25_code
def yX6_isHouseItem : MethodName := ⟨RX6, "isHouseItem", "()Z"⟩
abbrev cX6_read : ByteArray := prog_8_method_26_code
def yX6_read : MethodName := ⟨RX6, "read", "(I)I"⟩
abbrev cX6_fault : ByteArray := prog_8_method_27_code
def yX6_fault : MethodName := ⟨RX6, "fault", "(I)I"⟩
abbrev cX6_town : ByteArray := prog_8_method_28_code
def yX6_town : MethodName := ⟨RX6, "town", "(I)I"⟩
abbrev cX6_is : ByteArray := prog_8_method_29_code
def yX6_is : MethodName := ⟨RX6, "is", "(II)Z"⟩
abbrev cX6_takesBy : ByteArray := prog_8_method_30_code
def yX6_takesBy : MethodName := ⟨RX6, "takesBy", "(II)I"⟩
abbrev cX6_takesOf : ByteArray := prog_8_method_31_code
def yX6_takesOf : MethodName := ⟨RX6, "takesOf", "(I)I"⟩
abbrev cX6_paysBy : ByteArray := prog_8_method_32_code
def yX6_paysBy : MethodName := ⟨RX6, "paysBy", "(I)I"⟩
abbrev cX6_isAwake : ByteArray := prog_8_method_33_code
def yX6_isAwake : MethodName := ⟨RX6, "isAwake", "(I)Z"⟩
abbrev cX6_moreOf : ByteArray := prog_8_method_34_code
def yX6_moreOf : MethodName := ⟨RX6, "moreOf", "(I)I"⟩
abbrev cX6_houseTells : ByteArray := prog_8_method_35_code
def yX6_houseTells : MethodName := ⟨RX6, "houseTells", "(II)I"⟩
abbrev cX6_house : ByteArray := prog_8_method_36_code
def yX6_house : MethodName := ⟨RX6, "house", "(II)I"⟩
abbrev cX6_awakeOnes : ByteArray := prog_8_method_37_code
def yX6_awakeOnes : MethodName := ⟨RX6, "awakeOnes", "()I"⟩
abbrev cX6_earlier : ByteArray := prog_8_method_38_code
def yX6_earlier : MethodName := ⟨RX6, "earlier", "(I)I"⟩
abbrev cX6_mark : ByteArray := prog_8_method_39_code
def yX6_mark : MethodName := ⟨RX6, "mark", "(II)I"⟩
abbrev cX6_note : ByteArray := prog_8_method_40_code
def yX6_note : MethodName := ⟨RX6, "note", "()V"⟩
abbrev cX6_far : ByteArray := prog_8_method_41_code
def yX6_far : MethodName := ⟨RX6, "far", "(II)I"⟩
abbrev cX6_goes : ByteArray := prog_8_method_42_code
def yX6_goes : MethodName := ⟨RX6, "goes", "(I)V"⟩
abbrev cX6_taps : ByteArray := prog_8_method_43_code
def yX6_taps : MethodName := ⟨RX6, "taps", "()V"⟩
abbrev cX6_changes : ByteArray := prog_8_method_44_code
def yX6_changes : MethodName := ⟨RX6, "changes", "(II)V"⟩
abbrev cX6_walk : ByteArray := prog_8_method_45_code
def yX6_walk : MethodName := ⟨RX6, "walk", "(I)I"⟩
abbrev cX6_tap : ByteArray := prog_8_method_46_code
def yX6_tap : MethodName := ⟨RX6, "tap", "()I"⟩
abbrev cX6_slate : ByteArray := prog_8_method_47_code
def yX6_slate : MethodName := ⟨RX6, "slate", "(II)I"⟩
abbrev cX6_frost : ByteArray := prog_8_method_48_code
def yX6_frost : MethodName := ⟨RX6, "frost", "(I)I"⟩
abbrev cX6_night : ByteArray := prog_8_method_49_code
def yX6_night : MethodName := ⟨RX6, "night", "()I"⟩
abbrev cX6_undo : ByteArray := prog_8_method_50_code
def yX6_undo : MethodName := ⟨RX6, "undo", "(I)I"⟩
abbrev cX6_keep : ByteArray := prog_8_method_51_code
def yX6_keep : MethodName := ⟨RX6, "keep", "(I)I"⟩
abbrev cX6_on : ByteArray := prog_8_method_52_code
def yX6_on : MethodName := ⟨RX6, "on", "(I)I"⟩
abbrev cX6_takes : ByteArray := prog_8_method_53_code
def yX6_takes : MethodName := ⟨RX6, "takes", "(II)I"⟩
abbrev cX6_pays : ByteArray := prog_8_method_54_code
def yX6_pays : MethodName := ⟨RX6, "pays", "(I)I"⟩
abbrev cX6_who : ByteArray := prog_8_method_55_code
def yX6_who : MethodName := ⟨RX6, "who", "(II)I"⟩
abbrev cX6_quarrels : ByteArray := prog_8_method_56_code
def yX6_quarrels : MethodName := ⟨RX6, "quarrels", "()I"⟩
abbrev cX6_wakable : ByteArray := prog_8_method_57_code
def yX6_wakable : MethodName := ⟨RX6, "wakable", "()I"⟩
abbrev cX6_isSet : ByteArray := prog_8_method_58_code
def yX6_isSet : MethodName := ⟨RX6, "isSet", "(I)Z"⟩
abbrev cX6_soonest : ByteArray := prog_8_method_59_code
def yX6_soonest : MethodName := ⟨RX6, "soonest", "(I)I"⟩
abbrev cX6_layRow : ByteArray := prog_8_method_60_code
def yX6_layRow : MethodName := ⟨RX6, "layRow", "(III)Z"⟩
abbrev cX6_rowsOf : ByteArray := prog_8_method_61_code
def yX6_rowsOf : MethodName := ⟨RX6, "rowsOf", "(I)I"⟩
abbrev cX6_minutesOf : ByteArray := prog_8_method_62_code
def yX6_minutesOf : MethodName := ⟨RX6, "minutesOf", "(I)I"⟩
abbrev cX6_bestOf : ByteArray := prog_8_method_63_code
def yX6_bestOf : MethodName := ⟨RX6, "bestOf", "(I)I"⟩
abbrev cX6_anew : ByteArray := prog_8_method_64_code
def yX6_anew : MethodName := ⟨RX6, "anew", "(II)V"⟩
abbrev cX6_intime : ByteArray := prog_8_method_65_code
def yX6_intime : MethodName := ⟨RX6, "intime", "(II)I"⟩
abbrev cX6_many : ByteArray := prog_8_method_66_code
def yX6_many : MethodName := ⟨RX6, "many", "()I"⟩
abbrev cX6_dates : ByteArray := prog_8_method_67_code
def yX6_dates : MethodName := ⟨RX6, "dates", "(I)I"⟩
abbrev cX6_wrongPairs : ByteArray := prog_8_method_68_code
def yX6_wrongPairs : MethodName := ⟨RX6, "wrongPairs", "(I)I"⟩
abbrev cX6_tookBy : ByteArray := prog_8_method_69_code
def yX6_tookBy : MethodName := ⟨RX6, "tookBy", "(II)I"⟩
abbrev cX6_tookSo : ByteArray := prog_8_method_70_code
def yX6_tookSo : MethodName := ⟨RX6, "tookSo", "(II)Z"⟩
abbrev cX6_kindsBy : ByteArray := prog_8_method_71_code
def yX6_kindsBy : MethodName := ⟨RX6, "kindsBy", "(I)I"⟩
abbrev cX6_whose : ByteArray := prog_8_method_72_code
def yX6_whose : MethodName := ⟨RX6, "whose", "(I)I"⟩
abbrev cX6_kinds : ByteArray := prog_8_method_73_code
def yX6_kinds : MethodName := ⟨RX6, "kinds", "(I)I"⟩
abbrev cX6_test : ByteArray := prog_8_method_74_code
def yX6_test : MethodName := ⟨RX6, "test", "(I)I"⟩
abbrev cX6_pay : ByteArray := prog_8_method_75_code
def yX6_pay : MethodName := ⟨RX6, "pay", "(II)Z"⟩
abbrev cX6_sets : ByteArray := prog_8_method_76_code
def yX6_sets : MethodName := ⟨RX6, "sets", "(I)I"⟩
abbrev cX6_sure : ByteArray := prog_8_method_77_code
def yX6_sure : MethodName := ⟨RX6, "sure", "(I)I"⟩
abbrev cX6_ownBy : ByteArray := prog_8_method_78_code
def yX6_ownBy : MethodName := ⟨RX6, "ownBy", "(II)I"⟩
abbrev cX6_duel : ByteArray := prog_8_method_79_code
def yX6_duel : MethodName := ⟨RX6, "duel", "(I)I"⟩
abbrev cX6_tellsPart : ByteArray := prog_8_method_80_code
def yX6_tellsPart : MethodName := ⟨RX6, "tellsPart", "(JJ)V"⟩
abbrev cX6_waysOf : ByteArray := prog_8_method_81_code
def yX6_waysOf : MethodName := ⟨RX6, "waysOf", "(III)J"⟩
abbrev cX6_whole : ByteArray := prog_8_method_82_code
def yX6_whole : MethodName := ⟨RX6, "whole", "(I)J"⟩
abbrev cX6_odds : ByteArray := prog_8_method_83_code
def yX6_odds : MethodName := ⟨RX6, "odds", "(III)I"⟩
abbrev cX6_mid : ByteArray := prog_8_method_84_code
def yX6_mid : MethodName := ⟨RX6, "mid", "(III)I"⟩
abbrev cX6_lots : ByteArray := prog_8_method_85_code
def yX6_lots : MethodName := ⟨RX6, "lots", "(II)I"⟩
abbrev cX6_asked : ByteArray := prog_8_method_86_code
def yX6_asked : MethodName := ⟨RX6, "asked", "()I"⟩
abbrev cX6_upper : ByteArray := prog_8_method_87_code
def yX6_upper : MethodName := ⟨RX6, "upper", "()J"⟩
abbrev cX6_lower : ByteArray := prog_8_method_88_code
def yX6_lower : MethodName := ⟨RX6, "lower", "()J"⟩
abbrev cX6_thereOf : ByteArray := prog_8_method_89_code
def yX6_thereOf : MethodName := ⟨RX6, "thereOf", "([I)I"⟩
abbrev cX6_kindMany : ByteArray := prog_8_method_90_code
def yX6_kindMany : MethodName := ⟨RX6, "kindMany", "(I)I"⟩
abbrev cX6_count : ByteArray := prog_8_method_91_code
def yX6_count : MethodName := ⟨RX6, "count", "(I)I"⟩
abbrev cX6_finding : ByteArray := prog_8_method_92_code
def yX6_finding : MethodName := ⟨RX6, "finding", "()I"⟩
abbrev cX6_findings : ByteArray := prog_8_method_93_code
def yX6_findings : MethodName := ⟨RX6, "findings", "(I)I"⟩
abbrev cX6_digest : ByteArray := prog_8_method_94_code
def yX6_digest : MethodName := ⟨RX6, "digest", "()J"⟩
def RJ6 : String := "java/lang/Integer"
def TJ6 : u_T := fun k => match k with
  | _ => ("", "", "", false)
def tyJ6 : Nat → FieldType := fun k => match k with
  | _ => .int
abbrev wsJ60 : List Cond := u_ws RJ6 TJ6 0
theorem nmJ6 : ∀ a, a < 0 → ∀ b, b < 0 → a ≠ b → (TJ6 a).2.1 ≠ (TJ6 b).2.1 := by decide +kernel
theorem tyJ6_ok : ∀ k, k < 0 → parseFieldDescriptor (TJ6 k).2.2.1 = some (tyJ6 k) := by decide +kernel
abbrev cJ6_bitCount_0f7a4 : ByteArray := prog_9_method_49_code
def yJ6_bitCount_0f7a4 : MethodName := ⟨RJ6, "bitCount", "(I)I"⟩
def RJ9 : String := "java/lang/Math"
def TJ9 : u_T := fun k => match k with
  | _ => ("", "", "", false)
def tyJ9 : Nat → FieldType := fun k => match k with
  | _ => .int
abbrev wsJ90 : List Cond := u_ws RJ9 TJ9 0
theorem nmJ9 : ∀ a, a < 0 → ∀ b, b < 0 → a ≠ b → (TJ9 a).2.1 ≠ (TJ9 b).2.1 := by decide +kernel
theorem tyJ9_ok : ∀ k, k < 0 → parseFieldDescriptor (TJ9 k).2.2.1 = some (tyJ9 k) := by decide +kernel
abbrev cJ9_abs_0f7a4 : ByteArray := prog_10_method_59_code
def yJ9_abs_0f7a4 : MethodName := ⟨RJ9, "abs", "(I)I"⟩
abbrev cJ9_max_7cf53 : ByteArray := prog_10_method_65_code
def yJ9_max_7cf53 : MethodName := ⟨RJ9, "max", "(II)I"⟩
abbrev cJ9_min_7cf53 : ByteArray := prog_10_method_69_code
def yJ9_min_7cf53 : MethodName := ⟨RJ9, "min", "(II)I"⟩
def RJ10 : String := "java/lang/System"
def TJ10 : u_T := fun k => match k with
  | _ => ("", "", "", false)
def tyJ10 : Nat → FieldType := fun k => match k with
  | _ => .int
abbrev wsJ100 : List Cond := u_ws RJ10 TJ10 0
theorem nmJ10 : ∀ a, a < 0 → ∀ b, b < 0 → a ≠ b → (TJ10 a).2.1 ≠ (TJ10 b).2.1 := by decide +kernel
theorem tyJ10_ok : ∀ k, k < 0 → parseFieldDescriptor (TJ10 k).2.2.1 = some (tyJ10 k) := by decide +kernel
def RL : String := "WokenYearsLaw"
abbrev cL_law : ByteArray := code
def yL_law : MethodName := ⟨RL, "law", "([I)Z"⟩
abbrev vwCl : List vw_C := [(RX0, TX0, 2), (RX2, TX2, 3), (RX3, TX3, 6), (RX4, TX4, 15), (RX5, TX5, 12), (RX6, TX6, 28)]
end
section
theorem dX0_init_0 : decode cX0_init 0 = .ok (.aload_n 0, 1) := by decide +kernel
theorem dX0_init_1 : decode cX0_init 1 = .ok (.invokespecial 1, 3) := by decide +kernel
theorem dX0_init_4 : decode cX0_init 4 = .ok (.aload_n 0, 1) := by decide +kernel
theorem dX0_init_5 : decode cX0_init 5 = .ok (.iconst (-1), 1) := by decide +kernel
theorem dX0_init_6 : decode cX0_init 6 = .ok (.putfield 7, 3) := by decide +kernel
theorem dX0_init_9 : decode cX0_init 9 = .ok (.aload_n 0, 1) := by decide +kernel
theorem dX0_init_10 : decode cX0_init 10 = .ok (.iconst 0, 1) := by decide +kernel
theorem dX0_init_11 : decode cX0_init 11 = .ok (.iload_n 1, 1) := by decide +kernel
theorem dX0_init_12 : decode cX0_init 12 = .ok (.invokestatic 13, 3) := by decide +kernel
theorem dX0_init_15 : decode cX0_init 15 = .ok (.newarray .int, 2) := by decide +kernel
theorem dX0_init_17 : decode cX0_init 17 = .ok (.putfield 19, 3) := by decide +kernel
theorem dX0_init_20 : decode cX0_init 20 = .ok (.return_, 1) := by decide +kernel
theorem dX0_has_0 : decode cX0_has 0 = .ok (.iload_n 1, 1) := by decide +kernel
theorem dX0_has_1 : decode cX0_has 1 = .ok (.ifCond .lt 24, 3) := by decide +kernel
theorem dX0_has_4 : decode cX0_has 4 = .ok (.iload_n 1, 1) := by decide +kernel
theorem dX0_has_5 : decode cX0_has 5 = .ok (.aload_n 0, 1) := by decide +kernel
theorem dX0_has_6 : decode cX0_has 6 = .ok (.getfield 7, 3) := by decide +kernel
theorem dX0_has_9 : decode cX0_has 9 = .ok (.if_icmp .ge 16, 3) := by decide +kernel
theorem dX0_has_12 : decode cX0_has 12 = .ok (.iload_n 1, 1) := by decide +kernel
theorem dX0_has_13 : decode cX0_has 13 = .ok (.aload_n 0, 1) := by decide +kernel
theorem dX0_has_14 : decode cX0_has 14 = .ok (.getfield 19, 3) := by decide +kernel
theorem dX0_has_17 : decode cX0_has 17 = .ok (.arraylength, 1) := by decide +kernel
theorem dX0_has_18 : decode cX0_has 18 = .ok (.if_icmp .ge 7, 3) := by decide +kernel
theorem dX0_has_21 : decode cX0_has 21 = .ok (.iconst 1, 1) := by decide +kernel
theorem dX0_has_22 : decode cX0_has 22 = .ok (.goto 4, 3) := by decide +kernel
theorem dX0_has_25 : decode cX0_has 25 = .ok (.iconst 0, 1) := by decide +kernel
theorem dX0_has_26 : decode cX0_has 26 = .ok (.ireturn, 1) := by decide +kernel
theorem dX0_get_0 : decode cX0_get 0 = .ok (.iload_n 1, 1) := by decide +kernel
theorem dX0_get_1 : decode cX0_get 1 = .ok (.ifCond .lt 29, 3) := by decide +kernel
theorem dX0_get_4 : decode cX0_get 4 = .ok (.iload_n 1, 1) := by decide +kernel
theorem dX0_get_5 : decode cX0_get 5 = .ok (.aload_n 0, 1) := by decide +kernel
theorem dX0_get_6 : decode cX0_get 6 = .ok (.getfield 7, 3) := by decide +kernel
theorem dX0_get_9 : decode cX0_get 9 = .ok (.if_icmp .ge 21, 3) := by decide +kernel
theorem dX0_get_12 : decode cX0_get 12 = .ok (.iload_n 1, 1) := by decide +kernel
theorem dX0_get_13 : decode cX0_get 13 = .ok (.aload_n 0, 1) := by decide +kernel
theorem dX0_get_14 : decode cX0_get 14 = .ok (.getfield 19, 3) := by decide +kernel
theorem dX0_get_17 : decode cX0_get 17 = .ok (.arraylength, 1) := by decide +kernel
theorem dX0_get_18 : decode cX0_get 18 = .ok (.if_icmp .ge 12, 3) := by decide +kernel
theorem dX0_get_21 : decode cX0_get 21 = .ok (.aload_n 0, 1) := by decide +kernel
theorem dX0_get_22 : decode cX0_get 22 = .ok (.getfield 19, 3) := by decide +kernel
theorem dX0_get_25 : decode cX0_get 25 = .ok (.iload_n 1, 1) := by decide +kernel
theorem dX0_get_26 : decode cX0_get 26 = .ok (.iaload, 1) := by decide +kernel
theorem dX0_get_27 : decode cX0_get 27 = .ok (.goto 4, 3) := by decide +kernel
theorem dX0_get_30 : decode cX0_get 30 = .ok (.iconst 0, 1) := by decide +kernel
theorem dX0_get_31 : decode cX0_get 31 = .ok (.ireturn, 1) := by decide +kernel
theorem dX0_set_0 : decode cX0_set 0 = .ok (.iload_n 1, 1) := by decide +kernel
theorem dX0_set_1 : decode cX0_set 1 = .ok (.ifCond .lt 27, 3) := by decide +kernel
theorem dX0_set_4 : decode cX0_set 4 = .ok (.iload_n 1, 1) := by decide +kernel
theorem dX0_set_5 : decode cX0_set 5 = .ok (.aload_n 0, 1) := by decide +kernel
theorem dX0_set_6 : decode cX0_set 6 = .ok (.getfield 7, 3) := by decide +kernel
theorem dX0_set_9 : decode cX0_set 9 = .ok (.if_icmp .ge 19, 3) := by decide +kernel
theorem dX0_set_12 : decode cX0_set 12 = .ok (.iload_n 1, 1) := by decide +kernel
theorem dX0_set_13 : decode cX0_set 13 = .ok (.aload_n 0, 1) := by decide +kernel
theorem dX0_set_14 : decode cX0_set 14 = .ok (.getfield 19, 3) := by decide +kernel
theorem dX0_set_17 : decode cX0_set 17 = .ok (.arraylength, 1) := by decide +kernel
theorem dX0_set_18 : decode cX0_set 18 = .ok (.if_icmp .ge 10, 3) := by decide +kernel
theorem dX0_set_21 : decode cX0_set 21 = .ok (.aload_n 0, 1) := by decide +kernel
theorem dX0_set_22 : decode cX0_set 22 = .ok (.getfield 19, 3) := by decide +kernel
theorem dX0_set_25 : decode cX0_set 25 = .ok (.iload_n 1, 1) := by decide +kernel
theorem dX0_set_26 : decode cX0_set 26 = .ok (.iload_n 2, 1) := by decide +kernel
theorem dX0_set_27 : decode cX0_set 27 = .ok (.iastore, 1) := by decide +kernel
theorem dX0_set_28 : decode cX0_set 28 = .ok (.return_, 1) := by decide +kernel
theorem dX0_fill_0 : decode cX0_fill 0 = .ok (.aload_n 0, 1) := by decide +kernel
theorem dX0_fill_1 : decode cX0_fill 1 = .ok (.iconst 0, 1) := by decide +kernel
theorem dX0_fill_2 : decode cX0_fill 2 = .ok (.iload_n 1, 1) := by decide +kernel
theorem dX0_fill_3 : decode cX0_fill 3 = .ok (.aload_n 0, 1) := by decide +kernel
theorem dX0_fill_4 : decode cX0_fill 4 = .ok (.getfield 19, 3) := by decide +kernel
theorem dX0_fill_7 : decode cX0_fill 7 = .ok (.arraylength, 1) := by decide +kernel
theorem dX0_fill_8 : decode cX0_fill 8 = .ok (.invokestatic 23, 3) := by decide +kernel
theorem dX0_fill_11 : decode cX0_fill 11 = .ok (.invokestatic 13, 3) := by decide +kernel
theorem dX0_fill_14 : decode cX0_fill 14 = .ok (.putfield 7, 3) := by decide +kernel
theorem dX0_fill_17 : decode cX0_fill 17 = .ok (.iconst 0, 1) := by decide +kernel
theorem dX0_fill_18 : decode cX0_fill 18 = .ok (.istore_n 3, 1) := by decide +kernel
theorem dX0_fill_19 : decode cX0_fill 19 = .ok (.iload_n 3, 1) := by decide +kernel
theorem dX0_fill_20 : decode cX0_fill 20 = .ok (.aload_n 0, 1) := by decide +kernel
theorem dX0_fill_21 : decode cX0_fill 21 = .ok (.getfield 7, 3) := by decide +kernel
theorem dX0_fill_24 : decode cX0_fill 24 = .ok (.if_icmp .ge 25, 3) := by decide +kernel
theorem dX0_fill_27 : decode cX0_fill 27 = .ok (.iload_n 3, 1) := by decide +kernel
theorem dX0_fill_28 : decode cX0_fill 28 = .ok (.aload_n 0, 1) := by decide +kernel
theorem dX0_fill_29 : decode cX0_fill 29 = .ok (.getfield 19, 3) := by decide +kernel
theorem dX0_fill_32 : decode cX0_fill 32 = .ok (.arraylength, 1) := by decide +kernel
theorem dX0_fill_33 : decode cX0_fill 33 = .ok (.if_icmp .ge 16, 3) := by decide +kernel
theorem dX0_fill_36 : decode cX0_fill 36 = .ok (.aload_n 0, 1) := by decide +kernel
theorem dX0_fill_37 : decode cX0_fill 37 = .ok (.getfield 19, 3) := by decide +kernel
theorem dX0_fill_40 : decode cX0_fill 40 = .ok (.iload_n 3, 1) := by decide +kernel
theorem dX0_fill_41 : decode cX0_fill 41 = .ok (.iload_n 2, 1) := by decide +kernel
theorem dX0_fill_42 : decode cX0_fill 42 = .ok (.iastore, 1) := by decide +kernel
theorem dX0_fill_43 : decode cX0_fill 43 = .ok (.iinc 3 1, 3) := by decide +kernel
theorem dX0_fill_46 : decode cX0_fill 46 = .ok (.goto (-27), 3) := by decide +kernel
theorem dX0_fill_49 : decode cX0_fill 49 = .ok (.return_, 1) := by decide +kernel
theorem dX0_add_0 : decode cX0_add 0 = .ok (.aload_n 0, 1) := by decide +kernel
theorem dX0_add_1 : decode cX0_add 1 = .ok (.getfield 7, 3) := by decide +kernel
theorem dX0_add_4 : decode cX0_add 4 = .ok (.ifCond .lt 35, 3) := by decide +kernel
theorem dX0_add_7 : decode cX0_add 7 = .ok (.aload_n 0, 1) := by decide +kernel
theorem dX0_add_8 : decode cX0_add 8 = .ok (.getfield 7, 3) := by decide +kernel
theorem dX0_add_11 : decode cX0_add 11 = .ok (.aload_n 0, 1) := by decide +kernel
theorem dX0_add_12 : decode cX0_add 12 = .ok (.getfield 19, 3) := by decide +kernel
theorem dX0_add_15 : decode cX0_add 15 = .ok (.arraylength, 1) := by decide +kernel
theorem dX0_add_16 : decode cX0_add 16 = .ok (.if_icmp .ge 23, 3) := by decide +kernel
theorem dX0_add_19 : decode cX0_add 19 = .ok (.aload_n 0, 1) := by decide +kernel
theorem dX0_add_20 : decode cX0_add 20 = .ok (.getfield 19, 3) := by decide +kernel
theorem dX0_add_23 : decode cX0_add 23 = .ok (.aload_n 0, 1) := by decide +kernel
theorem dX0_add_24 : decode cX0_add 24 = .ok (.getfield 7, 3) := by decide +kernel
theorem dX0_add_27 : decode cX0_add 27 = .ok (.iload_n 1, 1) := by decide +kernel
theorem dX0_add_28 : decode cX0_add 28 = .ok (.iastore, 1) := by decide +kernel
theorem dX0_add_29 : decode cX0_add 29 = .ok (.aload_n 0, 1) := by decide +kernel
theorem dX0_add_30 : decode cX0_add 30 = .ok (.dup, 1) := by decide +kernel
theorem dX0_add_31 : decode cX0_add 31 = .ok (.getfield 7, 3) := by decide +kernel
theorem dX0_add_34 : decode cX0_add 34 = .ok (.iconst 1, 1) := by decide +kernel
theorem dX0_add_35 : decode cX0_add 35 = .ok (.iadd, 1) := by decide +kernel
theorem dX0_add_36 : decode cX0_add 36 = .ok (.putfield 7, 3) := by decide +kernel
theorem dX0_add_39 : decode cX0_add 39 = .ok (.return_, 1) := by decide +kernel
theorem dX0_cut_0 : decode cX0_cut 0 = .ok (.aload_n 0, 1) := by decide +kernel
theorem dX0_cut_1 : decode cX0_cut 1 = .ok (.aload_n 0, 1) := by decide +kernel
theorem dX0_cut_2 : decode cX0_cut 2 = .ok (.getfield 7, 3) := by decide +kernel
theorem dX0_cut_5 : decode cX0_cut 5 = .ok (.iconst 0, 1) := by decide +kernel
theorem dX0_cut_6 : decode cX0_cut 6 = .ok (.iload_n 1, 1) := by decide +kernel
theorem dX0_cut_7 : decode cX0_cut 7 = .ok (.invokestatic 13, 3) := by decide +kernel
theorem dX0_cut_10 : decode cX0_cut 10 = .ok (.invokestatic 23, 3) := by decide +kernel
theorem dX0_cut_13 : decode cX0_cut 13 = .ok (.putfield 7, 3) := by decide +kernel
theorem dX0_cut_16 : decode cX0_cut 16 = .ok (.return_, 1) := by decide +kernel
theorem dX0_drop_0 : decode cX0_drop 0 = .ok (.aload_n 0, 1) := by decide +kernel
theorem dX0_drop_1 : decode cX0_drop 1 = .ok (.iconst (-1), 1) := by decide +kernel
theorem dX0_drop_2 : decode cX0_drop 2 = .ok (.putfield 7, 3) := by decide +kernel
theorem dX0_drop_5 : decode cX0_drop 5 = .ok (.return_, 1) := by decide +kernel
theorem dX0_spans_0 : decode cX0_spans 0 = .ok (.iload_n 1, 1) := by decide +kernel
theorem dX0_spans_1 : decode cX0_spans 1 = .ok (.ifCond .lt 33, 3) := by decide +kernel
theorem dX0_spans_4 : decode cX0_spans 4 = .ok (.iload_n 2, 1) := by decide +kernel
theorem dX0_spans_5 : decode cX0_spans 5 = .ok (.ifCond .lt 29, 3) := by decide +kernel
theorem dX0_spans_8 : decode cX0_spans 8 = .ok (.iload_n 1, 1) := by decide +kernel
theorem dX0_spans_9 : decode cX0_spans 9 = .ok (.aload_n 0, 1) := by decide +kernel
theorem dX0_spans_10 : decode cX0_spans 10 = .ok (.getfield 7, 3) := by decide +kernel
theorem dX0_spans_13 : decode cX0_spans 13 = .ok (.iload_n 2, 1) := by decide +kernel
theorem dX0_spans_14 : decode cX0_spans 14 = .ok (.isub, 1) := by decide +kernel
theorem dX0_spans_15 : decode cX0_spans 15 = .ok (.if_icmp .gt 19, 3) := by decide +kernel
theorem dX0_spans_18 : decode cX0_spans 18 = .ok (.aload_n 0, 1) := by decide +kernel
theorem dX0_spans_19 : decode cX0_spans 19 = .ok (.getfield 7, 3) := by decide +kernel
theorem dX0_spans_22 : decode cX0_spans 22 = .ok (.aload_n 0, 1) := by decide +kernel
theorem dX0_spans_23 : decode cX0_spans 23 = .ok (.getfield 19, 3) := by decide +kernel
theorem dX0_spans_26 : decode cX0_spans 26 = .ok (.arraylength, 1) := by decide +kernel
theorem dX0_spans_27 : decode cX0_spans 27 = .ok (.if_icmp .gt 7, 3) := by decide +kernel
theorem dX0_spans_30 : decode cX0_spans 30 = .ok (.iconst 1, 1) := by decide +kernel
theorem dX0_spans_31 : decode cX0_spans 31 = .ok (.goto 4, 3) := by decide +kernel
theorem dX0_spans_34 : decode cX0_spans 34 = .ok (.iconst 0, 1) := by decide +kernel
theorem dX0_spans_35 : decode cX0_spans 35 = .ok (.ireturn, 1) := by decide +kernel
theorem dX0_copyOut_0 : decode cX0_copyOut 0 = .ok (.aload_n 0, 1) := by decide +kernel
theorem dX0_copyOut_1 : decode cX0_copyOut 1 = .ok (.iload_n 1, 1) := by decide +kernel
theorem dX0_copyOut_2 : decode cX0_copyOut 2 = .ok (.iload 4, 2) := by decide +kernel
theorem dX0_copyOut_4 : decode cX0_copyOut 4 = .ok (.invokevirtual 26, 3) := by decide +kernel
theorem dX0_copyOut_7 : decode cX0_copyOut 7 = .ok (.ifCond .eq 28, 3) := by decide +kernel
theorem dX0_copyOut_10 : decode cX0_copyOut 10 = .ok (.aload_n 2, 1) := by decide +kernel
theorem dX0_copyOut_11 : decode cX0_copyOut 11 = .ok (.iload_n 3, 1) := by decide +kernel
theorem dX0_copyOut_12 : decode cX0_copyOut 12 = .ok (.iload 4, 2) := by decide +kernel
theorem dX0_copyOut_14 : decode cX0_copyOut 14 = .ok (.invokevirtual 26, 3) := by decide +kernel
theorem dX0_copyOut_17 : decode cX0_copyOut 17 = .ok (.ifCond .eq 18, 3) := by decide +kernel
theorem dX0_copyOut_20 : decode cX0_copyOut 20 = .ok (.aload_n 0, 1) := by decide +kernel
theorem dX0_copyOut_21 : decode cX0_copyOut 21 = .ok (.getfield 19, 3) := by decide +kernel
theorem dX0_copyOut_24 : decode cX0_copyOut 24 = .ok (.iload_n 1, 1) := by decide +kernel
theorem dX0_copyOut_25 : decode cX0_copyOut 25 = .ok (.aload_n 2, 1) := by decide +kernel
theorem dX0_copyOut_26 : decode cX0_copyOut 26 = .ok (.getfield 19, 3) := by decide +kernel
theorem dX0_copyOut_29 : decode cX0_copyOut 29 = .ok (.iload_n 3, 1) := by decide +kernel
theorem dX0_copyOut_30 : decode cX0_copyOut 30 = .ok (.iload 4, 2) := by decide +kernel
theorem dX0_copyOut_32 : decode cX0_copyOut 32 = .ok (.invokestatic 30, 3) := by decide +kernel
theorem dX0_copyOut_35 : decode cX0_copyOut 35 = .ok (.return_, 1) := by decide +kernel
theorem dX0_takeFrom_0 : decode cX0_takeFrom 0 = .ok (.aload_n 0, 1) := by decide +kernel
theorem dX0_takeFrom_1 : decode cX0_takeFrom 1 = .ok (.aload_n 1, 1) := by decide +kernel
theorem dX0_takeFrom_2 : decode cX0_takeFrom 2 = .ok (.getfield 7, 3) := by decide +kernel
theorem dX0_takeFrom_5 : decode cX0_takeFrom 5 = .ok (.iconst 0, 1) := by decide +kernel
theorem dX0_takeFrom_6 : decode cX0_takeFrom 6 = .ok (.invokevirtual 36, 3) := by decide +kernel
theorem dX0_takeFrom_9 : decode cX0_takeFrom 9 = .ok (.aload_n 1, 1) := by decide +kernel
theorem dX0_takeFrom_10 : decode cX0_takeFrom 10 = .ok (.iconst 0, 1) := by decide +kernel
theorem dX0_takeFrom_11 : decode cX0_takeFrom 11 = .ok (.aload_n 0, 1) := by decide +kernel
theorem dX0_takeFrom_12 : decode cX0_takeFrom 12 = .ok (.iconst 0, 1) := by decide +kernel
theorem dX0_takeFrom_13 : decode cX0_takeFrom 13 = .ok (.aload_n 0, 1) := by decide +kernel
theorem dX0_takeFrom_14 : decode cX0_takeFrom 14 = .ok (.getfield 7, 3) := by decide +kernel
theorem dX0_takeFrom_17 : decode cX0_takeFrom 17 = .ok (.invokevirtual 40, 3) := by decide +kernel
theorem dX0_takeFrom_20 : decode cX0_takeFrom 20 = .ok (.return_, 1) := by decide +kernel
theorem dX1_byLetter_0 : decode cX1_byLetter 0 = .ok (.iload_n 0, 1) := by decide +kernel
theorem dX1_byLetter_1 : decode cX1_byLetter 1 = .ok (.tableswitch 103 100 118 #[97, 103, 103, 103, 91, 99, 103, 103, 103, 101, 103, 103, 103, 103, 95, 103, 103, 103, 93], 91) := by decide +kernel
theorem dX1_byLetter_92 : decode cX1_byLetter 92 = .ok (.iconst 0, 1) := by decide +kernel
theorem dX1_byLetter_93 : decode cX1_byLetter 93 = .ok (.ireturn, 1) := by decide +kernel
theorem dX1_byLetter_94 : decode cX1_byLetter 94 = .ok (.iconst 1, 1) := by decide +kernel
theorem dX1_byLetter_95 : decode cX1_byLetter 95 = .ok (.ireturn, 1) := by decide +kernel
theorem dX1_byLetter_96 : decode cX1_byLetter 96 = .ok (.iconst 2, 1) := by decide +kernel
theorem dX1_byLetter_97 : decode cX1_byLetter 97 = .ok (.ireturn, 1) := by decide +kernel
theorem dX1_byLetter_98 : decode cX1_byLetter 98 = .ok (.iconst 3, 1) := by decide +kernel
theorem dX1_byLetter_99 : decode cX1_byLetter 99 = .ok (.ireturn, 1) := by decide +kernel
theorem dX1_byLetter_100 : decode cX1_byLetter 100 = .ok (.iconst 4, 1) := by decide +kernel
theorem dX1_byLetter_101 : decode cX1_byLetter 101 = .ok (.ireturn, 1) := by decide +kernel
theorem dX1_byLetter_102 : decode cX1_byLetter 102 = .ok (.iconst 5, 1) := by decide +kernel
theorem dX1_byLetter_103 : decode cX1_byLetter 103 = .ok (.ireturn, 1) := by decide +kernel
theorem dX1_byLetter_104 : decode cX1_byLetter 104 = .ok (.bipush (-9), 2) := by decide +kernel
theorem dX1_byLetter_106 : decode cX1_byLetter 106 = .ok (.ireturn, 1) := by decide +kernel
theorem dX1_isOf_0 : decode cX1_isOf 0 = .ok (.iload_n 1, 1) := by decide +kernel
theorem dX1_isOf_1 : decode cX1_isOf 1 = .ok (.tableswitch 61 0 2 #[27, 29, 45], 27) := by decide +kernel
theorem dX1_isOf_28 : decode cX1_isOf 28 = .ok (.iconst 1, 1) := by decide +kernel
theorem dX1_isOf_29 : decode cX1_isOf 29 = .ok (.ireturn, 1) := by decide +kernel
theorem dX1_isOf_30 : decode cX1_isOf 30 = .ok (.iload_n 0, 1) := by decide +kernel
theorem dX1_isOf_31 : decode cX1_isOf 31 = .ok (.iconst 1, 1) := by decide +kernel
theorem dX1_isOf_32 : decode cX1_isOf 32 = .ok (.if_icmp .eq 8, 3) := by decide +kernel
theorem dX1_isOf_35 : decode cX1_isOf 35 = .ok (.iload_n 0, 1) := by decide +kernel
theorem dX1_isOf_36 : decode cX1_isOf 36 = .ok (.iconst 4, 1) := by decide +kernel
theorem dX1_isOf_37 : decode cX1_isOf 37 = .ok (.if_icmp .ne 7, 3) := by decide +kernel
theorem dX1_isOf_40 : decode cX1_isOf 40 = .ok (.iconst 1, 1) := by decide +kernel
theorem dX1_isOf_41 : decode cX1_isOf 41 = .ok (.goto 4, 3) := by decide +kernel
theorem dX1_isOf_44 : decode cX1_isOf 44 = .ok (.iconst 0, 1) := by decide +kernel
theorem dX1_isOf_45 : decode cX1_isOf 45 = .ok (.ireturn, 1) := by decide +kernel
theorem dX1_isOf_46 : decode cX1_isOf 46 = .ok (.iload_n 0, 1) := by decide +kernel
theorem dX1_isOf_47 : decode cX1_isOf 47 = .ok (.iconst 2, 1) := by decide +kernel
theorem dX1_isOf_48 : decode cX1_isOf 48 = .ok (.if_icmp .eq 8, 3) := by decide +kernel
theorem dX1_isOf_51 : decode cX1_isOf 51 = .ok (.iload_n 0, 1) := by decide +kernel
theorem dX1_isOf_52 : decode cX1_isOf 52 = .ok (.iconst 5, 1) := by decide +kernel
theorem dX1_isOf_53 : decode cX1_isOf 53 = .ok (.if_icmp .ne 7, 3) := by decide +kernel
theorem dX1_isOf_56 : decode cX1_isOf 56 = .ok (.iconst 1, 1) := by decide +kernel
theorem dX1_isOf_57 : decode cX1_isOf 57 = .ok (.goto 4, 3) := by decide +kernel
theorem dX1_isOf_60 : decode cX1_isOf 60 = .ok (.iconst 0, 1) := by decide +kernel
theorem dX1_isOf_61 : decode cX1_isOf 61 = .ok (.ireturn, 1) := by decide +kernel
theorem dX1_isOf_62 : decode cX1_isOf 62 = .ok (.iload_n 0, 1) := by decide +kernel
theorem dX1_isOf_63 : decode cX1_isOf 63 = .ok (.iload_n 1, 1) := by decide +kernel
theorem dX1_isOf_64 : decode cX1_isOf 64 = .ok (.if_icmp .ne 7, 3) := by decide +kernel
theorem dX1_isOf_67 : decode cX1_isOf 67 = .ok (.iconst 1, 1) := by decide +kernel
theorem dX1_isOf_68 : decode cX1_isOf 68 = .ok (.goto 4, 3) := by decide +kernel
theorem dX1_isOf_71 : decode cX1_isOf 71 = .ok (.iconst 0, 1) := by decide +kernel
theorem dX1_isOf_72 : decode cX1_isOf 72 = .ok (.ireturn, 1) := by decide +kernel
theorem dX1_taps_0 : decode cX1_taps 0 = .ok (.iload_n 2, 1) := by decide +kernel
theorem dX1_taps_1 : decode cX1_taps 1 = .ok (.ifCond .eq 24, 3) := by decide +kernel
theorem dX1_taps_4 : decode cX1_taps 4 = .ok (.iload_n 1, 1) := by decide +kernel
theorem dX1_taps_5 : decode cX1_taps 5 = .ok (.bipush 40, 2) := by decide +kernel
theorem dX1_taps_7 : decode cX1_taps 7 = .ok (.if_icmp .lt 18, 3) := by decide +kernel
theorem dX1_taps_10 : decode cX1_taps 10 = .ok (.iload_n 1, 1) := by decide +kernel
theorem dX1_taps_11 : decode cX1_taps 11 = .ok (.bipush 49, 2) := by decide +kernel
theorem dX1_taps_13 : decode cX1_taps 13 = .ok (.if_icmp .gt 12, 3) := by decide +kernel
theorem dX1_taps_16 : decode cX1_taps 16 = .ok (.iload_n 0, 1) := by decide +kernel
theorem dX1_taps_17 : decode cX1_taps 17 = .ok (.iconst 5, 1) := by decide +kernel
theorem dX1_taps_18 : decode cX1_taps 18 = .ok (.if_icmp .eq 7, 3) := by decide +kernel
theorem dX1_taps_21 : decode cX1_taps 21 = .ok (.iconst 1, 1) := by decide +kernel
theorem dX1_taps_22 : decode cX1_taps 22 = .ok (.goto 4, 3) := by decide +kernel
theorem dX1_taps_25 : decode cX1_taps 25 = .ok (.iconst 0, 1) := by decide +kernel
theorem dX1_taps_26 : decode cX1_taps 26 = .ok (.istore_n 3, 1) := by decide +kernel
theorem dX1_taps_27 : decode cX1_taps 27 = .ok (.iload_n 0, 1) := by decide +kernel
theorem dX1_taps_28 : decode cX1_taps 28 = .ok (.iconst 3, 1) := by decide +kernel
theorem dX1_taps_29 : decode cX1_taps 29 = .ok (.if_icmp .eq 7, 3) := by decide +kernel
theorem dX1_taps_32 : decode cX1_taps 32 = .ok (.iload_n 3, 1) := by decide +kernel
theorem dX1_taps_33 : decode cX1_taps 33 = .ok (.ifCond .eq 6, 3) := by decide +kernel
theorem dX1_taps_36 : decode cX1_taps 36 = .ok (.bipush (-9), 2) := by decide +kernel
theorem dX1_taps_38 : decode cX1_taps 38 = .ok (.ireturn, 1) := by decide +kernel
theorem dX1_taps_39 : decode cX1_taps 39 = .ok (.iload_n 1, 1) := by decide +kernel
theorem dX1_taps_40 : decode cX1_taps 40 = .ok (.bipush 49, 2) := by decide +kernel
theorem dX1_taps_42 : decode cX1_taps 42 = .ok (.if_icmp .gt 7, 3) := by decide +kernel
theorem dX1_taps_45 : decode cX1_taps 45 = .ok (.iconst 2, 1) := by decide +kernel
theorem dX1_taps_46 : decode cX1_taps 46 = .ok (.goto 4, 3) := by decide +kernel
theorem dX1_taps_49 : decode cX1_taps 49 = .ok (.iconst 1, 1) := by decide +kernel
theorem dX1_taps_50 : decode cX1_taps 50 = .ok (.istore 4, 2) := by decide +kernel
theorem dX1_taps_52 : decode cX1_taps 52 = .ok (.iload_n 0, 1) := by decide +kernel
theorem dX1_taps_53 : decode cX1_taps 53 = .ok (.lookupswitch 39 #[(1, 27), (4, 32)], 27) := by decide +kernel
theorem dX1_taps_80 : decode cX1_taps 80 = .ok (.iconst 2, 1) := by decide +kernel
theorem dX1_taps_81 : decode cX1_taps 81 = .ok (.iload 4, 2) := by decide +kernel
theorem dX1_taps_83 : decode cX1_taps 83 = .ok (.imul, 1) := by decide +kernel
theorem dX1_taps_84 : decode cX1_taps 84 = .ok (.ireturn, 1) := by decide +kernel
theorem dX1_taps_85 : decode cX1_taps 85 = .ok (.iconst 2, 1) := by decide +kernel
theorem dX1_taps_86 : decode cX1_taps 86 = .ok (.iload 4, 2) := by decide +kernel
theorem dX1_taps_88 : decode cX1_taps 88 = .ok (.imul, 1) := by decide +kernel
theorem dX1_taps_89 : decode cX1_taps 89 = .ok (.iconst 1, 1) := by decide +kernel
theorem dX1_taps_90 : decode cX1_taps 90 = .ok (.iadd, 1) := by decide +kernel
theorem dX1_taps_91 : decode cX1_taps 91 = .ok (.ireturn, 1) := by decide +kernel
theorem dX1_taps_92 : decode cX1_taps 92 = .ok (.iload 4, 2) := by decide +kernel
theorem dX1_taps_94 : decode cX1_taps 94 = .ok (.ireturn, 1) := by decide +kernel
theorem dX1_fee_0 : decode cX1_fee 0 = .ok (.iload_n 0, 1) := by decide +kernel
theorem dX1_fee_1 : decode cX1_fee 1 = .ok (.tableswitch 37 2 5 #[31, 33, 37, 35], 31) := by decide +kernel
theorem dX1_fee_32 : decode cX1_fee 32 = .ok (.iconst 2, 1) := by decide +kernel
theorem dX1_fee_33 : decode cX1_fee 33 = .ok (.ireturn, 1) := by decide +kernel
theorem dX1_fee_34 : decode cX1_fee 34 = .ok (.iconst 0, 1) := by decide +kernel
theorem dX1_fee_35 : decode cX1_fee 35 = .ok (.ireturn, 1) := by decide +kernel
theorem dX1_fee_36 : decode cX1_fee 36 = .ok (.iconst 5, 1) := by decide +kernel
theorem dX1_fee_37 : decode cX1_fee 37 = .ok (.ireturn, 1) := by decide +kernel
theorem dX1_fee_38 : decode cX1_fee 38 = .ok (.iconst 1, 1) := by decide +kernel
theorem dX1_fee_39 : decode cX1_fee 39 = .ok (.ireturn, 1) := by decide +kernel
theorem dX2_init_0 : decode cX2_init 0 = .ok (.aload_n 0, 1) := by decide +kernel
theorem dX2_init_1 : decode cX2_init 1 = .ok (.invokespecial 3, 3) := by decide +kernel
theorem dX2_init_4 : decode cX2_init 4 = .ok (.return_, 1) := by decide +kernel
theorem dX2_read_0 : decode cX2_read 0 = .ok (.aload_n 0, 1) := by decide +kernel
theorem dX2_read_1 : decode cX2_read 1 = .ok (.aload_n 1, 1) := by decide +kernel
theorem dX2_read_2 : decode cX2_read 2 = .ok (.putfield 9, 3) := by decide +kernel
theorem dX2_read_5 : decode cX2_read 5 = .ok (.aload_n 0, 1) := by decide +kernel
theorem dX2_read_6 : decode cX2_read 6 = .ok (.iconst 0, 1) := by decide +kernel
theorem dX2_read_7 : decode cX2_read 7 = .ok (.putfield 15, 3) := by decide +kernel
theorem dX2_read_10 : decode cX2_read 10 = .ok (.aload_n 0, 1) := by decide +kernel
theorem dX2_read_11 : decode cX2_read 11 = .ok (.iconst 1, 1) := by decide +kernel
theorem dX2_read_12 : decode cX2_read 12 = .ok (.putfield 19, 3) := by decide +kernel
theorem dX2_read_15 : decode cX2_read 15 = .ok (.aload_n 0, 1) := by decide +kernel
theorem dX2_read_16 : decode cX2_read 16 = .ok (.invokevirtual 23, 3) := by decide +kernel
theorem dX2_read_19 : decode cX2_read 19 = .ok (.aload_n 0, 1) := by decide +kernel
theorem dX2_read_20 : decode cX2_read 20 = .ok (.bipush 115, 2) := by decide +kernel
theorem dX2_read_22 : decode cX2_read 22 = .ok (.invokevirtual 26, 3) := by decide +kernel
theorem dX2_read_25 : decode cX2_read 25 = .ok (.aload_n 0, 1) := by decide +kernel
theorem dX2_read_26 : decode cX2_read 26 = .ok (.iconst 1, 1) := by decide +kernel
theorem dX2_read_27 : decode cX2_read 27 = .ok (.invokevirtual 30, 3) := by decide +kernel
theorem dX2_read_30 : decode cX2_read 30 = .ok (.istore_n 3, 1) := by decide +kernel
theorem dX2_read_31 : decode cX2_read 31 = .ok (.aload_n 2, 1) := by decide +kernel
theorem dX2_read_32 : decode cX2_read 32 = .ok (.iload_n 3, 1) := by decide +kernel
theorem dX2_read_33 : decode cX2_read 33 = .ok (.aload_n 0, 1) := by decide +kernel
theorem dX2_read_34 : decode cX2_read 34 = .ok (.invokevirtual 34, 3) := by decide +kernel
theorem dX2_read_37 : decode cX2_read 37 = .ok (.invokevirtual 38, 3) := by decide +kernel
theorem dX2_read_40 : decode cX2_read 40 = .ok (.iconst 0, 1) := by decide +kernel
theorem dX2_read_41 : decode cX2_read 41 = .ok (.istore 4, 2) := by decide +kernel
theorem dX2_read_43 : decode cX2_read 43 = .ok (.iload 4, 2) := by decide +kernel
theorem dX2_read_45 : decode cX2_read 45 = .ok (.bipush 6, 2) := by decide +kernel
theorem dX2_read_47 : decode cX2_read 47 = .ok (.if_icmp .gt 77, 3) := by decide +kernel
theorem dX2_read_50 : decode cX2_read 50 = .ok (.aload_n 0, 1) := by decide +kernel
theorem dX2_read_51 : decode cX2_read 51 = .ok (.getfield 19, 3) := by decide +kernel
theorem dX2_read_54 : decode cX2_read 54 = .ok (.ifCond .eq 70, 3) := by decide +kernel
theorem dX2_read_57 : decode cX2_read 57 = .ok (.aload_n 0, 1) := by decide +kernel
theorem dX2_read_58 : decode cX2_read 58 = .ok (.invokevirtual 23, 3) := by decide +kernel
theorem dX2_read_61 : decode cX2_read 61 = .ok (.aload_n 0, 1) := by decide +kernel
theorem dX2_read_62 : decode cX2_read 62 = .ok (.getfield 15, 3) := by decide +kernel
theorem dX2_read_65 : decode cX2_read 65 = .ok (.aload_n 1, 1) := by decide +kernel
theorem dX2_read_66 : decode cX2_read 66 = .ok (.getfield 44, 3) := by decide +kernel
theorem dX2_read_69 : decode cX2_read 69 = .ok (.if_icmp .lt 7, 3) := by decide +kernel
theorem dX2_read_72 : decode cX2_read 72 = .ok (.iconst 1, 1) := by decide +kernel
theorem dX2_read_73 : decode cX2_read 73 = .ok (.goto 4, 3) := by decide +kernel
theorem dX2_read_76 : decode cX2_read 76 = .ok (.iconst 0, 1) := by decide +kernel
theorem dX2_read_77 : decode cX2_read 77 = .ok (.istore 5, 2) := by decide +kernel
theorem dX2_read_79 : decode cX2_read 79 = .ok (.iload 5, 2) := by decide +kernel
theorem dX2_read_81 : decode cX2_read 81 = .ok (.ifCond .eq 11, 3) := by decide +kernel
theorem dX2_read_84 : decode cX2_read 84 = .ok (.iload 4, 2) := by decide +kernel
theorem dX2_read_86 : decode cX2_read 86 = .ok (.ifCond .le 6, 3) := by decide +kernel
theorem dX2_read_89 : decode cX2_read 89 = .ok (.bipush (-9), 2) := by decide +kernel
theorem dX2_read_91 : decode cX2_read 91 = .ok (.ireturn, 1) := by decide +kernel
theorem dX2_read_92 : decode cX2_read 92 = .ok (.aload_n 0, 1) := by decide +kernel
theorem dX2_read_93 : decode cX2_read 93 = .ok (.iload 5, 2) := by decide +kernel
theorem dX2_read_95 : decode cX2_read 95 = .ok (.ifCond .ne 14, 3) := by decide +kernel
theorem dX2_read_98 : decode cX2_read 98 = .ok (.iload 4, 2) := by decide +kernel
theorem dX2_read_100 : decode cX2_read 100 = .ok (.bipush 6, 2) := by decide +kernel
theorem dX2_read_102 : decode cX2_read 102 = .ok (.if_icmp .ge 7, 3) := by decide +kernel
theorem dX2_read_105 : decode cX2_read 105 = .ok (.iconst 1, 1) := by decide +kernel
theorem dX2_read_106 : decode cX2_read 106 = .ok (.goto 4, 3) := by decide +kernel
theorem dX2_read_109 : decode cX2_read 109 = .ok (.iconst 0, 1) := by decide +kernel
theorem dX2_read_110 : decode cX2_read 110 = .ok (.putfield 19, 3) := by decide +kernel
theorem dX2_read_113 : decode cX2_read 113 = .ok (.aload_n 0, 1) := by decide +kernel
theorem dX2_read_114 : decode cX2_read 114 = .ok (.aload_n 2, 1) := by decide +kernel
theorem dX2_read_115 : decode cX2_read 115 = .ok (.invokevirtual 49, 3) := by decide +kernel
theorem dX2_read_118 : decode cX2_read 118 = .ok (.iinc 4 1, 3) := by decide +kernel
theorem dX2_read_121 : decode cX2_read 121 = .ok (.goto (-78), 3) := by decide +kernel
theorem dX2_read_124 : decode cX2_read 124 = .ok (.aload_n 0, 1) := by decide +kernel
theorem dX2_read_125 : decode cX2_read 125 = .ok (.getfield 15, 3) := by decide +kernel
theorem dX2_read_128 : decode cX2_read 128 = .ok (.ireturn, 1) := by decide +kernel
theorem dX2_readHouse_0 : decode cX2_readHouse 0 = .ok (.aload_n 0, 1) := by decide +kernel
theorem dX2_readHouse_1 : decode cX2_readHouse 1 = .ok (.invokevirtual 53, 3) := by decide +kernel
theorem dX2_readHouse_4 : decode cX2_readHouse 4 = .ok (.invokestatic 56, 3) := by decide +kernel
theorem dX2_readHouse_7 : decode cX2_readHouse 7 = .ok (.istore_n 2, 1) := by decide +kernel
theorem dX2_readHouse_8 : decode cX2_readHouse 8 = .ok (.aload_n 0, 1) := by decide +kernel
theorem dX2_readHouse_9 : decode cX2_readHouse 9 = .ok (.aload_n 0, 1) := by decide +kernel
theorem dX2_readHouse_10 : decode cX2_readHouse 10 = .ok (.getfield 19, 3) := by decide +kernel
theorem dX2_readHouse_13 : decode cX2_readHouse 13 = .ok (.ifCond .eq 13, 3) := by decide +kernel
theorem dX2_readHouse_16 : decode cX2_readHouse 16 = .ok (.iload_n 2, 1) := by decide +kernel
theorem dX2_readHouse_17 : decode cX2_readHouse 17 = .ok (.bipush (-9), 2) := by decide +kernel
theorem dX2_readHouse_19 : decode cX2_readHouse 19 = .ok (.if_icmp .eq 7, 3) := by decide +kernel
theorem dX2_readHouse_22 : decode cX2_readHouse 22 = .ok (.iconst 1, 1) := by decide +kernel
theorem dX2_readHouse_23 : decode cX2_readHouse 23 = .ok (.goto 4, 3) := by decide +kernel
theorem dX2_readHouse_26 : decode cX2_readHouse 26 = .ok (.iconst 0, 1) := by decide +kernel
theorem dX2_readHouse_27 : decode cX2_readHouse 27 = .ok (.putfield 19, 3) := by decide +kernel
theorem dX2_readHouse_30 : decode cX2_readHouse 30 = .ok (.aload_n 0, 1) := by decide +kernel
theorem dX2_readHouse_31 : decode cX2_readHouse 31 = .ok (.dup, 1) := by decide +kernel
theorem dX2_readHouse_32 : decode cX2_readHouse 32 = .ok (.getfield 15, 3) := by decide +kernel
theorem dX2_readHouse_35 : decode cX2_readHouse 35 = .ok (.aload_n 0, 1) := by decide +kernel
theorem dX2_readHouse_36 : decode cX2_readHouse 36 = .ok (.getfield 19, 3) := by decide +kernel
theorem dX2_readHouse_39 : decode cX2_readHouse 39 = .ok (.ifCond .eq 7, 3) := by decide +kernel
theorem dX2_readHouse_42 : decode cX2_readHouse 42 = .ok (.iconst 1, 1) := by decide +kernel
theorem dX2_readHouse_43 : decode cX2_readHouse 43 = .ok (.goto 4, 3) := by decide +kernel
theorem dX2_readHouse_46 : decode cX2_readHouse 46 = .ok (.iconst 0, 1) := by decide +kernel
theorem dX2_readHouse_47 : decode cX2_readHouse 47 = .ok (.iadd, 1) := by decide +kernel
theorem dX2_readHouse_48 : decode cX2_readHouse 48 = .ok (.putfield 15, 3) := by decide +kernel
theorem dX2_readHouse_51 : decode cX2_readHouse 51 = .ok (.aload_n 0, 1) := by decide +kernel
theorem dX2_readHouse_52 : decode cX2_readHouse 52 = .ok (.invokevirtual 34, 3) := by decide +kernel
theorem dX2_readHouse_55 : decode cX2_readHouse 55 = .ok (.istore_n 3, 1) := by decide +kernel
theorem dX2_readHouse_56 : decode cX2_readHouse 56 = .ok (.aload_n 0, 1) := by decide +kernel
theorem dX2_readHouse_57 : decode cX2_readHouse 57 = .ok (.invokevirtual 34, 3) := by decide +kernel
theorem dX2_readHouse_60 : decode cX2_readHouse 60 = .ok (.istore 4, 2) := by decide +kernel
theorem dX2_readHouse_62 : decode cX2_readHouse 62 = .ok (.aload_n 0, 1) := by decide +kernel
theorem dX2_readHouse_63 : decode cX2_readHouse 63 = .ok (.getfield 19, 3) := by decide +kernel
theorem dX2_readHouse_66 : decode cX2_readHouse 66 = .ok (.ifCond .eq 11, 3) := by decide +kernel
theorem dX2_readHouse_69 : decode cX2_readHouse 69 = .ok (.aload_n 1, 1) := by decide +kernel
theorem dX2_readHouse_70 : decode cX2_readHouse 70 = .ok (.iload_n 2, 1) := by decide +kernel
theorem dX2_readHouse_71 : decode cX2_readHouse 71 = .ok (.iload_n 3, 1) := by decide +kernel
theorem dX2_readHouse_72 : decode cX2_readHouse 72 = .ok (.iload 4, 2) := by decide +kernel
theorem dX2_readHouse_74 : decode cX2_readHouse 74 = .ok (.invokevirtual 61, 3) := by decide +kernel
theorem dX2_readHouse_77 : decode cX2_readHouse 77 = .ok (.return_, 1) := by decide +kernel
theorem dX2_sign_0 : decode cX2_sign 0 = .ok (.aload_n 0, 1) := by decide +kernel
theorem dX2_sign_1 : decode cX2_sign 1 = .ok (.getfield 9, 3) := by decide +kernel
theorem dX2_sign_4 : decode cX2_sign 4 = .ok (.ifnonnull 7, 3) := by decide +kernel
theorem dX2_sign_7 : decode cX2_sign 7 = .ok (.iconst 0, 1) := by decide +kernel
theorem dX2_sign_8 : decode cX2_sign 8 = .ok (.goto 14, 3) := by decide +kernel
theorem dX2_sign_11 : decode cX2_sign 11 = .ok (.aload_n 0, 1) := by decide +kernel
theorem dX2_sign_12 : decode cX2_sign 12 = .ok (.getfield 9, 3) := by decide +kernel
theorem dX2_sign_15 : decode cX2_sign 15 = .ok (.aload_n 0, 1) := by decide +kernel
theorem dX2_sign_16 : decode cX2_sign 16 = .ok (.getfield 15, 3) := by decide +kernel
theorem dX2_sign_19 : decode cX2_sign 19 = .ok (.invokevirtual 65, 3) := by decide +kernel
theorem dX2_sign_22 : decode cX2_sign 22 = .ok (.ireturn, 1) := by decide +kernel
theorem dX2_skipBlanks_0 : decode cX2_skipBlanks 0 = .ok (.iconst 0, 1) := by decide +kernel
theorem dX2_skipBlanks_1 : decode cX2_skipBlanks 1 = .ok (.istore_n 1, 1) := by decide +kernel
theorem dX2_skipBlanks_2 : decode cX2_skipBlanks 2 = .ok (.iload_n 1, 1) := by decide +kernel
theorem dX2_skipBlanks_3 : decode cX2_skipBlanks 3 = .ok (.bipush 60, 2) := by decide +kernel
theorem dX2_skipBlanks_5 : decode cX2_skipBlanks 5 = .ok (.if_icmp .ge 28, 3) := by decide +kernel
theorem dX2_skipBlanks_8 : decode cX2_skipBlanks 8 = .ok (.aload_n 0, 1) := by decide +kernel
theorem dX2_skipBlanks_9 : decode cX2_skipBlanks 9 = .ok (.invokevirtual 53, 3) := by decide +kernel
theorem dX2_skipBlanks_12 : decode cX2_skipBlanks 12 = .ok (.bipush 32, 2) := by decide +kernel
theorem dX2_skipBlanks_14 : decode cX2_skipBlanks 14 = .ok (.if_icmp .ne 19, 3) := by decide +kernel
theorem dX2_skipBlanks_17 : decode cX2_skipBlanks 17 = .ok (.aload_n 0, 1) := by decide +kernel
theorem dX2_skipBlanks_18 : decode cX2_skipBlanks 18 = .ok (.dup, 1) := by decide +kernel
theorem dX2_skipBlanks_19 : decode cX2_skipBlanks 19 = .ok (.getfield 15, 3) := by decide +kernel
theorem dX2_skipBlanks_22 : decode cX2_skipBlanks 22 = .ok (.iconst 1, 1) := by decide +kernel
theorem dX2_skipBlanks_23 : decode cX2_skipBlanks 23 = .ok (.iadd, 1) := by decide +kernel
theorem dX2_skipBlanks_24 : decode cX2_skipBlanks 24 = .ok (.putfield 15, 3) := by decide +kernel
theorem dX2_skipBlanks_27 : decode cX2_skipBlanks 27 = .ok (.iinc 1 1, 3) := by decide +kernel
theorem dX2_skipBlanks_30 : decode cX2_skipBlanks 30 = .ok (.goto (-28), 3) := by decide +kernel
theorem dX2_skipBlanks_33 : decode cX2_skipBlanks 33 = .ok (.return_, 1) := by decide +kernel
theorem dX2_letter_0 : decode cX2_letter 0 = .ok (.aload_n 0, 1) := by decide +kernel
theorem dX2_letter_1 : decode cX2_letter 1 = .ok (.aload_n 0, 1) := by decide +kernel
theorem dX2_letter_2 : decode cX2_letter 2 = .ok (.getfield 19, 3) := by decide +kernel
theorem dX2_letter_5 : decode cX2_letter 5 = .ok (.ifCond .eq 15, 3) := by decide +kernel
theorem dX2_letter_8 : decode cX2_letter 8 = .ok (.aload_n 0, 1) := by decide +kernel
theorem dX2_letter_9 : decode cX2_letter 9 = .ok (.invokevirtual 53, 3) := by decide +kernel
theorem dX2_letter_12 : decode cX2_letter 12 = .ok (.iload_n 1, 1) := by decide +kernel
theorem dX2_letter_13 : decode cX2_letter 13 = .ok (.if_icmp .ne 7, 3) := by decide +kernel
theorem dX2_letter_16 : decode cX2_letter 16 = .ok (.iconst 1, 1) := by decide +kernel
theorem dX2_letter_17 : decode cX2_letter 17 = .ok (.goto 4, 3) := by decide +kernel
theorem dX2_letter_20 : decode cX2_letter 20 = .ok (.iconst 0, 1) := by decide +kernel
theorem dX2_letter_21 : decode cX2_letter 21 = .ok (.putfield 19, 3) := by decide +kernel
theorem dX2_letter_24 : decode cX2_letter 24 = .ok (.aload_n 0, 1) := by decide +kernel
theorem dX2_letter_25 : decode cX2_letter 25 = .ok (.dup, 1) := by decide +kernel
theorem dX2_letter_26 : decode cX2_letter 26 = .ok (.getfield 15, 3) := by decide +kernel
theorem dX2_letter_29 : decode cX2_letter 29 = .ok (.aload_n 0, 1) := by decide +kernel
theorem dX2_letter_30 : decode cX2_letter 30 = .ok (.getfield 19, 3) := by decide +kernel
theorem dX2_letter_33 : decode cX2_letter 33 = .ok (.ifCond .eq 7, 3) := by decide +kernel
theorem dX2_letter_36 : decode cX2_letter 36 = .ok (.iconst 1, 1) := by decide +kernel
theorem dX2_letter_37 : decode cX2_letter 37 = .ok (.goto 4, 3) := by decide +kernel
theorem dX2_letter_40 : decode cX2_letter 40 = .ok (.iconst 0, 1) := by decide +kernel
theorem dX2_letter_41 : decode cX2_letter 41 = .ok (.iadd, 1) := by decide +kernel
theorem dX2_letter_42 : decode cX2_letter 42 = .ok (.putfield 15, 3) := by decide +kernel
theorem dX2_letter_45 : decode cX2_letter 45 = .ok (.return_, 1) := by decide +kernel
theorem dX2_figure_0 : decode cX2_figure 0 = .ok (.aload_n 0, 1) := by decide +kernel
theorem dX2_figure_1 : decode cX2_figure 1 = .ok (.invokevirtual 53, 3) := by decide +kernel
theorem dX2_figure_4 : decode cX2_figure 4 = .ok (.bipush 48, 2) := by decide +kernel
theorem dX2_figure_6 : decode cX2_figure 6 = .ok (.isub, 1) := by decide +kernel
theorem dX2_figure_7 : decode cX2_figure 7 = .ok (.istore_n 2, 1) := by decide +kernel
theorem dX2_figure_8 : decode cX2_figure 8 = .ok (.aload_n 0, 1) := by decide +kernel
theorem dX2_figure_9 : decode cX2_figure 9 = .ok (.aload_n 0, 1) := by decide +kernel
theorem dX2_figure_10 : decode cX2_figure 10 = .ok (.getfield 19, 3) := by decide +kernel
theorem dX2_figure_13 : decode cX2_figure 13 = .ok (.ifCond .eq 16, 3) := by decide +kernel
theorem dX2_figure_16 : decode cX2_figure 16 = .ok (.iload_n 2, 1) := by decide +kernel
theorem dX2_figure_17 : decode cX2_figure 17 = .ok (.ifCond .lt 12, 3) := by decide +kernel
theorem dX2_figure_20 : decode cX2_figure 20 = .ok (.iload_n 2, 1) := by decide +kernel
theorem dX2_figure_21 : decode cX2_figure 21 = .ok (.iload_n 1, 1) := by decide +kernel
theorem dX2_figure_22 : decode cX2_figure 22 = .ok (.if_icmp .gt 7, 3) := by decide +kernel
theorem dX2_figure_25 : decode cX2_figure 25 = .ok (.iconst 1, 1) := by decide +kernel
theorem dX2_figure_26 : decode cX2_figure 26 = .ok (.goto 4, 3) := by decide +kernel
theorem dX2_figure_29 : decode cX2_figure 29 = .ok (.iconst 0, 1) := by decide +kernel
theorem dX2_figure_30 : decode cX2_figure 30 = .ok (.putfield 19, 3) := by decide +kernel
theorem dX2_figure_33 : decode cX2_figure 33 = .ok (.aload_n 0, 1) := by decide +kernel
theorem dX2_figure_34 : decode cX2_figure 34 = .ok (.dup, 1) := by decide +kernel
theorem dX2_figure_35 : decode cX2_figure 35 = .ok (.getfield 15, 3) := by decide +kernel
theorem dX2_figure_38 : decode cX2_figure 38 = .ok (.aload_n 0, 1) := by decide +kernel
theorem dX2_figure_39 : decode cX2_figure 39 = .ok (.getfield 19, 3) := by decide +kernel
theorem dX2_figure_42 : decode cX2_figure 42 = .ok (.ifCond .eq 7, 3) := by decide +kernel
theorem dX2_figure_45 : decode cX2_figure 45 = .ok (.iconst 1, 1) := by decide +kernel
theorem dX2_figure_46 : decode cX2_figure 46 = .ok (.goto 4, 3) := by decide +kernel
theorem dX2_figure_49 : decode cX2_figure 49 = .ok (.iconst 0, 1) := by decide +kernel
theorem dX2_figure_50 : decode cX2_figure 50 = .ok (.iadd, 1) := by decide +kernel
theorem dX2_figure_51 : decode cX2_figure 51 = .ok (.putfield 15, 3) := by decide +kernel
theorem dX2_figure_54 : decode cX2_figure 54 = .ok (.aload_n 0, 1) := by decide +kernel
theorem dX2_figure_55 : decode cX2_figure 55 = .ok (.getfield 19, 3) := by decide +kernel
theorem dX2_figure_58 : decode cX2_figure 58 = .ok (.ifCond .eq 7, 3) := by decide +kernel
theorem dX2_figure_61 : decode cX2_figure 61 = .ok (.iload_n 2, 1) := by decide +kernel
theorem dX2_figure_62 : decode cX2_figure 62 = .ok (.goto 4, 3) := by decide +kernel
theorem dX2_figure_65 : decode cX2_figure 65 = .ok (.iconst 0, 1) := by decide +kernel
theorem dX2_figure_66 : decode cX2_figure 66 = .ok (.ireturn, 1) := by decide +kernel
theorem dX2_twoFigures_0 : decode cX2_twoFigures 0 = .ok (.aload_n 0, 1) := by decide +kernel
theorem dX2_twoFigures_1 : decode cX2_twoFigures 1 = .ok (.bipush 9, 2) := by decide +kernel
theorem dX2_twoFigures_3 : decode cX2_twoFigures 3 = .ok (.invokevirtual 30, 3) := by decide +kernel
theorem dX2_twoFigures_6 : decode cX2_twoFigures 6 = .ok (.istore_n 1, 1) := by decide +kernel
theorem dX2_twoFigures_7 : decode cX2_twoFigures 7 = .ok (.bipush 10, 2) := by decide +kernel
theorem dX2_twoFigures_9 : decode cX2_twoFigures 9 = .ok (.iload_n 1, 1) := by decide +kernel
theorem dX2_twoFigures_10 : decode cX2_twoFigures 10 = .ok (.imul, 1) := by decide +kernel
theorem dX2_twoFigures_11 : decode cX2_twoFigures 11 = .ok (.aload_n 0, 1) := by decide +kernel
theorem dX2_twoFigures_12 : decode cX2_twoFigures 12 = .ok (.bipush 9, 2) := by decide +kernel
theorem dX2_twoFigures_14 : decode cX2_twoFigures 14 = .ok (.invokevirtual 30, 3) := by decide +kernel
theorem dX2_twoFigures_17 : decode cX2_twoFigures 17 = .ok (.iadd, 1) := by decide +kernel
theorem dX2_twoFigures_18 : decode cX2_twoFigures 18 = .ok (.ireturn, 1) := by decide +kernel
theorem dX3_init_0 : decode cX3_init 0 = .ok (.aload_n 0, 1) := by decide +kernel
theorem dX3_init_1 : decode cX3_init 1 = .ok (.invokespecial 3, 3) := by decide +kernel
theorem dX3_init_4 : decode cX3_init 4 = .ok (.aload_n 0, 1) := by decide +kernel
theorem dX3_init_5 : decode cX3_init 5 = .ok (.new 9, 3) := by decide +kernel
theorem dX3_init_8 : decode cX3_init 8 = .ok (.dup, 1) := by decide +kernel
theorem dX3_init_9 : decode cX3_init 9 = .ok (.sipush 384, 3) := by decide +kernel
theorem dX3_init_12 : decode cX3_init 12 = .ok (.invokespecial 11, 3) := by decide +kernel
theorem dX3_init_15 : decode cX3_init 15 = .ok (.putfield 14, 3) := by decide +kernel
theorem dX3_init_18 : decode cX3_init 18 = .ok (.aload_n 0, 1) := by decide +kernel
theorem dX3_init_19 : decode cX3_init 19 = .ok (.new 9, 3) := by decide +kernel
theorem dX3_init_22 : decode cX3_init 22 = .ok (.dup, 1) := by decide +kernel
theorem dX3_init_23 : decode cX3_init 23 = .ok (.bipush 6, 2) := by decide +kernel
theorem dX3_init_25 : decode cX3_init 25 = .ok (.invokespecial 11, 3) := by decide +kernel
theorem dX3_init_28 : decode cX3_init 28 = .ok (.putfield 20, 3) := by decide +kernel
theorem dX3_init_31 : decode cX3_init 31 = .ok (.aload_n 0, 1) := by decide +kernel
theorem dX3_init_32 : decode cX3_init 32 = .ok (.new 9, 3) := by decide +kernel
theorem dX3_init_35 : decode cX3_init 35 = .ok (.dup, 1) := by decide +kernel
theorem dX3_init_36 : decode cX3_init 36 = .ok (.bipush 6, 2) := by decide +kernel
theorem dX3_init_38 : decode cX3_init 38 = .ok (.invokespecial 11, 3) := by decide +kernel
theorem dX3_init_41 : decode cX3_init 41 = .ok (.putfield 23, 3) := by decide +kernel
theorem dX3_init_44 : decode cX3_init 44 = .ok (.aload_n 0, 1) := by decide +kernel
theorem dX3_init_45 : decode cX3_init 45 = .ok (.new 9, 3) := by decide +kernel
theorem dX3_init_48 : decode cX3_init 48 = .ok (.dup, 1) := by decide +kernel
theorem dX3_init_49 : decode cX3_init 49 = .ok (.bipush 6, 2) := by decide +kernel
theorem dX3_init_51 : decode cX3_init 51 = .ok (.invokespecial 11, 3) := by decide +kernel
theorem dX3_init_54 : decode cX3_init 54 = .ok (.putfield 26, 3) := by decide +kernel
theorem dX3_init_57 : decode cX3_init 57 = .ok (.aload_n 0, 1) := by decide +kernel
theorem dX3_init_58 : decode cX3_init 58 = .ok (.new 9, 3) := by decide +kernel
theorem dX3_init_61 : decode cX3_init 61 = .ok (.dup, 1) := by decide +kernel
theorem dX3_init_62 : decode cX3_init 62 = .ok (.bipush 6, 2) := by decide +kernel
theorem dX3_init_64 : decode cX3_init 64 = .ok (.invokespecial 11, 3) := by decide +kernel
theorem dX3_init_67 : decode cX3_init 67 = .ok (.putfield 29, 3) := by decide +kernel
theorem dX3_init_70 : decode cX3_init 70 = .ok (.return_, 1) := by decide +kernel
theorem dX3_start_0 : decode cX3_start 0 = .ok (.aload_n 0, 1) := by decide +kernel
theorem dX3_start_1 : decode cX3_start 1 = .ok (.getfield 23, 3) := by decide +kernel
theorem dX3_start_4 : decode cX3_start 4 = .ok (.aload_n 1, 1) := by decide +kernel
theorem dX3_start_5 : decode cX3_start 5 = .ok (.getfield 32, 3) := by decide +kernel
theorem dX3_start_8 : decode cX3_start 8 = .ok (.iconst 0, 1) := by decide +kernel
theorem dX3_start_9 : decode cX3_start 9 = .ok (.invokevirtual 38, 3) := by decide +kernel
theorem dX3_start_12 : decode cX3_start 12 = .ok (.aload_n 0, 1) := by decide +kernel
theorem dX3_start_13 : decode cX3_start 13 = .ok (.getfield 26, 3) := by decide +kernel
theorem dX3_start_16 : decode cX3_start 16 = .ok (.aload_n 1, 1) := by decide +kernel
theorem dX3_start_17 : decode cX3_start 17 = .ok (.getfield 32, 3) := by decide +kernel
theorem dX3_start_20 : decode cX3_start 20 = .ok (.iconst 0, 1) := by decide +kernel
theorem dX3_start_21 : decode cX3_start 21 = .ok (.invokevirtual 38, 3) := by decide +kernel
theorem dX3_start_24 : decode cX3_start 24 = .ok (.iconst 0, 1) := by decide +kernel
theorem dX3_start_25 : decode cX3_start 25 = .ok (.istore_n 2, 1) := by decide +kernel
theorem dX3_start_26 : decode cX3_start 26 = .ok (.iload_n 2, 1) := by decide +kernel
theorem dX3_start_27 : decode cX3_start 27 = .ok (.aload_n 1, 1) := by decide +kernel
theorem dX3_start_28 : decode cX3_start 28 = .ok (.getfield 32, 3) := by decide +kernel
theorem dX3_start_31 : decode cX3_start 31 = .ok (.if_icmp .ge 43, 3) := by decide +kernel
theorem dX3_start_34 : decode cX3_start 34 = .ok (.aload_n 0, 1) := by decide +kernel
theorem dX3_start_35 : decode cX3_start 35 = .ok (.getfield 23, 3) := by decide +kernel
theorem dX3_start_38 : decode cX3_start 38 = .ok (.iload_n 2, 1) := by decide +kernel
theorem dX3_start_39 : decode cX3_start 39 = .ok (.aload_n 1, 1) := by decide +kernel
theorem dX3_start_40 : decode cX3_start 40 = .ok (.iload_n 2, 1) := by decide +kernel
theorem dX3_start_41 : decode cX3_start 41 = .ok (.invokevirtual 42, 3) := by decide +kernel
theorem dX3_start_44 : decode cX3_start 44 = .ok (.invokevirtual 45, 3) := by decide +kernel
theorem dX3_start_47 : decode cX3_start 47 = .ok (.aload_n 0, 1) := by decide +kernel
theorem dX3_start_48 : decode cX3_start 48 = .ok (.getfield 26, 3) := by decide +kernel
theorem dX3_start_51 : decode cX3_start 51 = .ok (.iload_n 2, 1) := by decide +kernel
theorem dX3_start_52 : decode cX3_start 52 = .ok (.aload_n 1, 1) := by decide +kernel
theorem dX3_start_53 : decode cX3_start 53 = .ok (.getfield 48, 3) := by decide +kernel
theorem dX3_start_56 : decode cX3_start 56 = .ok (.iload_n 2, 1) := by decide +kernel
theorem dX3_start_57 : decode cX3_start 57 = .ok (.invokevirtual 51, 3) := by decide +kernel
theorem dX3_start_60 : decode cX3_start 60 = .ok (.aload_n 1, 1) := by decide +kernel
theorem dX3_start_61 : decode cX3_start 61 = .ok (.getfield 54, 3) := by decide +kernel
theorem dX3_start_64 : decode cX3_start 64 = .ok (.isub, 1) := by decide +kernel
theorem dX3_start_65 : decode cX3_start 65 = .ok (.invokevirtual 45, 3) := by decide +kernel
theorem dX3_start_68 : decode cX3_start 68 = .ok (.iinc 2 1, 3) := by decide +kernel
theorem dX3_start_71 : decode cX3_start 71 = .ok (.goto (-45), 3) := by decide +kernel
theorem dX3_start_74 : decode cX3_start 74 = .ok (.return_, 1) := by decide +kernel
theorem dX3_walkOver_0 : decode cX3_walkOver 0 = .ok (.bipush 6, 2) := by decide +kernel
theorem dX3_walkOver_2 : decode cX3_walkOver 2 = .ok (.istore_n 2, 1) := by decide +kernel
theorem dX3_walkOver_3 : decode cX3_walkOver 3 = .ok (.iconst 0, 1) := by decide +kernel
theorem dX3_walkOver_4 : decode cX3_walkOver 4 = .ok (.istore_n 3, 1) := by decide +kernel
theorem dX3_walkOver_5 : decode cX3_walkOver 5 = .ok (.iconst 0, 1) := by decide +kernel
theorem dX3_walkOver_6 : decode cX3_walkOver 6 = .ok (.istore 4, 2) := by decide +kernel
theorem dX3_walkOver_8 : decode cX3_walkOver 8 = .ok (.iload 4, 2) := by decide +kernel
theorem dX3_walkOver_10 : decode cX3_walkOver 10 = .ok (.bipush 6, 2) := by decide +kernel
theorem dX3_walkOver_12 : decode cX3_walkOver 12 = .ok (.if_icmp .ge 28, 3) := by decide +kernel
theorem dX3_walkOver_15 : decode cX3_walkOver 15 = .ok (.iload_n 0, 1) := by decide +kernel
theorem dX3_walkOver_16 : decode cX3_walkOver 16 = .ok (.iload 4, 2) := by decide +kernel
theorem dX3_walkOver_18 : decode cX3_walkOver 18 = .ok (.invokestatic 57, 3) := by decide +kernel
theorem dX3_walkOver_21 : decode cX3_walkOver 21 = .ok (.ifCond .eq 13, 3) := by decide +kernel
theorem dX3_walkOver_24 : decode cX3_walkOver 24 = .ok (.iload_n 2, 1) := by decide +kernel
theorem dX3_walkOver_25 : decode cX3_walkOver 25 = .ok (.iload 4, 2) := by decide +kernel
theorem dX3_walkOver_27 : decode cX3_walkOver 27 = .ok (.invokestatic 61, 3) := by decide +kernel
theorem dX3_walkOver_30 : decode cX3_walkOver 30 = .ok (.istore_n 2, 1) := by decide +kernel
theorem dX3_walkOver_31 : decode cX3_walkOver 31 = .ok (.iload 4, 2) := by decide +kernel
theorem dX3_walkOver_33 : decode cX3_walkOver 33 = .ok (.istore_n 3, 1) := by decide +kernel
theorem dX3_walkOver_34 : decode cX3_walkOver 34 = .ok (.iinc 4 1, 3) := by decide +kernel
theorem dX3_walkOver_37 : decode cX3_walkOver 37 = .ok (.goto (-29), 3) := by decide +kernel
theorem dX3_walkOver_40 : decode cX3_walkOver 40 = .ok (.iload_n 1, 1) := by decide +kernel
theorem dX3_walkOver_41 : decode cX3_walkOver 41 = .ok (.iload_n 2, 1) := by decide +kernel
theorem dX3_walkOver_42 : decode cX3_walkOver 42 = .ok (.isub, 1) := by decide +kernel
theorem dX3_walkOver_43 : decode cX3_walkOver 43 = .ok (.invokestatic 67, 3) := by decide +kernel
theorem dX3_walkOver_46 : decode cX3_walkOver 46 = .ok (.iload_n 1, 1) := by decide +kernel
theorem dX3_walkOver_47 : decode cX3_walkOver 47 = .ok (.iload_n 3, 1) := by decide +kernel
theorem dX3_walkOver_48 : decode cX3_walkOver 48 = .ok (.isub, 1) := by decide +kernel
theorem dX3_walkOver_49 : decode cX3_walkOver 49 = .ok (.invokestatic 67, 3) := by decide +kernel
theorem dX3_walkOver_52 : decode cX3_walkOver 52 = .ok (.invokestatic 61, 3) := by decide +kernel
theorem dX3_walkOver_55 : decode cX3_walkOver 55 = .ok (.istore 4, 2) := by decide +kernel
theorem dX3_walkOver_57 : decode cX3_walkOver 57 = .ok (.iload_n 0, 1) := by decide +kernel
theorem dX3_walkOver_58 : decode cX3_walkOver 58 = .ok (.ifCond .ne 7, 3) := by decide +kernel
theorem dX3_walkOver_61 : decode cX3_walkOver 61 = .ok (.iconst 0, 1) := by decide +kernel
theorem dX3_walkOver_62 : decode cX3_walkOver 62 = .ok (.goto 9, 3) := by decide +kernel
theorem dX3_walkOver_65 : decode cX3_walkOver 65 = .ok (.iload_n 3, 1) := by decide +kernel
theorem dX3_walkOver_66 : decode cX3_walkOver 66 = .ok (.iload_n 2, 1) := by decide +kernel
theorem dX3_walkOver_67 : decode cX3_walkOver 67 = .ok (.isub, 1) := by decide +kernel
theorem dX3_walkOver_68 : decode cX3_walkOver 68 = .ok (.iload 4, 2) := by decide +kernel
theorem dX3_walkOver_70 : decode cX3_walkOver 70 = .ok (.iadd, 1) := by decide +kernel
theorem dX3_walkOver_71 : decode cX3_walkOver 71 = .ok (.ireturn, 1) := by decide +kernel
theorem dX3_fewest_0 : decode cX3_fewest 0 = .ok (.aload_n 0, 1) := by decide +kernel
theorem dX3_fewest_1 : decode cX3_fewest 1 = .ok (.aload_n 1, 1) := by decide +kernel
theorem dX3_fewest_2 : decode cX3_fewest 2 = .ok (.invokevirtual 70, 3) := by decide +kernel
theorem dX3_fewest_5 : decode cX3_fewest 5 = .ok (.aload_n 1, 1) := by decide +kernel
theorem dX3_fewest_6 : decode cX3_fewest 6 = .ok (.iload_n 2, 1) := by decide +kernel
theorem dX3_fewest_7 : decode cX3_fewest 7 = .ok (.invokevirtual 74, 3) := by decide +kernel
theorem dX3_fewest_10 : decode cX3_fewest 10 = .ok (.istore_n 3, 1) := by decide +kernel
theorem dX3_fewest_11 : decode cX3_fewest 11 = .ok (.sipush 1000, 3) := by decide +kernel
theorem dX3_fewest_14 : decode cX3_fewest 14 = .ok (.istore 4, 2) := by decide +kernel
theorem dX3_fewest_16 : decode cX3_fewest 16 = .ok (.aload_n 0, 1) := by decide +kernel
theorem dX3_fewest_17 : decode cX3_fewest 17 = .ok (.iload 4, 2) := by decide +kernel
theorem dX3_fewest_19 : decode cX3_fewest 19 = .ok (.putfield 77, 3) := by decide +kernel
theorem dX3_fewest_22 : decode cX3_fewest 22 = .ok (.aload_n 0, 1) := by decide +kernel
theorem dX3_fewest_23 : decode cX3_fewest 23 = .ok (.getfield 20, 3) := by decide +kernel
theorem dX3_fewest_26 : decode cX3_fewest 26 = .ok (.iload_n 2, 1) := by decide +kernel
theorem dX3_fewest_27 : decode cX3_fewest 27 = .ok (.invokestatic 80, 3) := by decide +kernel
theorem dX3_fewest_30 : decode cX3_fewest 30 = .ok (.iconst 0, 1) := by decide +kernel
theorem dX3_fewest_31 : decode cX3_fewest 31 = .ok (.invokevirtual 38, 3) := by decide +kernel
theorem dX3_fewest_34 : decode cX3_fewest 34 = .ok (.aload_n 0, 1) := by decide +kernel
theorem dX3_fewest_35 : decode cX3_fewest 35 = .ok (.iconst 0, 1) := by decide +kernel
theorem dX3_fewest_36 : decode cX3_fewest 36 = .ok (.iload_n 2, 1) := by decide +kernel
theorem dX3_fewest_37 : decode cX3_fewest 37 = .ok (.aload_n 1, 1) := by decide +kernel
theorem dX3_fewest_38 : decode cX3_fewest 38 = .ok (.getfield 85, 3) := by decide +kernel
theorem dX3_fewest_41 : decode cX3_fewest 41 = .ok (.iconst 0, 1) := by decide +kernel
theorem dX3_fewest_42 : decode cX3_fewest 42 = .ok (.iconst 0, 1) := by decide +kernel
theorem dX3_fewest_43 : decode cX3_fewest 43 = .ok (.invokestatic 88, 3) := by decide +kernel
theorem dX3_fewest_46 : decode cX3_fewest 46 = .ok (.aload_n 0, 1) := by decide +kernel
theorem dX3_fewest_47 : decode cX3_fewest 47 = .ok (.getfield 77, 3) := by decide +kernel
theorem dX3_fewest_50 : decode cX3_fewest 50 = .ok (.iload 4, 2) := by decide +kernel
theorem dX3_fewest_52 : decode cX3_fewest 52 = .ok (.if_icmp .ne 8, 3) := by decide +kernel
theorem dX3_fewest_55 : decode cX3_fewest 55 = .ok (.bipush (-9), 2) := by decide +kernel
theorem dX3_fewest_57 : decode cX3_fewest 57 = .ok (.goto 9, 3) := by decide +kernel
theorem dX3_fewest_60 : decode cX3_fewest 60 = .ok (.aload_n 0, 1) := by decide +kernel
theorem dX3_fewest_61 : decode cX3_fewest 61 = .ok (.getfield 77, 3) := by decide +kernel
theorem dX3_fewest_64 : decode cX3_fewest 64 = .ok (.iload_n 3, 1) := by decide +kernel
theorem dX3_fewest_65 : decode cX3_fewest 65 = .ok (.iadd, 1) := by decide +kernel
theorem dX3_fewest_66 : decode cX3_fewest 66 = .ok (.ireturn, 1) := by decide +kernel
theorem dX3_seek_0 : decode cX3_seek 0 = .ok (.iload_n 1, 1) := by decide +kernel
theorem dX3_seek_1 : decode cX3_seek 1 = .ok (.bipush 6, 2) := by decide +kernel
theorem dX3_seek_3 : decode cX3_seek 3 = .ok (.if_icmp .gt 18, 3) := by decide +kernel
theorem dX3_seek_6 : decode cX3_seek 6 = .ok (.iload 5, 2) := by decide +kernel
theorem dX3_seek_8 : decode cX3_seek 8 = .ok (.iload_n 2, 1) := by decide +kernel
theorem dX3_seek_9 : decode cX3_seek 9 = .ok (.iload_n 3, 1) := by decide +kernel
theorem dX3_seek_10 : decode cX3_seek 10 = .ok (.invokestatic 92, 3) := by decide +kernel
theorem dX3_seek_13 : decode cX3_seek 13 = .ok (.iadd, 1) := by decide +kernel
theorem dX3_seek_14 : decode cX3_seek 14 = .ok (.aload_n 0, 1) := by decide +kernel
theorem dX3_seek_15 : decode cX3_seek 15 = .ok (.getfield 77, 3) := by decide +kernel
theorem dX3_seek_18 : decode cX3_seek 18 = .ok (.if_icmp .lt 4, 3) := by decide +kernel
theorem dX3_seek_21 : decode cX3_seek 21 = .ok (.return_, 1) := by decide +kernel
theorem dX3_seek_22 : decode cX3_seek 22 = .ok (.iload_n 2, 1) := by decide +kernel
theorem dX3_seek_23 : decode cX3_seek 23 = .ok (.ifCond .ne 21, 3) := by decide +kernel
theorem dX3_seek_26 : decode cX3_seek 26 = .ok (.aload_n 0, 1) := by decide +kernel
theorem dX3_seek_27 : decode cX3_seek 27 = .ok (.iload 5, 2) := by decide +kernel
theorem dX3_seek_29 : decode cX3_seek 29 = .ok (.putfield 77, 3) := by decide +kernel
theorem dX3_seek_32 : decode cX3_seek 32 = .ok (.aload_n 0, 1) := by decide +kernel
theorem dX3_seek_33 : decode cX3_seek 33 = .ok (.getfield 29, 3) := by decide +kernel
theorem dX3_seek_36 : decode cX3_seek 36 = .ok (.aload_n 0, 1) := by decide +kernel
theorem dX3_seek_37 : decode cX3_seek 37 = .ok (.getfield 20, 3) := by decide +kernel
theorem dX3_seek_40 : decode cX3_seek 40 = .ok (.invokevirtual 95, 3) := by decide +kernel
theorem dX3_seek_43 : decode cX3_seek 43 = .ok (.return_, 1) := by decide +kernel
theorem dX3_seek_44 : decode cX3_seek 44 = .ok (.iconst 0, 1) := by decide +kernel
theorem dX3_seek_45 : decode cX3_seek 45 = .ok (.istore 6, 2) := by decide +kernel
theorem dX3_seek_47 : decode cX3_seek 47 = .ok (.iload 6, 2) := by decide +kernel
theorem dX3_seek_49 : decode cX3_seek 49 = .ok (.bipush 6, 2) := by decide +kernel
theorem dX3_seek_51 : decode cX3_seek 51 = .ok (.if_icmp .ge 92, 3) := by decide +kernel
theorem dX3_seek_54 : decode cX3_seek 54 = .ok (.iload 6, 2) := by decide +kernel
theorem dX3_seek_56 : decode cX3_seek 56 = .ok (.iload_n 3, 1) := by decide +kernel
theorem dX3_seek_57 : decode cX3_seek 57 = .ok (.isub, 1) := by decide +kernel
theorem dX3_seek_58 : decode cX3_seek 58 = .ok (.invokestatic 67, 3) := by decide +kernel
theorem dX3_seek_61 : decode cX3_seek 61 = .ok (.istore 7, 2) := by decide +kernel
theorem dX3_seek_63 : decode cX3_seek 63 = .ok (.iload 4, 2) := by decide +kernel
theorem dX3_seek_65 : decode cX3_seek 65 = .ok (.iload 7, 2) := by decide +kernel
theorem dX3_seek_67 : decode cX3_seek 67 = .ok (.iadd, 1) := by decide +kernel
theorem dX3_seek_68 : decode cX3_seek 68 = .ok (.aload_n 0, 1) := by decide +kernel
theorem dX3_seek_69 : decode cX3_seek 69 = .ok (.getfield 23, 3) := by decide +kernel
theorem dX3_seek_72 : decode cX3_seek 72 = .ok (.iload 6, 2) := by decide +kernel
theorem dX3_seek_74 : decode cX3_seek 74 = .ok (.invokevirtual 51, 3) := by decide +kernel
theorem dX3_seek_77 : decode cX3_seek 77 = .ok (.iadd, 1) := by decide +kernel
theorem dX3_seek_78 : decode cX3_seek 78 = .ok (.istore 8, 2) := by decide +kernel
theorem dX3_seek_80 : decode cX3_seek 80 = .ok (.iload_n 2, 1) := by decide +kernel
theorem dX3_seek_81 : decode cX3_seek 81 = .ok (.iload 6, 2) := by decide +kernel
theorem dX3_seek_83 : decode cX3_seek 83 = .ok (.invokestatic 57, 3) := by decide +kernel
theorem dX3_seek_86 : decode cX3_seek 86 = .ok (.ifCond .eq 51, 3) := by decide +kernel
theorem dX3_seek_89 : decode cX3_seek 89 = .ok (.iload 8, 2) := by decide +kernel
theorem dX3_seek_91 : decode cX3_seek 91 = .ok (.aload_n 0, 1) := by decide +kernel
theorem dX3_seek_92 : decode cX3_seek 92 = .ok (.getfield 26, 3) := by decide +kernel
theorem dX3_seek_95 : decode cX3_seek 95 = .ok (.iload 6, 2) := by decide +kernel
theorem dX3_seek_97 : decode cX3_seek 97 = .ok (.invokevirtual 51, 3) := by decide +kernel
theorem dX3_seek_100 : decode cX3_seek 100 = .ok (.if_icmp .gt 37, 3) := by decide +kernel
theorem dX3_seek_103 : decode cX3_seek 103 = .ok (.aload_n 0, 1) := by decide +kernel
theorem dX3_seek_104 : decode cX3_seek 104 = .ok (.getfield 20, 3) := by decide +kernel
theorem dX3_seek_107 : decode cX3_seek 107 = .ok (.iload_n 1, 1) := by decide +kernel
theorem dX3_seek_108 : decode cX3_seek 108 = .ok (.iload 6, 2) := by decide +kernel
theorem dX3_seek_110 : decode cX3_seek 110 = .ok (.invokevirtual 45, 3) := by decide +kernel
theorem dX3_seek_113 : decode cX3_seek 113 = .ok (.aload_n 0, 1) := by decide +kernel
theorem dX3_seek_114 : decode cX3_seek 114 = .ok (.iload_n 1, 1) := by decide +kernel
theorem dX3_seek_115 : decode cX3_seek 115 = .ok (.iconst 1, 1) := by decide +kernel
theorem dX3_seek_116 : decode cX3_seek 116 = .ok (.iadd, 1) := by decide +kernel
theorem dX3_seek_117 : decode cX3_seek 117 = .ok (.iload_n 2, 1) := by decide +kernel
theorem dX3_seek_118 : decode cX3_seek 118 = .ok (.iconst 1, 1) := by decide +kernel
theorem dX3_seek_119 : decode cX3_seek 119 = .ok (.iload 6, 2) := by decide +kernel
theorem dX3_seek_121 : decode cX3_seek 121 = .ok (.ishl, 1) := by decide +kernel
theorem dX3_seek_122 : decode cX3_seek 122 = .ok (.iconst (-1), 1) := by decide +kernel
theorem dX3_seek_123 : decode cX3_seek 123 = .ok (.ixor, 1) := by decide +kernel
theorem dX3_seek_124 : decode cX3_seek 124 = .ok (.iand, 1) := by decide +kernel
theorem dX3_seek_125 : decode cX3_seek 125 = .ok (.iload 6, 2) := by decide +kernel
theorem dX3_seek_127 : decode cX3_seek 127 = .ok (.iload 8, 2) := by decide +kernel
theorem dX3_seek_129 : decode cX3_seek 129 = .ok (.iload 5, 2) := by decide +kernel
theorem dX3_seek_131 : decode cX3_seek 131 = .ok (.iload 7, 2) := by decide +kernel
theorem dX3_seek_133 : decode cX3_seek 133 = .ok (.iadd, 1) := by decide +kernel
theorem dX3_seek_134 : decode cX3_seek 134 = .ok (.invokestatic 88, 3) := by decide +kernel
theorem dX3_seek_137 : decode cX3_seek 137 = .ok (.iinc 6 1, 3) := by decide +kernel
theorem dX3_seek_140 : decode cX3_seek 140 = .ok (.goto (-93), 3) := by decide +kernel
theorem dX3_seek_143 : decode cX3_seek 143 = .ok (.return_, 1) := by decide +kernel
theorem dX3_greatest_0 : decode cX3_greatest 0 = .ok (.aload_n 0, 1) := by decide +kernel
theorem dX3_greatest_1 : decode cX3_greatest 1 = .ok (.aload_n 1, 1) := by decide +kernel
theorem dX3_greatest_2 : decode cX3_greatest 2 = .ok (.invokevirtual 70, 3) := by decide +kernel
theorem dX3_greatest_5 : decode cX3_greatest 5 = .ok (.aload_n 0, 1) := by decide +kernel
theorem dX3_greatest_6 : decode cX3_greatest 6 = .ok (.getfield 14, 3) := by decide +kernel
theorem dX3_greatest_9 : decode cX3_greatest 9 = .ok (.bipush 6, 2) := by decide +kernel
theorem dX3_greatest_11 : decode cX3_greatest 11 = .ok (.aload_n 1, 1) := by decide +kernel
theorem dX3_greatest_12 : decode cX3_greatest 12 = .ok (.getfield 32, 3) := by decide +kernel
theorem dX3_greatest_15 : decode cX3_greatest 15 = .ok (.ishl, 1) := by decide +kernel
theorem dX3_greatest_16 : decode cX3_greatest 16 = .ok (.bipush (-9), 2) := by decide +kernel
theorem dX3_greatest_18 : decode cX3_greatest 18 = .ok (.invokevirtual 38, 3) := by decide +kernel
theorem dX3_greatest_21 : decode cX3_greatest 21 = .ok (.iconst 0, 1) := by decide +kernel
theorem dX3_greatest_22 : decode cX3_greatest 22 = .ok (.istore_n 2, 1) := by decide +kernel
theorem dX3_greatest_23 : decode cX3_greatest 23 = .ok (.iconst 1, 1) := by decide +kernel
theorem dX3_greatest_24 : decode cX3_greatest 24 = .ok (.istore_n 3, 1) := by decide +kernel
theorem dX3_greatest_25 : decode cX3_greatest 25 = .ok (.iload_n 3, 1) := by decide +kernel
theorem dX3_greatest_26 : decode cX3_greatest 26 = .ok (.iconst 1, 1) := by decide +kernel
theorem dX3_greatest_27 : decode cX3_greatest 27 = .ok (.aload_n 1, 1) := by decide +kernel
theorem dX3_greatest_28 : decode cX3_greatest 28 = .ok (.getfield 32, 3) := by decide +kernel
theorem dX3_greatest_31 : decode cX3_greatest 31 = .ok (.ishl, 1) := by decide +kernel
theorem dX3_greatest_32 : decode cX3_greatest 32 = .ok (.if_icmp .ge 114, 3) := by decide +kernel
theorem dX3_greatest_35 : decode cX3_greatest 35 = .ok (.iconst 0, 1) := by decide +kernel
theorem dX3_greatest_36 : decode cX3_greatest 36 = .ok (.istore 4, 2) := by decide +kernel
theorem dX3_greatest_38 : decode cX3_greatest 38 = .ok (.iconst 0, 1) := by decide +kernel
theorem dX3_greatest_39 : decode cX3_greatest 39 = .ok (.istore 5, 2) := by decide +kernel
theorem dX3_greatest_41 : decode cX3_greatest 41 = .ok (.iload 5, 2) := by decide +kernel
theorem dX3_greatest_43 : decode cX3_greatest 43 = .ok (.aload_n 1, 1) := by decide +kernel
theorem dX3_greatest_44 : decode cX3_greatest 44 = .ok (.getfield 32, 3) := by decide +kernel
theorem dX3_greatest_47 : decode cX3_greatest 47 = .ok (.if_icmp .ge 71, 3) := by decide +kernel
theorem dX3_greatest_50 : decode cX3_greatest 50 = .ok (.iload_n 3, 1) := by decide +kernel
theorem dX3_greatest_51 : decode cX3_greatest 51 = .ok (.iload 5, 2) := by decide +kernel
theorem dX3_greatest_53 : decode cX3_greatest 53 = .ok (.invokestatic 57, 3) := by decide +kernel
theorem dX3_greatest_56 : decode cX3_greatest 56 = .ok (.ifCond .eq 17, 3) := by decide +kernel
theorem dX3_greatest_59 : decode cX3_greatest 59 = .ok (.aload_n 0, 1) := by decide +kernel
theorem dX3_greatest_60 : decode cX3_greatest 60 = .ok (.iload_n 3, 1) := by decide +kernel
theorem dX3_greatest_61 : decode cX3_greatest 61 = .ok (.iload 5, 2) := by decide +kernel
theorem dX3_greatest_63 : decode cX3_greatest 63 = .ok (.aload_n 1, 1) := by decide +kernel
theorem dX3_greatest_64 : decode cX3_greatest 64 = .ok (.getfield 85, 3) := by decide +kernel
theorem dX3_greatest_67 : decode cX3_greatest 67 = .ok (.invokevirtual 99, 3) := by decide +kernel
theorem dX3_greatest_70 : decode cX3_greatest 70 = .ok (.goto 5, 3) := by decide +kernel
theorem dX3_greatest_73 : decode cX3_greatest 73 = .ok (.bipush (-9), 2) := by decide +kernel
theorem dX3_greatest_75 : decode cX3_greatest 75 = .ok (.istore 6, 2) := by decide +kernel
theorem dX3_greatest_77 : decode cX3_greatest 77 = .ok (.aload_n 0, 1) := by decide +kernel
theorem dX3_greatest_78 : decode cX3_greatest 78 = .ok (.getfield 14, 3) := by decide +kernel
theorem dX3_greatest_81 : decode cX3_greatest 81 = .ok (.iload_n 3, 1) := by decide +kernel
theorem dX3_greatest_82 : decode cX3_greatest 82 = .ok (.bipush 6, 2) := by decide +kernel
theorem dX3_greatest_84 : decode cX3_greatest 84 = .ok (.imul, 1) := by decide +kernel
theorem dX3_greatest_85 : decode cX3_greatest 85 = .ok (.iload 5, 2) := by decide +kernel
theorem dX3_greatest_87 : decode cX3_greatest 87 = .ok (.iadd, 1) := by decide +kernel
theorem dX3_greatest_88 : decode cX3_greatest 88 = .ok (.iload 6, 2) := by decide +kernel
theorem dX3_greatest_90 : decode cX3_greatest 90 = .ok (.invokevirtual 45, 3) := by decide +kernel
theorem dX3_greatest_93 : decode cX3_greatest 93 = .ok (.iload 4, 2) := by decide +kernel
theorem dX3_greatest_95 : decode cX3_greatest 95 = .ok (.ifCond .ne 10, 3) := by decide +kernel
theorem dX3_greatest_98 : decode cX3_greatest 98 = .ok (.iload 6, 2) := by decide +kernel
theorem dX3_greatest_100 : decode cX3_greatest 100 = .ok (.bipush (-9), 2) := by decide +kernel
theorem dX3_greatest_102 : decode cX3_greatest 102 = .ok (.if_icmp .eq 7, 3) := by decide +kernel
theorem dX3_greatest_105 : decode cX3_greatest 105 = .ok (.iconst 1, 1) := by decide +kernel
theorem dX3_greatest_106 : decode cX3_greatest 106 = .ok (.goto 4, 3) := by decide +kernel
theorem dX3_greatest_109 : decode cX3_greatest 109 = .ok (.iconst 0, 1) := by decide +kernel
theorem dX3_greatest_110 : decode cX3_greatest 110 = .ok (.istore 4, 2) := by decide +kernel
theorem dX3_greatest_112 : decode cX3_greatest 112 = .ok (.iinc 5 1, 3) := by decide +kernel
theorem dX3_greatest_115 : decode cX3_greatest 115 = .ok (.goto (-74), 3) := by decide +kernel
theorem dX3_greatest_118 : decode cX3_greatest 118 = .ok (.iload 4, 2) := by decide +kernel
theorem dX3_greatest_120 : decode cX3_greatest 120 = .ok (.ifCond .eq 18, 3) := by decide +kernel
theorem dX3_greatest_123 : decode cX3_greatest 123 = .ok (.iload_n 3, 1) := by decide +kernel
theorem dX3_greatest_124 : decode cX3_greatest 124 = .ok (.invokestatic 80, 3) := by decide +kernel
theorem dX3_greatest_127 : decode cX3_greatest 127 = .ok (.iload_n 2, 1) := by decide +kernel
theorem dX3_greatest_128 : decode cX3_greatest 128 = .ok (.invokestatic 80, 3) := by decide +kernel
theorem dX3_greatest_131 : decode cX3_greatest 131 = .ok (.if_icmp .le 7, 3) := by decide +kernel
theorem dX3_greatest_134 : decode cX3_greatest 134 = .ok (.iload_n 3, 1) := by decide +kernel
theorem dX3_greatest_135 : decode cX3_greatest 135 = .ok (.goto 4, 3) := by decide +kernel
theorem dX3_greatest_138 : decode cX3_greatest 138 = .ok (.iload_n 2, 1) := by decide +kernel
theorem dX3_greatest_139 : decode cX3_greatest 139 = .ok (.istore_n 2, 1) := by decide +kernel
theorem dX3_greatest_140 : decode cX3_greatest 140 = .ok (.iinc 3 1, 3) := by decide +kernel
theorem dX3_greatest_143 : decode cX3_greatest 143 = .ok (.goto (-118), 3) := by decide +kernel
theorem dX3_greatest_146 : decode cX3_greatest 146 = .ok (.iload_n 2, 1) := by decide +kernel
theorem dX3_greatest_147 : decode cX3_greatest 147 = .ok (.ireturn, 1) := by decide +kernel
theorem dX3_endAt_0 : decode cX3_endAt 0 = .ok (.aload_n 0, 1) := by decide +kernel
theorem dX3_endAt_1 : decode cX3_endAt 1 = .ok (.getfield 23, 3) := by decide +kernel
theorem dX3_endAt_4 : decode cX3_endAt 4 = .ok (.iload_n 2, 1) := by decide +kernel
theorem dX3_endAt_5 : decode cX3_endAt 5 = .ok (.invokevirtual 51, 3) := by decide +kernel
theorem dX3_endAt_8 : decode cX3_endAt 8 = .ok (.ifCond .gt 6, 3) := by decide +kernel
theorem dX3_endAt_11 : decode cX3_endAt 11 = .ok (.bipush (-9), 2) := by decide +kernel
theorem dX3_endAt_13 : decode cX3_endAt 13 = .ok (.ireturn, 1) := by decide +kernel
theorem dX3_endAt_14 : decode cX3_endAt 14 = .ok (.iload_n 1, 1) := by decide +kernel
theorem dX3_endAt_15 : decode cX3_endAt 15 = .ok (.iconst 1, 1) := by decide +kernel
theorem dX3_endAt_16 : decode cX3_endAt 16 = .ok (.iload_n 2, 1) := by decide +kernel
theorem dX3_endAt_17 : decode cX3_endAt 17 = .ok (.ishl, 1) := by decide +kernel
theorem dX3_endAt_18 : decode cX3_endAt 18 = .ok (.iconst (-1), 1) := by decide +kernel
theorem dX3_endAt_19 : decode cX3_endAt 19 = .ok (.ixor, 1) := by decide +kernel
theorem dX3_endAt_20 : decode cX3_endAt 20 = .ok (.iand, 1) := by decide +kernel
theorem dX3_endAt_21 : decode cX3_endAt 21 = .ok (.istore 4, 2) := by decide +kernel
theorem dX3_endAt_23 : decode cX3_endAt 23 = .ok (.iload 4, 2) := by decide +kernel
theorem dX3_endAt_25 : decode cX3_endAt 25 = .ok (.ifCond .ne 12, 3) := by decide +kernel
theorem dX3_endAt_28 : decode cX3_endAt 28 = .ok (.iload_n 2, 1) := by decide +kernel
theorem dX3_endAt_29 : decode cX3_endAt 29 = .ok (.iload_n 3, 1) := by decide +kernel
theorem dX3_endAt_30 : decode cX3_endAt 30 = .ok (.isub, 1) := by decide +kernel
theorem dX3_endAt_31 : decode cX3_endAt 31 = .ok (.invokestatic 67, 3) := by decide +kernel
theorem dX3_endAt_34 : decode cX3_endAt 34 = .ok (.goto 5, 3) := by decide +kernel
theorem dX3_endAt_37 : decode cX3_endAt 37 = .ok (.bipush (-9), 2) := by decide +kernel
theorem dX3_endAt_39 : decode cX3_endAt 39 = .ok (.istore 5, 2) := by decide +kernel
theorem dX3_endAt_41 : decode cX3_endAt 41 = .ok (.iconst 0, 1) := by decide +kernel
theorem dX3_endAt_42 : decode cX3_endAt 42 = .ok (.istore 6, 2) := by decide +kernel
theorem dX3_endAt_44 : decode cX3_endAt 44 = .ok (.iload 6, 2) := by decide +kernel
theorem dX3_endAt_46 : decode cX3_endAt 46 = .ok (.bipush 6, 2) := by decide +kernel
theorem dX3_endAt_48 : decode cX3_endAt 48 = .ok (.if_icmp .ge 78, 3) := by decide +kernel
theorem dX3_endAt_51 : decode cX3_endAt 51 = .ok (.iload 4, 2) := by decide +kernel
theorem dX3_endAt_53 : decode cX3_endAt 53 = .ok (.iload 6, 2) := by decide +kernel
theorem dX3_endAt_55 : decode cX3_endAt 55 = .ok (.invokestatic 57, 3) := by decide +kernel
theorem dX3_endAt_58 : decode cX3_endAt 58 = .ok (.ifCond .eq 21, 3) := by decide +kernel
theorem dX3_endAt_61 : decode cX3_endAt 61 = .ok (.aload_n 0, 1) := by decide +kernel
theorem dX3_endAt_62 : decode cX3_endAt 62 = .ok (.getfield 14, 3) := by decide +kernel
theorem dX3_endAt_65 : decode cX3_endAt 65 = .ok (.iload 4, 2) := by decide +kernel
theorem dX3_endAt_67 : decode cX3_endAt 67 = .ok (.bipush 6, 2) := by decide +kernel
theorem dX3_endAt_69 : decode cX3_endAt 69 = .ok (.imul, 1) := by decide +kernel
theorem dX3_endAt_70 : decode cX3_endAt 70 = .ok (.iload 6, 2) := by decide +kernel
theorem dX3_endAt_72 : decode cX3_endAt 72 = .ok (.iadd, 1) := by decide +kernel
theorem dX3_endAt_73 : decode cX3_endAt 73 = .ok (.invokevirtual 51, 3) := by decide +kernel
theorem dX3_endAt_76 : decode cX3_endAt 76 = .ok (.goto 5, 3) := by decide +kernel
theorem dX3_endAt_79 : decode cX3_endAt 79 = .ok (.bipush (-9), 2) := by decide +kernel
theorem dX3_endAt_81 : decode cX3_endAt 81 = .ok (.istore 7, 2) := by decide +kernel
theorem dX3_endAt_83 : decode cX3_endAt 83 = .ok (.iload 7, 2) := by decide +kernel
theorem dX3_endAt_85 : decode cX3_endAt 85 = .ok (.iload_n 2, 1) := by decide +kernel
theorem dX3_endAt_86 : decode cX3_endAt 86 = .ok (.iload 6, 2) := by decide +kernel
theorem dX3_endAt_88 : decode cX3_endAt 88 = .ok (.isub, 1) := by decide +kernel
theorem dX3_endAt_89 : decode cX3_endAt 89 = .ok (.invokestatic 67, 3) := by decide +kernel
theorem dX3_endAt_92 : decode cX3_endAt 92 = .ok (.iadd, 1) := by decide +kernel
theorem dX3_endAt_93 : decode cX3_endAt 93 = .ok (.istore 8, 2) := by decide +kernel
theorem dX3_endAt_95 : decode cX3_endAt 95 = .ok (.iload 7, 2) := by decide +kernel
theorem dX3_endAt_97 : decode cX3_endAt 97 = .ok (.bipush (-9), 2) := by decide +kernel
theorem dX3_endAt_99 : decode cX3_endAt 99 = .ok (.if_icmp .eq 21, 3) := by decide +kernel
theorem dX3_endAt_102 : decode cX3_endAt 102 = .ok (.iload 5, 2) := by decide +kernel
theorem dX3_endAt_104 : decode cX3_endAt 104 = .ok (.bipush (-9), 2) := by decide +kernel
theorem dX3_endAt_106 : decode cX3_endAt 106 = .ok (.if_icmp .eq 10, 3) := by decide +kernel
theorem dX3_endAt_109 : decode cX3_endAt 109 = .ok (.iload 8, 2) := by decide +kernel
theorem dX3_endAt_111 : decode cX3_endAt 111 = .ok (.iload 5, 2) := by decide +kernel
theorem dX3_endAt_113 : decode cX3_endAt 113 = .ok (.if_icmp .ge 7, 3) := by decide +kernel
theorem dX3_endAt_116 : decode cX3_endAt 116 = .ok (.iload 8, 2) := by decide +kernel
theorem dX3_endAt_118 : decode cX3_endAt 118 = .ok (.istore 5, 2) := by decide +kernel
theorem dX3_endAt_120 : decode cX3_endAt 120 = .ok (.iinc 6 1, 3) := by decide +kernel
theorem dX3_endAt_123 : decode cX3_endAt 123 = .ok (.goto (-79), 3) := by decide +kernel
theorem dX3_endAt_126 : decode cX3_endAt 126 = .ok (.iload 5, 2) := by decide +kernel
theorem dX3_endAt_128 : decode cX3_endAt 128 = .ok (.bipush (-9), 2) := by decide +kernel
theorem dX3_endAt_130 : decode cX3_endAt 130 = .ok (.if_icmp .eq 29, 3) := by decide +kernel
theorem dX3_endAt_133 : decode cX3_endAt 133 = .ok (.iload 5, 2) := by decide +kernel
theorem dX3_endAt_135 : decode cX3_endAt 135 = .ok (.aload_n 0, 1) := by decide +kernel
theorem dX3_endAt_136 : decode cX3_endAt 136 = .ok (.getfield 23, 3) := by decide +kernel
theorem dX3_endAt_139 : decode cX3_endAt 139 = .ok (.iload_n 2, 1) := by decide +kernel
theorem dX3_endAt_140 : decode cX3_endAt 140 = .ok (.invokevirtual 51, 3) := by decide +kernel
theorem dX3_endAt_143 : decode cX3_endAt 143 = .ok (.iadd, 1) := by decide +kernel
theorem dX3_endAt_144 : decode cX3_endAt 144 = .ok (.aload_n 0, 1) := by decide +kernel
theorem dX3_endAt_145 : decode cX3_endAt 145 = .ok (.getfield 26, 3) := by decide +kernel
theorem dX3_endAt_148 : decode cX3_endAt 148 = .ok (.iload_n 2, 1) := by decide +kernel
theorem dX3_endAt_149 : decode cX3_endAt 149 = .ok (.invokevirtual 51, 3) := by decide +kernel
theorem dX3_endAt_152 : decode cX3_endAt 152 = .ok (.if_icmp .gt 7, 3) := by decide +kernel
theorem dX3_endAt_155 : decode cX3_endAt 155 = .ok (.iconst 1, 1) := by decide +kernel
theorem dX3_endAt_156 : decode cX3_endAt 156 = .ok (.goto 4, 3) := by decide +kernel
theorem dX3_endAt_159 : decode cX3_endAt 159 = .ok (.iconst 0, 1) := by decide +kernel
theorem dX3_endAt_160 : decode cX3_endAt 160 = .ok (.istore 6, 2) := by decide +kernel
theorem dX3_endAt_162 : decode cX3_endAt 162 = .ok (.iload 6, 2) := by decide +kernel
theorem dX3_endAt_164 : decode cX3_endAt 164 = .ok (.ifCond .eq 17, 3) := by decide +kernel
theorem dX3_endAt_167 : decode cX3_endAt 167 = .ok (.iload 5, 2) := by decide +kernel
theorem dX3_endAt_169 : decode cX3_endAt 169 = .ok (.aload_n 0, 1) := by decide +kernel
theorem dX3_endAt_170 : decode cX3_endAt 170 = .ok (.getfield 23, 3) := by decide +kernel
theorem dX3_endAt_173 : decode cX3_endAt 173 = .ok (.iload_n 2, 1) := by decide +kernel
theorem dX3_endAt_174 : decode cX3_endAt 174 = .ok (.invokevirtual 51, 3) := by decide +kernel
theorem dX3_endAt_177 : decode cX3_endAt 177 = .ok (.iadd, 1) := by decide +kernel
theorem dX3_endAt_178 : decode cX3_endAt 178 = .ok (.goto 5, 3) := by decide +kernel
theorem dX3_endAt_181 : decode cX3_endAt 181 = .ok (.bipush (-9), 2) := by decide +kernel
theorem dX3_endAt_183 : decode cX3_endAt 183 = .ok (.ireturn, 1) := by decide +kernel
theorem dX4_init_0 : decode cX4_init 0 = .ok (.aload_n 0, 1) := by decide +kernel
theorem dX4_init_1 : decode cX4_init 1 = .ok (.invokespecial 3, 3) := by decide +kernel
theorem dX4_init_4 : decode cX4_init 4 = .ok (.aload_n 0, 1) := by decide +kernel
theorem dX4_init_5 : decode cX4_init 5 = .ok (.new 9, 3) := by decide +kernel
theorem dX4_init_8 : decode cX4_init 8 = .ok (.dup, 1) := by decide +kernel
theorem dX4_init_9 : decode cX4_init 9 = .ok (.bipush 6, 2) := by decide +kernel
theorem dX4_init_11 : decode cX4_init 11 = .ok (.invokespecial 11, 3) := by decide +kernel
theorem dX4_init_14 : decode cX4_init 14 = .ok (.putfield 14, 3) := by decide +kernel
theorem dX4_init_17 : decode cX4_init 17 = .ok (.aload_n 0, 1) := by decide +kernel
theorem dX4_init_18 : decode cX4_init 18 = .ok (.new 9, 3) := by decide +kernel
theorem dX4_init_21 : decode cX4_init 21 = .ok (.dup, 1) := by decide +kernel
theorem dX4_init_22 : decode cX4_init 22 = .ok (.bipush 6, 2) := by decide +kernel
theorem dX4_init_24 : decode cX4_init 24 = .ok (.invokespecial 11, 3) := by decide +kernel
theorem dX4_init_27 : decode cX4_init 27 = .ok (.putfield 20, 3) := by decide +kernel
theorem dX4_init_30 : decode cX4_init 30 = .ok (.aload_n 0, 1) := by decide +kernel
theorem dX4_init_31 : decode cX4_init 31 = .ok (.new 9, 3) := by decide +kernel
theorem dX4_init_34 : decode cX4_init 34 = .ok (.dup, 1) := by decide +kernel
theorem dX4_init_35 : decode cX4_init 35 = .ok (.bipush 6, 2) := by decide +kernel
theorem dX4_init_37 : decode cX4_init 37 = .ok (.invokespecial 11, 3) := by decide +kernel
theorem dX4_init_40 : decode cX4_init 40 = .ok (.putfield 23, 3) := by decide +kernel
theorem dX4_init_43 : decode cX4_init 43 = .ok (.aload_n 0, 1) := by decide +kernel
theorem dX4_init_44 : decode cX4_init 44 = .ok (.new 9, 3) := by decide +kernel
theorem dX4_init_47 : decode cX4_init 47 = .ok (.dup, 1) := by decide +kernel
theorem dX4_init_48 : decode cX4_init 48 = .ok (.bipush 6, 2) := by decide +kernel
theorem dX4_init_50 : decode cX4_init 50 = .ok (.invokespecial 11, 3) := by decide +kernel
theorem dX4_init_53 : decode cX4_init 53 = .ok (.putfield 26, 3) := by decide +kernel
theorem dX4_init_56 : decode cX4_init 56 = .ok (.aload_n 0, 1) := by decide +kernel
theorem dX4_init_57 : decode cX4_init 57 = .ok (.new 9, 3) := by decide +kernel
theorem dX4_init_60 : decode cX4_init 60 = .ok (.dup, 1) := by decide +kernel
theorem dX4_init_61 : decode cX4_init 61 = .ok (.bipush 6, 2) := by decide +kernel
theorem dX4_init_63 : decode cX4_init 63 = .ok (.invokespecial 11, 3) := by decide +kernel
theorem dX4_init_66 : decode cX4_init 66 = .ok (.putfield 29, 3) := by decide +kernel
theorem dX4_init_69 : decode cX4_init 69 = .ok (.aload_n 0, 1) := by decide +kernel
theorem dX4_init_70 : decode cX4_init 70 = .ok (.new 9, 3) := by decide +kernel
theorem dX4_init_73 : decode cX4_init 73 = .ok (.dup, 1) := by decide +kernel
theorem dX4_init_74 : decode cX4_init 74 = .ok (.bipush 6, 2) := by decide +kernel
theorem dX4_init_76 : decode cX4_init 76 = .ok (.invokespecial 11, 3) := by decide +kernel
theorem dX4_init_79 : decode cX4_init 79 = .ok (.putfield 32, 3) := by decide +kernel
theorem dX4_init_82 : decode cX4_init 82 = .ok (.aload_n 0, 1) := by decide +kernel
theorem dX4_init_83 : decode cX4_init 83 = .ok (.new 9, 3) := by decide +kernel
theorem dX4_init_86 : decode cX4_init 86 = .ok (.dup, 1) := by decide +kernel
theorem dX4_init_87 : decode cX4_init 87 = .ok (.bipush 40, 2) := by decide +kernel
theorem dX4_init_89 : decode cX4_init 89 = .ok (.invokespecial 11, 3) := by decide +kernel
theorem dX4_init_92 : decode cX4_init 92 = .ok (.putfield 35, 3) := by decide +kernel
theorem dX4_init_95 : decode cX4_init 95 = .ok (.aload_n 0, 1) := by decide +kernel
theorem dX4_init_96 : decode cX4_init 96 = .ok (.getfield 35, 3) := by decide +kernel
theorem dX4_init_99 : decode cX4_init 99 = .ok (.iconst 0, 1) := by decide +kernel
theorem dX4_init_100 : decode cX4_init 100 = .ok (.iconst 0, 1) := by decide +kernel
theorem dX4_init_101 : decode cX4_init 101 = .ok (.invokevirtual 38, 3) := by decide +kernel
theorem dX4_init_104 : decode cX4_init 104 = .ok (.return_, 1) := by decide +kernel
theorem dX4_begin_0 : decode cX4_begin 0 = .ok (.aload_n 0, 1) := by decide +kernel
theorem dX4_begin_1 : decode cX4_begin 1 = .ok (.iconst 0, 1) := by decide +kernel
theorem dX4_begin_2 : decode cX4_begin 2 = .ok (.putfield 42, 3) := by decide +kernel
theorem dX4_begin_5 : decode cX4_begin 5 = .ok (.aload_n 0, 1) := by decide +kernel
theorem dX4_begin_6 : decode cX4_begin 6 = .ok (.iload_n 1, 1) := by decide +kernel
theorem dX4_begin_7 : decode cX4_begin 7 = .ok (.putfield 46, 3) := by decide +kernel
theorem dX4_begin_10 : decode cX4_begin 10 = .ok (.aload_n 0, 1) := by decide +kernel
theorem dX4_begin_11 : decode cX4_begin 11 = .ok (.iload_n 2, 1) := by decide +kernel
theorem dX4_begin_12 : decode cX4_begin 12 = .ok (.putfield 49, 3) := by decide +kernel
theorem dX4_begin_15 : decode cX4_begin 15 = .ok (.aload_n 0, 1) := by decide +kernel
theorem dX4_begin_16 : decode cX4_begin 16 = .ok (.getfield 14, 3) := by decide +kernel
theorem dX4_begin_19 : decode cX4_begin 19 = .ok (.iconst 0, 1) := by decide +kernel
theorem dX4_begin_20 : decode cX4_begin 20 = .ok (.iconst 0, 1) := by decide +kernel
theorem dX4_begin_21 : decode cX4_begin 21 = .ok (.invokevirtual 38, 3) := by decide +kernel
theorem dX4_begin_24 : decode cX4_begin 24 = .ok (.aload_n 0, 1) := by decide +kernel
theorem dX4_begin_25 : decode cX4_begin 25 = .ok (.getfield 20, 3) := by decide +kernel
theorem dX4_begin_28 : decode cX4_begin 28 = .ok (.iconst 0, 1) := by decide +kernel
theorem dX4_begin_29 : decode cX4_begin 29 = .ok (.iconst 0, 1) := by decide +kernel
theorem dX4_begin_30 : decode cX4_begin 30 = .ok (.invokevirtual 38, 3) := by decide +kernel
theorem dX4_begin_33 : decode cX4_begin 33 = .ok (.aload_n 0, 1) := by decide +kernel
theorem dX4_begin_34 : decode cX4_begin 34 = .ok (.getfield 23, 3) := by decide +kernel
theorem dX4_begin_37 : decode cX4_begin 37 = .ok (.iconst 0, 1) := by decide +kernel
theorem dX4_begin_38 : decode cX4_begin 38 = .ok (.iconst 0, 1) := by decide +kernel
theorem dX4_begin_39 : decode cX4_begin 39 = .ok (.invokevirtual 38, 3) := by decide +kernel
theorem dX4_begin_42 : decode cX4_begin 42 = .ok (.return_, 1) := by decide +kernel
theorem dX4_build_0 : decode cX4_build 0 = .ok (.aload_n 0, 1) := by decide +kernel
theorem dX4_build_1 : decode cX4_build 1 = .ok (.getfield 14, 3) := by decide +kernel
theorem dX4_build_4 : decode cX4_build 4 = .ok (.iload_n 1, 1) := by decide +kernel
theorem dX4_build_5 : decode cX4_build 5 = .ok (.invokevirtual 52, 3) := by decide +kernel
theorem dX4_build_8 : decode cX4_build 8 = .ok (.aload_n 0, 1) := by decide +kernel
theorem dX4_build_9 : decode cX4_build 9 = .ok (.getfield 23, 3) := by decide +kernel
theorem dX4_build_12 : decode cX4_build 12 = .ok (.iload_n 2, 1) := by decide +kernel
theorem dX4_build_13 : decode cX4_build 13 = .ok (.invokevirtual 52, 3) := by decide +kernel
theorem dX4_build_16 : decode cX4_build 16 = .ok (.aload_n 0, 1) := by decide +kernel
theorem dX4_build_17 : decode cX4_build 17 = .ok (.getfield 20, 3) := by decide +kernel
theorem dX4_build_20 : decode cX4_build 20 = .ok (.iload_n 3, 1) := by decide +kernel
theorem dX4_build_21 : decode cX4_build 21 = .ok (.invokevirtual 52, 3) := by decide +kernel
theorem dX4_build_24 : decode cX4_build 24 = .ok (.aload_n 0, 1) := by decide +kernel
theorem dX4_build_25 : decode cX4_build 25 = .ok (.aload_n 0, 1) := by decide +kernel
theorem dX4_build_26 : decode cX4_build 26 = .ok (.getfield 14, 3) := by decide +kernel
theorem dX4_build_29 : decode cX4_build 29 = .ok (.getfield 55, 3) := by decide +kernel
theorem dX4_build_32 : decode cX4_build 32 = .ok (.putfield 42, 3) := by decide +kernel
theorem dX4_build_35 : decode cX4_build 35 = .ok (.return_, 1) := by decide +kernel
theorem dX4_sleep_0 : decode cX4_sleep 0 = .ok (.aload_n 0, 1) := by decide +kernel
theorem dX4_sleep_1 : decode cX4_sleep 1 = .ok (.getfield 29, 3) := by decide +kernel
theorem dX4_sleep_4 : decode cX4_sleep 4 = .ok (.aload_n 0, 1) := by decide +kernel
theorem dX4_sleep_5 : decode cX4_sleep 5 = .ok (.getfield 42, 3) := by decide +kernel
theorem dX4_sleep_8 : decode cX4_sleep 8 = .ok (.iconst 0, 1) := by decide +kernel
theorem dX4_sleep_9 : decode cX4_sleep 9 = .ok (.invokevirtual 38, 3) := by decide +kernel
theorem dX4_sleep_12 : decode cX4_sleep 12 = .ok (.aload_n 0, 1) := by decide +kernel
theorem dX4_sleep_13 : decode cX4_sleep 13 = .ok (.getfield 32, 3) := by decide +kernel
theorem dX4_sleep_16 : decode cX4_sleep 16 = .ok (.aload_n 0, 1) := by decide +kernel
theorem dX4_sleep_17 : decode cX4_sleep 17 = .ok (.getfield 42, 3) := by decide +kernel
theorem dX4_sleep_20 : decode cX4_sleep 20 = .ok (.bipush (-9), 2) := by decide +kernel
theorem dX4_sleep_22 : decode cX4_sleep 22 = .ok (.invokevirtual 38, 3) := by decide +kernel
theorem dX4_sleep_25 : decode cX4_sleep 25 = .ok (.aload_n 0, 1) := by decide +kernel
theorem dX4_sleep_26 : decode cX4_sleep 26 = .ok (.iconst 0, 1) := by decide +kernel
theorem dX4_sleep_27 : decode cX4_sleep 27 = .ok (.putfield 56, 3) := by decide +kernel
theorem dX4_sleep_30 : decode cX4_sleep 30 = .ok (.aload_n 0, 1) := by decide +kernel
theorem dX4_sleep_31 : decode cX4_sleep 31 = .ok (.iconst 0, 1) := by decide +kernel
theorem dX4_sleep_32 : decode cX4_sleep 32 = .ok (.putfield 59, 3) := by decide +kernel
theorem dX4_sleep_35 : decode cX4_sleep 35 = .ok (.return_, 1) := by decide +kernel
theorem dX4_replay_0 : decode cX4_replay 0 = .ok (.aload_n 0, 1) := by decide +kernel
theorem dX4_replay_1 : decode cX4_replay 1 = .ok (.getfield 26, 3) := by decide +kernel
theorem dX4_replay_4 : decode cX4_replay 4 = .ok (.aload_n 0, 1) := by decide +kernel
theorem dX4_replay_5 : decode cX4_replay 5 = .ok (.getfield 23, 3) := by decide +kernel
theorem dX4_replay_8 : decode cX4_replay 8 = .ok (.invokevirtual 62, 3) := by decide +kernel
theorem dX4_replay_11 : decode cX4_replay 11 = .ok (.aload_n 0, 1) := by decide +kernel
theorem dX4_replay_12 : decode cX4_replay 12 = .ok (.aload_n 0, 1) := by decide +kernel
theorem dX4_replay_13 : decode cX4_replay 13 = .ok (.getfield 46, 3) := by decide +kernel
theorem dX4_replay_16 : decode cX4_replay 16 = .ok (.putfield 66, 3) := by decide +kernel
theorem dX4_replay_19 : decode cX4_replay 19 = .ok (.aload_n 0, 1) := by decide +kernel
theorem dX4_replay_20 : decode cX4_replay 20 = .ok (.iconst 0, 1) := by decide +kernel
theorem dX4_replay_21 : decode cX4_replay 21 = .ok (.putfield 69, 3) := by decide +kernel
theorem dX4_replay_24 : decode cX4_replay 24 = .ok (.aload_n 0, 1) := by decide +kernel
theorem dX4_replay_25 : decode cX4_replay 25 = .ok (.iconst 0, 1) := by decide +kernel
theorem dX4_replay_26 : decode cX4_replay 26 = .ok (.putfield 72, 3) := by decide +kernel
theorem dX4_replay_29 : decode cX4_replay 29 = .ok (.aload_n 0, 1) := by decide +kernel
theorem dX4_replay_30 : decode cX4_replay 30 = .ok (.invokevirtual 75, 3) := by decide +kernel
theorem dX4_replay_33 : decode cX4_replay 33 = .ok (.iconst 0, 1) := by decide +kernel
theorem dX4_replay_34 : decode cX4_replay 34 = .ok (.istore_n 1, 1) := by decide +kernel
theorem dX4_replay_35 : decode cX4_replay 35 = .ok (.iload_n 1, 1) := by decide +kernel
theorem dX4_replay_36 : decode cX4_replay 36 = .ok (.aload_n 0, 1) := by decide +kernel
theorem dX4_replay_37 : decode cX4_replay 37 = .ok (.getfield 35, 3) := by decide +kernel
theorem dX4_replay_40 : decode cX4_replay 40 = .ok (.getfield 55, 3) := by decide +kernel
theorem dX4_replay_43 : decode cX4_replay 43 = .ok (.if_icmp .ge 21, 3) := by decide +kernel
theorem dX4_replay_46 : decode cX4_replay 46 = .ok (.aload_n 0, 1) := by decide +kernel
theorem dX4_replay_47 : decode cX4_replay 47 = .ok (.aload_n 0, 1) := by decide +kernel
theorem dX4_replay_48 : decode cX4_replay 48 = .ok (.getfield 35, 3) := by decide +kernel
theorem dX4_replay_51 : decode cX4_replay 51 = .ok (.iload_n 1, 1) := by decide +kernel
theorem dX4_replay_52 : decode cX4_replay 52 = .ok (.invokevirtual 78, 3) := by decide +kernel
theorem dX4_replay_55 : decode cX4_replay 55 = .ok (.invokevirtual 82, 3) := by decide +kernel
theorem dX4_replay_58 : decode cX4_replay 58 = .ok (.iinc 1 1, 3) := by decide +kernel
theorem dX4_replay_61 : decode cX4_replay 61 = .ok (.goto (-26), 3) := by decide +kernel
theorem dX4_replay_64 : decode cX4_replay 64 = .ok (.return_, 1) := by decide +kernel
theorem dX4_does_0 : decode cX4_does 0 = .ok (.iload_n 1, 1) := by decide +kernel
theorem dX4_does_1 : decode cX4_does 1 = .ok (.sipush 1000, 3) := by decide +kernel
theorem dX4_does_4 : decode cX4_does 4 = .ok (.imul, 1) := by decide +kernel
theorem dX4_does_5 : decode cX4_does 5 = .ok (.iload_n 2, 1) := by decide +kernel
theorem dX4_does_6 : decode cX4_does 6 = .ok (.bipush 100, 2) := by decide +kernel
theorem dX4_does_8 : decode cX4_does 8 = .ok (.imul, 1) := by decide +kernel
theorem dX4_does_9 : decode cX4_does 9 = .ok (.iadd, 1) := by decide +kernel
theorem dX4_does_10 : decode cX4_does 10 = .ok (.iload_n 3, 1) := by decide +kernel
theorem dX4_does_11 : decode cX4_does 11 = .ok (.iadd, 1) := by decide +kernel
theorem dX4_does_12 : decode cX4_does 12 = .ok (.istore 4, 2) := by decide +kernel
theorem dX4_does_14 : decode cX4_does 14 = .ok (.aload_n 0, 1) := by decide +kernel
theorem dX4_does_15 : decode cX4_does 15 = .ok (.getfield 35, 3) := by decide +kernel
theorem dX4_does_18 : decode cX4_does 18 = .ok (.iload 4, 2) := by decide +kernel
theorem dX4_does_20 : decode cX4_does 20 = .ok (.invokevirtual 52, 3) := by decide +kernel
theorem dX4_does_23 : decode cX4_does 23 = .ok (.aload_n 0, 1) := by decide +kernel
theorem dX4_does_24 : decode cX4_does 24 = .ok (.iload 4, 2) := by decide +kernel
theorem dX4_does_26 : decode cX4_does 26 = .ok (.invokevirtual 82, 3) := by decide +kernel
theorem dX4_does_29 : decode cX4_does 29 = .ok (.return_, 1) := by decide +kernel
theorem dX4_doesByLot_0 : decode cX4_doesByLot 0 = .ok (.aload_n 0, 1) := by decide +kernel
theorem dX4_doesByLot_1 : decode cX4_doesByLot 1 = .ok (.getfield 42, 3) := by decide +kernel
theorem dX4_doesByLot_4 : decode cX4_doesByLot 4 = .ok (.ifCond .le 12, 3) := by decide +kernel
theorem dX4_doesByLot_7 : decode cX4_doesByLot 7 = .ok (.iload_n 1, 1) := by decide +kernel
theorem dX4_doesByLot_8 : decode cX4_doesByLot 8 = .ok (.aload_n 0, 1) := by decide +kernel
theorem dX4_doesByLot_9 : decode cX4_doesByLot 9 = .ok (.getfield 42, 3) := by decide +kernel
theorem dX4_doesByLot_12 : decode cX4_doesByLot 12 = .ok (.irem, 1) := by decide +kernel
theorem dX4_doesByLot_13 : decode cX4_doesByLot 13 = .ok (.goto 4, 3) := by decide +kernel
theorem dX4_doesByLot_16 : decode cX4_doesByLot 16 = .ok (.iconst 0, 1) := by decide +kernel
theorem dX4_doesByLot_17 : decode cX4_doesByLot 17 = .ok (.istore_n 2, 1) := by decide +kernel
theorem dX4_doesByLot_18 : decode cX4_doesByLot 18 = .ok (.iload_n 1, 1) := by decide +kernel
theorem dX4_doesByLot_19 : decode cX4_doesByLot 19 = .ok (.bipush 8, 2) := by decide +kernel
theorem dX4_doesByLot_21 : decode cX4_doesByLot 21 = .ok (.idiv, 1) := by decide +kernel
theorem dX4_doesByLot_22 : decode cX4_doesByLot 22 = .ok (.bipush 8, 2) := by decide +kernel
theorem dX4_doesByLot_24 : decode cX4_doesByLot 24 = .ok (.irem, 1) := by decide +kernel
theorem dX4_doesByLot_25 : decode cX4_doesByLot 25 = .ok (.istore_n 3, 1) := by decide +kernel
theorem dX4_doesByLot_26 : decode cX4_doesByLot 26 = .ok (.iload_n 3, 1) := by decide +kernel
theorem dX4_doesByLot_27 : decode cX4_doesByLot 27 = .ok (.iconst 1, 1) := by decide +kernel
theorem dX4_doesByLot_28 : decode cX4_doesByLot 28 = .ok (.if_icmp .gt 13, 3) := by decide +kernel
theorem dX4_doesByLot_31 : decode cX4_doesByLot 31 = .ok (.aload_n 0, 1) := by decide +kernel
theorem dX4_doesByLot_32 : decode cX4_doesByLot 32 = .ok (.iconst 0, 1) := by decide +kernel
theorem dX4_doesByLot_33 : decode cX4_doesByLot 33 = .ok (.iload_n 2, 1) := by decide +kernel
theorem dX4_doesByLot_34 : decode cX4_doesByLot 34 = .ok (.iconst 0, 1) := by decide +kernel
theorem dX4_doesByLot_35 : decode cX4_doesByLot 35 = .ok (.invokevirtual 85, 3) := by decide +kernel
theorem dX4_doesByLot_38 : decode cX4_doesByLot 38 = .ok (.goto 52, 3) := by decide +kernel
theorem dX4_doesByLot_41 : decode cX4_doesByLot 41 = .ok (.iload_n 3, 1) := by decide +kernel
theorem dX4_doesByLot_42 : decode cX4_doesByLot 42 = .ok (.iconst 5, 1) := by decide +kernel
theorem dX4_doesByLot_43 : decode cX4_doesByLot 43 = .ok (.if_icmp .gt 13, 3) := by decide +kernel
theorem dX4_doesByLot_46 : decode cX4_doesByLot 46 = .ok (.aload_n 0, 1) := by decide +kernel
theorem dX4_doesByLot_47 : decode cX4_doesByLot 47 = .ok (.iconst 1, 1) := by decide +kernel
theorem dX4_doesByLot_48 : decode cX4_doesByLot 48 = .ok (.iconst 0, 1) := by decide +kernel
theorem dX4_doesByLot_49 : decode cX4_doesByLot 49 = .ok (.iconst 0, 1) := by decide +kernel
theorem dX4_doesByLot_50 : decode cX4_doesByLot 50 = .ok (.invokevirtual 85, 3) := by decide +kernel
theorem dX4_doesByLot_53 : decode cX4_doesByLot 53 = .ok (.goto 37, 3) := by decide +kernel
theorem dX4_doesByLot_56 : decode cX4_doesByLot 56 = .ok (.iload_n 3, 1) := by decide +kernel
theorem dX4_doesByLot_57 : decode cX4_doesByLot 57 = .ok (.bipush 6, 2) := by decide +kernel
theorem dX4_doesByLot_59 : decode cX4_doesByLot 59 = .ok (.if_icmp .ne 19, 3) := by decide +kernel
theorem dX4_doesByLot_62 : decode cX4_doesByLot 62 = .ok (.aload_n 0, 1) := by decide +kernel
theorem dX4_doesByLot_63 : decode cX4_doesByLot 63 = .ok (.iconst 2, 1) := by decide +kernel
theorem dX4_doesByLot_64 : decode cX4_doesByLot 64 = .ok (.iload_n 2, 1) := by decide +kernel
theorem dX4_doesByLot_65 : decode cX4_doesByLot 65 = .ok (.iload_n 1, 1) := by decide +kernel
theorem dX4_doesByLot_66 : decode cX4_doesByLot 66 = .ok (.bipush 64, 2) := by decide +kernel
theorem dX4_doesByLot_68 : decode cX4_doesByLot 68 = .ok (.idiv, 1) := by decide +kernel
theorem dX4_doesByLot_69 : decode cX4_doesByLot 69 = .ok (.bipush 100, 2) := by decide +kernel
theorem dX4_doesByLot_71 : decode cX4_doesByLot 71 = .ok (.irem, 1) := by decide +kernel
theorem dX4_doesByLot_72 : decode cX4_doesByLot 72 = .ok (.invokevirtual 85, 3) := by decide +kernel
theorem dX4_doesByLot_75 : decode cX4_doesByLot 75 = .ok (.goto 15, 3) := by decide +kernel
theorem dX4_doesByLot_78 : decode cX4_doesByLot 78 = .ok (.aload_n 0, 1) := by decide +kernel
theorem dX4_doesByLot_79 : decode cX4_doesByLot 79 = .ok (.iconst 3, 1) := by decide +kernel
theorem dX4_doesByLot_80 : decode cX4_doesByLot 80 = .ok (.iconst 0, 1) := by decide +kernel
theorem dX4_doesByLot_81 : decode cX4_doesByLot 81 = .ok (.iconst 1, 1) := by decide +kernel
theorem dX4_doesByLot_82 : decode cX4_doesByLot 82 = .ok (.aload_n 0, 1) := by decide +kernel
theorem dX4_doesByLot_83 : decode cX4_doesByLot 83 = .ok (.getfield 66, 3) := by decide +kernel
theorem dX4_doesByLot_86 : decode cX4_doesByLot 86 = .ok (.isub, 1) := by decide +kernel
theorem dX4_doesByLot_87 : decode cX4_doesByLot 87 = .ok (.invokevirtual 85, 3) := by decide +kernel
theorem dX4_doesByLot_90 : decode cX4_doesByLot 90 = .ok (.return_, 1) := by decide +kernel
theorem dX4_perform_0 : decode cX4_perform 0 = .ok (.iload_n 1, 1) := by decide +kernel
theorem dX4_perform_1 : decode cX4_perform 1 = .ok (.bipush 100, 2) := by decide +kernel
theorem dX4_perform_3 : decode cX4_perform 3 = .ok (.idiv, 1) := by decide +kernel
theorem dX4_perform_4 : decode cX4_perform 4 = .ok (.bipush 10, 2) := by decide +kernel
theorem dX4_perform_6 : decode cX4_perform 6 = .ok (.irem, 1) := by decide +kernel
theorem dX4_perform_7 : decode cX4_perform 7 = .ok (.istore_n 2, 1) := by decide +kernel
theorem dX4_perform_8 : decode cX4_perform 8 = .ok (.iload_n 1, 1) := by decide +kernel
theorem dX4_perform_9 : decode cX4_perform 9 = .ok (.bipush 100, 2) := by decide +kernel
theorem dX4_perform_11 : decode cX4_perform 11 = .ok (.irem, 1) := by decide +kernel
theorem dX4_perform_12 : decode cX4_perform 12 = .ok (.istore_n 3, 1) := by decide +kernel
theorem dX4_perform_13 : decode cX4_perform 13 = .ok (.iload_n 1, 1) := by decide +kernel
theorem dX4_perform_14 : decode cX4_perform 14 = .ok (.sipush 1000, 3) := by decide +kernel
theorem dX4_perform_17 : decode cX4_perform 17 = .ok (.idiv, 1) := by decide +kernel
theorem dX4_perform_18 : decode cX4_perform 18 = .ok (.tableswitch 106 0 3 #[30, 56, 77, 98], 30) := by decide +kernel
theorem dX4_perform_48 : decode cX4_perform 48 = .ok (.aload_n 0, 1) := by decide +kernel
theorem dX4_perform_49 : decode cX4_perform 49 = .ok (.dup, 1) := by decide +kernel
theorem dX4_perform_50 : decode cX4_perform 50 = .ok (.getfield 56, 3) := by decide +kernel
theorem dX4_perform_53 : decode cX4_perform 53 = .ok (.iload_n 2, 1) := by decide +kernel
theorem dX4_perform_54 : decode cX4_perform 54 = .ok (.aload_n 0, 1) := by decide +kernel
theorem dX4_perform_55 : decode cX4_perform 55 = .ok (.getfield 59, 3) := by decide +kernel
theorem dX4_perform_58 : decode cX4_perform 58 = .ok (.isub, 1) := by decide +kernel
theorem dX4_perform_59 : decode cX4_perform 59 = .ok (.invokestatic 89, 3) := by decide +kernel
theorem dX4_perform_62 : decode cX4_perform 62 = .ok (.iadd, 1) := by decide +kernel
theorem dX4_perform_63 : decode cX4_perform 63 = .ok (.putfield 56, 3) := by decide +kernel
theorem dX4_perform_66 : decode cX4_perform 66 = .ok (.aload_n 0, 1) := by decide +kernel
theorem dX4_perform_67 : decode cX4_perform 67 = .ok (.iload_n 2, 1) := by decide +kernel
theorem dX4_perform_68 : decode cX4_perform 68 = .ok (.putfield 59, 3) := by decide +kernel
theorem dX4_perform_71 : decode cX4_perform 71 = .ok (.goto 67, 3) := by decide +kernel
theorem dX4_perform_74 : decode cX4_perform 74 = .ok (.aload_n 0, 1) := by decide +kernel
theorem dX4_perform_75 : decode cX4_perform 75 = .ok (.dup, 1) := by decide +kernel
theorem dX4_perform_76 : decode cX4_perform 76 = .ok (.getfield 56, 3) := by decide +kernel
theorem dX4_perform_79 : decode cX4_perform 79 = .ok (.iconst 1, 1) := by decide +kernel
theorem dX4_perform_80 : decode cX4_perform 80 = .ok (.iadd, 1) := by decide +kernel
theorem dX4_perform_81 : decode cX4_perform 81 = .ok (.putfield 56, 3) := by decide +kernel
theorem dX4_perform_84 : decode cX4_perform 84 = .ok (.aload_n 0, 1) := by decide +kernel
theorem dX4_perform_85 : decode cX4_perform 85 = .ok (.aload_n 0, 1) := by decide +kernel
theorem dX4_perform_86 : decode cX4_perform 86 = .ok (.getfield 59, 3) := by decide +kernel
theorem dX4_perform_89 : decode cX4_perform 89 = .ok (.invokevirtual 94, 3) := by decide +kernel
theorem dX4_perform_92 : decode cX4_perform 92 = .ok (.goto 46, 3) := by decide +kernel
theorem dX4_perform_95 : decode cX4_perform 95 = .ok (.aload_n 0, 1) := by decide +kernel
theorem dX4_perform_96 : decode cX4_perform 96 = .ok (.getfield 26, 3) := by decide +kernel
theorem dX4_perform_99 : decode cX4_perform 99 = .ok (.iload_n 2, 1) := by decide +kernel
theorem dX4_perform_100 : decode cX4_perform 100 = .ok (.iload_n 3, 1) := by decide +kernel
theorem dX4_perform_101 : decode cX4_perform 101 = .ok (.invokevirtual 97, 3) := by decide +kernel
theorem dX4_perform_104 : decode cX4_perform 104 = .ok (.aload_n 0, 1) := by decide +kernel
theorem dX4_perform_105 : decode cX4_perform 105 = .ok (.getfield 29, 3) := by decide +kernel
theorem dX4_perform_108 : decode cX4_perform 108 = .ok (.iload_n 2, 1) := by decide +kernel
theorem dX4_perform_109 : decode cX4_perform 109 = .ok (.iconst 0, 1) := by decide +kernel
theorem dX4_perform_110 : decode cX4_perform 110 = .ok (.invokevirtual 97, 3) := by decide +kernel
theorem dX4_perform_113 : decode cX4_perform 113 = .ok (.goto 25, 3) := by decide +kernel
theorem dX4_perform_116 : decode cX4_perform 116 = .ok (.aload_n 0, 1) := by decide +kernel
theorem dX4_perform_117 : decode cX4_perform 117 = .ok (.iload_n 3, 1) := by decide +kernel
theorem dX4_perform_118 : decode cX4_perform 118 = .ok (.putfield 66, 3) := by decide +kernel
theorem dX4_perform_121 : decode cX4_perform 121 = .ok (.goto 17, 3) := by decide +kernel
theorem dX4_perform_124 : decode cX4_perform 124 = .ok (.aload_n 0, 1) := by decide +kernel
theorem dX4_perform_125 : decode cX4_perform 125 = .ok (.dup, 1) := by decide +kernel
theorem dX4_perform_126 : decode cX4_perform 126 = .ok (.getfield 69, 3) := by decide +kernel
theorem dX4_perform_129 : decode cX4_perform 129 = .ok (.iconst 1, 1) := by decide +kernel
theorem dX4_perform_130 : decode cX4_perform 130 = .ok (.iadd, 1) := by decide +kernel
theorem dX4_perform_131 : decode cX4_perform 131 = .ok (.putfield 69, 3) := by decide +kernel
theorem dX4_perform_134 : decode cX4_perform 134 = .ok (.aload_n 0, 1) := by decide +kernel
theorem dX4_perform_135 : decode cX4_perform 135 = .ok (.invokevirtual 75, 3) := by decide +kernel
theorem dX4_perform_138 : decode cX4_perform 138 = .ok (.return_, 1) := by decide +kernel
theorem dX4_hear_0 : decode cX4_hear 0 = .ok (.aload_n 0, 1) := by decide +kernel
theorem dX4_hear_1 : decode cX4_hear 1 = .ok (.getfield 29, 3) := by decide +kernel
theorem dX4_hear_4 : decode cX4_hear 4 = .ok (.iload_n 1, 1) := by decide +kernel
theorem dX4_hear_5 : decode cX4_hear 5 = .ok (.aload_n 0, 1) := by decide +kernel
theorem dX4_hear_6 : decode cX4_hear 6 = .ok (.getfield 29, 3) := by decide +kernel
theorem dX4_hear_9 : decode cX4_hear 9 = .ok (.iload_n 1, 1) := by decide +kernel
theorem dX4_hear_10 : decode cX4_hear 10 = .ok (.invokevirtual 78, 3) := by decide +kernel
theorem dX4_hear_13 : decode cX4_hear 13 = .ok (.iconst 1, 1) := by decide +kernel
theorem dX4_hear_14 : decode cX4_hear 14 = .ok (.iadd, 1) := by decide +kernel
theorem dX4_hear_15 : decode cX4_hear 15 = .ok (.invokevirtual 97, 3) := by decide +kernel
theorem dX4_hear_18 : decode cX4_hear 18 = .ok (.aload_n 0, 1) := by decide +kernel
theorem dX4_hear_19 : decode cX4_hear 19 = .ok (.iload_n 1, 1) := by decide +kernel
theorem dX4_hear_20 : decode cX4_hear 20 = .ok (.aload_n 0, 1) := by decide +kernel
theorem dX4_hear_21 : decode cX4_hear 21 = .ok (.getfield 26, 3) := by decide +kernel
theorem dX4_hear_24 : decode cX4_hear 24 = .ok (.iload_n 1, 1) := by decide +kernel
theorem dX4_hear_25 : decode cX4_hear 25 = .ok (.invokevirtual 78, 3) := by decide +kernel
theorem dX4_hear_28 : decode cX4_hear 28 = .ok (.invokevirtual 100, 3) := by decide +kernel
theorem dX4_hear_31 : decode cX4_hear 31 = .ok (.istore_n 2, 1) := by decide +kernel
theorem dX4_hear_32 : decode cX4_hear 32 = .ok (.aload_n 0, 1) := by decide +kernel
theorem dX4_hear_33 : decode cX4_hear 33 = .ok (.iload_n 1, 1) := by decide +kernel
theorem dX4_hear_34 : decode cX4_hear 34 = .ok (.invokevirtual 104, 3) := by decide +kernel
theorem dX4_hear_37 : decode cX4_hear 37 = .ok (.ifCond .ne 57, 3) := by decide +kernel
theorem dX4_hear_40 : decode cX4_hear 40 = .ok (.iload_n 2, 1) := by decide +kernel
theorem dX4_hear_41 : decode cX4_hear 41 = .ok (.bipush (-9), 2) := by decide +kernel
theorem dX4_hear_43 : decode cX4_hear 43 = .ok (.if_icmp .eq 51, 3) := by decide +kernel
theorem dX4_hear_46 : decode cX4_hear 46 = .ok (.aload_n 0, 1) := by decide +kernel
theorem dX4_hear_47 : decode cX4_hear 47 = .ok (.getfield 29, 3) := by decide +kernel
theorem dX4_hear_50 : decode cX4_hear 50 = .ok (.iload_n 1, 1) := by decide +kernel
theorem dX4_hear_51 : decode cX4_hear 51 = .ok (.invokevirtual 78, 3) := by decide +kernel
theorem dX4_hear_54 : decode cX4_hear 54 = .ok (.iload_n 2, 1) := by decide +kernel
theorem dX4_hear_55 : decode cX4_hear 55 = .ok (.if_icmp .lt 39, 3) := by decide +kernel
theorem dX4_hear_58 : decode cX4_hear 58 = .ok (.aload_n 0, 1) := by decide +kernel
theorem dX4_hear_59 : decode cX4_hear 59 = .ok (.getfield 32, 3) := by decide +kernel
theorem dX4_hear_62 : decode cX4_hear 62 = .ok (.iload_n 1, 1) := by decide +kernel
theorem dX4_hear_63 : decode cX4_hear 63 = .ok (.aload_n 0, 1) := by decide +kernel
theorem dX4_hear_64 : decode cX4_hear 64 = .ok (.getfield 26, 3) := by decide +kernel
theorem dX4_hear_67 : decode cX4_hear 67 = .ok (.iload_n 1, 1) := by decide +kernel
theorem dX4_hear_68 : decode cX4_hear 68 = .ok (.invokevirtual 78, 3) := by decide +kernel
theorem dX4_hear_71 : decode cX4_hear 71 = .ok (.invokevirtual 97, 3) := by decide +kernel
theorem dX4_hear_74 : decode cX4_hear 74 = .ok (.aload_n 0, 1) := by decide +kernel
theorem dX4_hear_75 : decode cX4_hear 75 = .ok (.sipush 9999, 3) := by decide +kernel
theorem dX4_hear_78 : decode cX4_hear 78 = .ok (.aload_n 0, 1) := by decide +kernel
theorem dX4_hear_79 : decode cX4_hear 79 = .ok (.getfield 72, 3) := by decide +kernel
theorem dX4_hear_82 : decode cX4_hear 82 = .ok (.aload_n 0, 1) := by decide +kernel
theorem dX4_hear_83 : decode cX4_hear 83 = .ok (.iload_n 1, 1) := by decide +kernel
theorem dX4_hear_84 : decode cX4_hear 84 = .ok (.invokevirtual 108, 3) := by decide +kernel
theorem dX4_hear_87 : decode cX4_hear 87 = .ok (.iadd, 1) := by decide +kernel
theorem dX4_hear_88 : decode cX4_hear 88 = .ok (.invokestatic 111, 3) := by decide +kernel
theorem dX4_hear_91 : decode cX4_hear 91 = .ok (.putfield 72, 3) := by decide +kernel
theorem dX4_hear_94 : decode cX4_hear 94 = .ok (.return_, 1) := by decide +kernel
theorem dX4_isHouse_0 : decode cX4_isHouse 0 = .ok (.iload_n 1, 1) := by decide +kernel
theorem dX4_isHouse_1 : decode cX4_isHouse 1 = .ok (.ifCond .lt 15, 3) := by decide +kernel
theorem dX4_isHouse_4 : decode cX4_isHouse 4 = .ok (.iload_n 1, 1) := by decide +kernel
theorem dX4_isHouse_5 : decode cX4_isHouse 5 = .ok (.aload_n 0, 1) := by decide +kernel
theorem dX4_isHouse_6 : decode cX4_isHouse 6 = .ok (.getfield 42, 3) := by decide +kernel
theorem dX4_isHouse_9 : decode cX4_isHouse 9 = .ok (.if_icmp .ge 7, 3) := by decide +kernel
theorem dX4_isHouse_12 : decode cX4_isHouse 12 = .ok (.iconst 1, 1) := by decide +kernel
theorem dX4_isHouse_13 : decode cX4_isHouse 13 = .ok (.goto 4, 3) := by decide +kernel
theorem dX4_isHouse_16 : decode cX4_isHouse 16 = .ok (.iconst 0, 1) := by decide +kernel
theorem dX4_isHouse_17 : decode cX4_isHouse 17 = .ok (.ireturn, 1) := by decide +kernel
theorem dX4_isSet_0 : decode cX4_isSet 0 = .ok (.iload_n 1, 1) := by decide +kernel
theorem dX4_isSet_1 : decode cX4_isSet 1 = .ok (.ifCond .lt 17, 3) := by decide +kernel
theorem dX4_isSet_4 : decode cX4_isSet 4 = .ok (.iload_n 1, 1) := by decide +kernel
theorem dX4_isSet_5 : decode cX4_isSet 5 = .ok (.iconst 1, 1) := by decide +kernel
theorem dX4_isSet_6 : decode cX4_isSet 6 = .ok (.aload_n 0, 1) := by decide +kernel
theorem dX4_isSet_7 : decode cX4_isSet 7 = .ok (.getfield 42, 3) := by decide +kernel
theorem dX4_isSet_10 : decode cX4_isSet 10 = .ok (.ishl, 1) := by decide +kernel
theorem dX4_isSet_11 : decode cX4_isSet 11 = .ok (.if_icmp .ge 7, 3) := by decide +kernel
theorem dX4_isSet_14 : decode cX4_isSet 14 = .ok (.iconst 1, 1) := by decide +kernel
theorem dX4_isSet_15 : decode cX4_isSet 15 = .ok (.goto 4, 3) := by decide +kernel
theorem dX4_isSet_18 : decode cX4_isSet 18 = .ok (.iconst 0, 1) := by decide +kernel
theorem dX4_isSet_19 : decode cX4_isSet 19 = .ok (.ireturn, 1) := by decide +kernel
theorem dX4_isAwake_0 : decode cX4_isAwake 0 = .ok (.aload_n 0, 1) := by decide +kernel
theorem dX4_isAwake_1 : decode cX4_isAwake 1 = .ok (.iload_n 1, 1) := by decide +kernel
theorem dX4_isAwake_2 : decode cX4_isAwake 2 = .ok (.invokevirtual 114, 3) := by decide +kernel
theorem dX4_isAwake_5 : decode cX4_isAwake 5 = .ok (.ifCond .eq 20, 3) := by decide +kernel
theorem dX4_isAwake_8 : decode cX4_isAwake 8 = .ok (.aload_n 0, 1) := by decide +kernel
theorem dX4_isAwake_9 : decode cX4_isAwake 9 = .ok (.getfield 32, 3) := by decide +kernel
theorem dX4_isAwake_12 : decode cX4_isAwake 12 = .ok (.iload_n 1, 1) := by decide +kernel
theorem dX4_isAwake_13 : decode cX4_isAwake 13 = .ok (.invokevirtual 78, 3) := by decide +kernel
theorem dX4_isAwake_16 : decode cX4_isAwake 16 = .ok (.bipush (-9), 2) := by decide +kernel
theorem dX4_isAwake_18 : decode cX4_isAwake 18 = .ok (.if_icmp .eq 7, 3) := by decide +kernel
theorem dX4_isAwake_21 : decode cX4_isAwake 21 = .ok (.iconst 1, 1) := by decide +kernel
theorem dX4_isAwake_22 : decode cX4_isAwake 22 = .ok (.goto 4, 3) := by decide +kernel
theorem dX4_isAwake_25 : decode cX4_isAwake 25 = .ok (.iconst 0, 1) := by decide +kernel
theorem dX4_isAwake_26 : decode cX4_isAwake 26 = .ok (.ireturn, 1) := by decide +kernel
theorem dX4_tapsFor_0 : decode cX4_tapsFor 0 = .ok (.aload_n 0, 1) := by decide +kernel
theorem dX4_tapsFor_1 : decode cX4_tapsFor 1 = .ok (.getfield 14, 3) := by decide +kernel
theorem dX4_tapsFor_4 : decode cX4_tapsFor 4 = .ok (.iload_n 1, 1) := by decide +kernel
theorem dX4_tapsFor_5 : decode cX4_tapsFor 5 = .ok (.invokevirtual 78, 3) := by decide +kernel
theorem dX4_tapsFor_8 : decode cX4_tapsFor 8 = .ok (.iload_n 2, 1) := by decide +kernel
theorem dX4_tapsFor_9 : decode cX4_tapsFor 9 = .ok (.aload_n 0, 1) := by decide +kernel
theorem dX4_tapsFor_10 : decode cX4_tapsFor 10 = .ok (.getfield 66, 3) := by decide +kernel
theorem dX4_tapsFor_13 : decode cX4_tapsFor 13 = .ok (.invokestatic 117, 3) := by decide +kernel
theorem dX4_tapsFor_16 : decode cX4_tapsFor 16 = .ok (.ireturn, 1) := by decide +kernel
theorem dX4_fee_0 : decode cX4_fee 0 = .ok (.aload_n 0, 1) := by decide +kernel
theorem dX4_fee_1 : decode cX4_fee 1 = .ok (.getfield 14, 3) := by decide +kernel
theorem dX4_fee_4 : decode cX4_fee 4 = .ok (.iload_n 1, 1) := by decide +kernel
theorem dX4_fee_5 : decode cX4_fee 5 = .ok (.invokevirtual 78, 3) := by decide +kernel
theorem dX4_fee_8 : decode cX4_fee 8 = .ok (.invokestatic 123, 3) := by decide +kernel
theorem dX4_fee_11 : decode cX4_fee 11 = .ok (.ireturn, 1) := by decide +kernel
theorem dX4_more_0 : decode cX4_more 0 = .ok (.aload_n 0, 1) := by decide +kernel
theorem dX4_more_1 : decode cX4_more 1 = .ok (.iload_n 1, 1) := by decide +kernel
theorem dX4_more_2 : decode cX4_more 2 = .ok (.invokevirtual 104, 3) := by decide +kernel
theorem dX4_more_5 : decode cX4_more 5 = .ok (.ifCond .eq 5, 3) := by decide +kernel
theorem dX4_more_8 : decode cX4_more 8 = .ok (.iconst 0, 1) := by decide +kernel
theorem dX4_more_9 : decode cX4_more 9 = .ok (.ireturn, 1) := by decide +kernel
theorem dX4_more_10 : decode cX4_more 10 = .ok (.aload_n 0, 1) := by decide +kernel
theorem dX4_more_11 : decode cX4_more 11 = .ok (.iload_n 1, 1) := by decide +kernel
theorem dX4_more_12 : decode cX4_more 12 = .ok (.aload_n 0, 1) := by decide +kernel
theorem dX4_more_13 : decode cX4_more 13 = .ok (.getfield 26, 3) := by decide +kernel
theorem dX4_more_16 : decode cX4_more 16 = .ok (.iload_n 1, 1) := by decide +kernel
theorem dX4_more_17 : decode cX4_more 17 = .ok (.invokevirtual 78, 3) := by decide +kernel
theorem dX4_more_20 : decode cX4_more 20 = .ok (.invokevirtual 100, 3) := by decide +kernel
theorem dX4_more_23 : decode cX4_more 23 = .ok (.istore_n 2, 1) := by decide +kernel
theorem dX4_more_24 : decode cX4_more 24 = .ok (.iload_n 2, 1) := by decide +kernel
theorem dX4_more_25 : decode cX4_more 25 = .ok (.bipush (-9), 2) := by decide +kernel
theorem dX4_more_27 : decode cX4_more 27 = .ok (.if_icmp .ne 8, 3) := by decide +kernel
theorem dX4_more_30 : decode cX4_more 30 = .ok (.bipush (-9), 2) := by decide +kernel
theorem dX4_more_32 : decode cX4_more 32 = .ok (.goto 17, 3) := by decide +kernel
theorem dX4_more_35 : decode cX4_more 35 = .ok (.iconst 1, 1) := by decide +kernel
theorem dX4_more_36 : decode cX4_more 36 = .ok (.iload_n 2, 1) := by decide +kernel
theorem dX4_more_37 : decode cX4_more 37 = .ok (.aload_n 0, 1) := by decide +kernel
theorem dX4_more_38 : decode cX4_more 38 = .ok (.getfield 29, 3) := by decide +kernel
theorem dX4_more_41 : decode cX4_more 41 = .ok (.iload_n 1, 1) := by decide +kernel
theorem dX4_more_42 : decode cX4_more 42 = .ok (.invokevirtual 78, 3) := by decide +kernel
theorem dX4_more_45 : decode cX4_more 45 = .ok (.isub, 1) := by decide +kernel
theorem dX4_more_46 : decode cX4_more 46 = .ok (.invokestatic 124, 3) := by decide +kernel
theorem dX4_more_49 : decode cX4_more 49 = .ok (.ireturn, 1) := by decide +kernel
theorem dX4_tell_0 : decode cX4_tell 0 = .ok (.iload_n 2, 1) := by decide +kernel
theorem dX4_tell_1 : decode cX4_tell 1 = .ok (.tableswitch 80 0 4 #[35, 44, 53, 62, 71], 35) := by decide +kernel
theorem dX4_tell_36 : decode cX4_tell 36 = .ok (.aload_n 0, 1) := by decide +kernel
theorem dX4_tell_37 : decode cX4_tell 37 = .ok (.getfield 14, 3) := by decide +kernel
theorem dX4_tell_40 : decode cX4_tell 40 = .ok (.iload_n 1, 1) := by decide +kernel
theorem dX4_tell_41 : decode cX4_tell 41 = .ok (.invokevirtual 78, 3) := by decide +kernel
theorem dX4_tell_44 : decode cX4_tell 44 = .ok (.ireturn, 1) := by decide +kernel
theorem dX4_tell_45 : decode cX4_tell 45 = .ok (.aload_n 0, 1) := by decide +kernel
theorem dX4_tell_46 : decode cX4_tell 46 = .ok (.getfield 26, 3) := by decide +kernel
theorem dX4_tell_49 : decode cX4_tell 49 = .ok (.iload_n 1, 1) := by decide +kernel
theorem dX4_tell_50 : decode cX4_tell 50 = .ok (.invokevirtual 78, 3) := by decide +kernel
theorem dX4_tell_53 : decode cX4_tell 53 = .ok (.ireturn, 1) := by decide +kernel
theorem dX4_tell_54 : decode cX4_tell 54 = .ok (.aload_n 0, 1) := by decide +kernel
theorem dX4_tell_55 : decode cX4_tell 55 = .ok (.getfield 20, 3) := by decide +kernel
theorem dX4_tell_58 : decode cX4_tell 58 = .ok (.iload_n 1, 1) := by decide +kernel
theorem dX4_tell_59 : decode cX4_tell 59 = .ok (.invokevirtual 78, 3) := by decide +kernel
theorem dX4_tell_62 : decode cX4_tell 62 = .ok (.ireturn, 1) := by decide +kernel
theorem dX4_tell_63 : decode cX4_tell 63 = .ok (.aload_n 0, 1) := by decide +kernel
theorem dX4_tell_64 : decode cX4_tell 64 = .ok (.getfield 29, 3) := by decide +kernel
theorem dX4_tell_67 : decode cX4_tell 67 = .ok (.iload_n 1, 1) := by decide +kernel
theorem dX4_tell_68 : decode cX4_tell 68 = .ok (.invokevirtual 78, 3) := by decide +kernel
theorem dX4_tell_71 : decode cX4_tell 71 = .ok (.ireturn, 1) := by decide +kernel
theorem dX4_tell_72 : decode cX4_tell 72 = .ok (.aload_n 0, 1) := by decide +kernel
theorem dX4_tell_73 : decode cX4_tell 73 = .ok (.getfield 32, 3) := by decide +kernel
theorem dX4_tell_76 : decode cX4_tell 76 = .ok (.iload_n 1, 1) := by decide +kernel
theorem dX4_tell_77 : decode cX4_tell 77 = .ok (.invokevirtual 78, 3) := by decide +kernel
theorem dX4_tell_80 : decode cX4_tell 80 = .ok (.ireturn, 1) := by decide +kernel
theorem dX4_tell_81 : decode cX4_tell 81 = .ok (.aload_n 0, 1) := by decide +kernel
theorem dX4_tell_82 : decode cX4_tell 82 = .ok (.iload_n 1, 1) := by decide +kernel
theorem dX4_tell_83 : decode cX4_tell 83 = .ok (.invokevirtual 127, 3) := by decide +kernel
theorem dX4_tell_86 : decode cX4_tell 86 = .ok (.ireturn, 1) := by decide +kernel
theorem dX4_awakeSet_0 : decode cX4_awakeSet 0 = .ok (.iconst 0, 1) := by decide +kernel
theorem dX4_awakeSet_1 : decode cX4_awakeSet 1 = .ok (.istore_n 1, 1) := by decide +kernel
theorem dX4_awakeSet_2 : decode cX4_awakeSet 2 = .ok (.iconst 0, 1) := by decide +kernel
theorem dX4_awakeSet_3 : decode cX4_awakeSet 3 = .ok (.istore_n 2, 1) := by decide +kernel
theorem dX4_awakeSet_4 : decode cX4_awakeSet 4 = .ok (.iload_n 2, 1) := by decide +kernel
theorem dX4_awakeSet_5 : decode cX4_awakeSet 5 = .ok (.aload_n 0, 1) := by decide +kernel
theorem dX4_awakeSet_6 : decode cX4_awakeSet 6 = .ok (.getfield 42, 3) := by decide +kernel
theorem dX4_awakeSet_9 : decode cX4_awakeSet 9 = .ok (.if_icmp .ge 23, 3) := by decide +kernel
theorem dX4_awakeSet_12 : decode cX4_awakeSet 12 = .ok (.aload_n 0, 1) := by decide +kernel
theorem dX4_awakeSet_13 : decode cX4_awakeSet 13 = .ok (.iload_n 2, 1) := by decide +kernel
theorem dX4_awakeSet_14 : decode cX4_awakeSet 14 = .ok (.invokevirtual 104, 3) := by decide +kernel
theorem dX4_awakeSet_17 : decode cX4_awakeSet 17 = .ok (.ifCond .eq 9, 3) := by decide +kernel
theorem dX4_awakeSet_20 : decode cX4_awakeSet 20 = .ok (.iload_n 1, 1) := by decide +kernel
theorem dX4_awakeSet_21 : decode cX4_awakeSet 21 = .ok (.iconst 1, 1) := by decide +kernel
theorem dX4_awakeSet_22 : decode cX4_awakeSet 22 = .ok (.iload_n 2, 1) := by decide +kernel
theorem dX4_awakeSet_23 : decode cX4_awakeSet 23 = .ok (.ishl, 1) := by decide +kernel
theorem dX4_awakeSet_24 : decode cX4_awakeSet 24 = .ok (.ior, 1) := by decide +kernel
theorem dX4_awakeSet_25 : decode cX4_awakeSet 25 = .ok (.istore_n 1, 1) := by decide +kernel
theorem dX4_awakeSet_26 : decode cX4_awakeSet 26 = .ok (.iinc 2 1, 3) := by decide +kernel
theorem dX4_awakeSet_29 : decode cX4_awakeSet 29 = .ok (.goto (-25), 3) := by decide +kernel
theorem dX4_awakeSet_32 : decode cX4_awakeSet 32 = .ok (.iload_n 1, 1) := by decide +kernel
theorem dX4_awakeSet_33 : decode cX4_awakeSet 33 = .ok (.ireturn, 1) := by decide +kernel
theorem dX4_canWake_0 : decode cX4_canWake 0 = .ok (.iconst 0, 1) := by decide +kernel
theorem dX4_canWake_1 : decode cX4_canWake 1 = .ok (.istore_n 2, 1) := by decide +kernel
theorem dX4_canWake_2 : decode cX4_canWake 2 = .ok (.iload_n 2, 1) := by decide +kernel
theorem dX4_canWake_3 : decode cX4_canWake 3 = .ok (.aload_n 0, 1) := by decide +kernel
theorem dX4_canWake_4 : decode cX4_canWake 4 = .ok (.getfield 42, 3) := by decide +kernel
theorem dX4_canWake_7 : decode cX4_canWake 7 = .ok (.if_icmp .ge 27, 3) := by decide +kernel
theorem dX4_canWake_10 : decode cX4_canWake 10 = .ok (.iload_n 1, 1) := by decide +kernel
theorem dX4_canWake_11 : decode cX4_canWake 11 = .ok (.iload_n 2, 1) := by decide +kernel
theorem dX4_canWake_12 : decode cX4_canWake 12 = .ok (.invokestatic 130, 3) := by decide +kernel
theorem dX4_canWake_15 : decode cX4_canWake 15 = .ok (.ifCond .eq 13, 3) := by decide +kernel
theorem dX4_canWake_18 : decode cX4_canWake 18 = .ok (.aload_n 0, 1) := by decide +kernel
theorem dX4_canWake_19 : decode cX4_canWake 19 = .ok (.iload_n 2, 1) := by decide +kernel
theorem dX4_canWake_20 : decode cX4_canWake 20 = .ok (.invokevirtual 127, 3) := by decide +kernel
theorem dX4_canWake_23 : decode cX4_canWake 23 = .ok (.ifCond .gt 5, 3) := by decide +kernel
theorem dX4_canWake_26 : decode cX4_canWake 26 = .ok (.iconst 0, 1) := by decide +kernel
theorem dX4_canWake_27 : decode cX4_canWake 27 = .ok (.ireturn, 1) := by decide +kernel
theorem dX4_canWake_28 : decode cX4_canWake 28 = .ok (.iinc 2 1, 3) := by decide +kernel
theorem dX4_canWake_31 : decode cX4_canWake 31 = .ok (.goto (-29), 3) := by decide +kernel
theorem dX4_canWake_34 : decode cX4_canWake 34 = .ok (.iconst 1, 1) := by decide +kernel
theorem dX4_canWake_35 : decode cX4_canWake 35 = .ok (.ireturn, 1) := by decide +kernel
theorem dX4_tapsLeft_0 : decode cX4_tapsLeft 0 = .ok (.iconst 0, 1) := by decide +kernel
theorem dX4_tapsLeft_1 : decode cX4_tapsLeft 1 = .ok (.istore_n 2, 1) := by decide +kernel
theorem dX4_tapsLeft_2 : decode cX4_tapsLeft 2 = .ok (.iconst 0, 1) := by decide +kernel
theorem dX4_tapsLeft_3 : decode cX4_tapsLeft 3 = .ok (.istore_n 3, 1) := by decide +kernel
theorem dX4_tapsLeft_4 : decode cX4_tapsLeft 4 = .ok (.iload_n 3, 1) := by decide +kernel
theorem dX4_tapsLeft_5 : decode cX4_tapsLeft 5 = .ok (.aload_n 0, 1) := by decide +kernel
theorem dX4_tapsLeft_6 : decode cX4_tapsLeft 6 = .ok (.getfield 42, 3) := by decide +kernel
theorem dX4_tapsLeft_9 : decode cX4_tapsLeft 9 = .ok (.if_icmp .ge 33, 3) := by decide +kernel
theorem dX4_tapsLeft_12 : decode cX4_tapsLeft 12 = .ok (.iload_n 2, 1) := by decide +kernel
theorem dX4_tapsLeft_13 : decode cX4_tapsLeft 13 = .ok (.iload_n 1, 1) := by decide +kernel
theorem dX4_tapsLeft_14 : decode cX4_tapsLeft 14 = .ok (.iload_n 3, 1) := by decide +kernel
theorem dX4_tapsLeft_15 : decode cX4_tapsLeft 15 = .ok (.invokestatic 130, 3) := by decide +kernel
theorem dX4_tapsLeft_18 : decode cX4_tapsLeft 18 = .ok (.ifCond .eq 15, 3) := by decide +kernel
theorem dX4_tapsLeft_21 : decode cX4_tapsLeft 21 = .ok (.iconst 0, 1) := by decide +kernel
theorem dX4_tapsLeft_22 : decode cX4_tapsLeft 22 = .ok (.aload_n 0, 1) := by decide +kernel
theorem dX4_tapsLeft_23 : decode cX4_tapsLeft 23 = .ok (.iload_n 3, 1) := by decide +kernel
theorem dX4_tapsLeft_24 : decode cX4_tapsLeft 24 = .ok (.invokevirtual 127, 3) := by decide +kernel
theorem dX4_tapsLeft_27 : decode cX4_tapsLeft 27 = .ok (.invokestatic 124, 3) := by decide +kernel
theorem dX4_tapsLeft_30 : decode cX4_tapsLeft 30 = .ok (.goto 4, 3) := by decide +kernel
theorem dX4_tapsLeft_33 : decode cX4_tapsLeft 33 = .ok (.iconst 0, 1) := by decide +kernel
theorem dX4_tapsLeft_34 : decode cX4_tapsLeft 34 = .ok (.iadd, 1) := by decide +kernel
theorem dX4_tapsLeft_35 : decode cX4_tapsLeft 35 = .ok (.istore_n 2, 1) := by decide +kernel
theorem dX4_tapsLeft_36 : decode cX4_tapsLeft 36 = .ok (.iinc 3 1, 3) := by decide +kernel
theorem dX4_tapsLeft_39 : decode cX4_tapsLeft 39 = .ok (.goto (-35), 3) := by decide +kernel
theorem dX4_tapsLeft_42 : decode cX4_tapsLeft 42 = .ok (.iload_n 2, 1) := by decide +kernel
theorem dX4_tapsLeft_43 : decode cX4_tapsLeft 43 = .ok (.ireturn, 1) := by decide +kernel
theorem dX4_fees_0 : decode cX4_fees 0 = .ok (.iconst 0, 1) := by decide +kernel
theorem dX4_fees_1 : decode cX4_fees 1 = .ok (.istore_n 2, 1) := by decide +kernel
theorem dX4_fees_2 : decode cX4_fees 2 = .ok (.iconst 0, 1) := by decide +kernel
theorem dX4_fees_3 : decode cX4_fees 3 = .ok (.istore_n 3, 1) := by decide +kernel
theorem dX4_fees_4 : decode cX4_fees 4 = .ok (.iload_n 3, 1) := by decide +kernel
theorem dX4_fees_5 : decode cX4_fees 5 = .ok (.aload_n 0, 1) := by decide +kernel
theorem dX4_fees_6 : decode cX4_fees 6 = .ok (.getfield 42, 3) := by decide +kernel
theorem dX4_fees_9 : decode cX4_fees 9 = .ok (.if_icmp .ge 29, 3) := by decide +kernel
theorem dX4_fees_12 : decode cX4_fees 12 = .ok (.iload_n 2, 1) := by decide +kernel
theorem dX4_fees_13 : decode cX4_fees 13 = .ok (.iload_n 1, 1) := by decide +kernel
theorem dX4_fees_14 : decode cX4_fees 14 = .ok (.iload_n 3, 1) := by decide +kernel
theorem dX4_fees_15 : decode cX4_fees 15 = .ok (.invokestatic 130, 3) := by decide +kernel
theorem dX4_fees_18 : decode cX4_fees 18 = .ok (.ifCond .eq 11, 3) := by decide +kernel
theorem dX4_fees_21 : decode cX4_fees 21 = .ok (.aload_n 0, 1) := by decide +kernel
theorem dX4_fees_22 : decode cX4_fees 22 = .ok (.iload_n 3, 1) := by decide +kernel
theorem dX4_fees_23 : decode cX4_fees 23 = .ok (.invokevirtual 108, 3) := by decide +kernel
theorem dX4_fees_26 : decode cX4_fees 26 = .ok (.goto 4, 3) := by decide +kernel
theorem dX4_fees_29 : decode cX4_fees 29 = .ok (.iconst 0, 1) := by decide +kernel
theorem dX4_fees_30 : decode cX4_fees 30 = .ok (.iadd, 1) := by decide +kernel
theorem dX4_fees_31 : decode cX4_fees 31 = .ok (.istore_n 2, 1) := by decide +kernel
theorem dX4_fees_32 : decode cX4_fees 32 = .ok (.iinc 3 1, 3) := by decide +kernel
theorem dX4_fees_35 : decode cX4_fees 35 = .ok (.goto (-31), 3) := by decide +kernel
theorem dX4_fees_38 : decode cX4_fees 38 = .ok (.iload_n 2, 1) := by decide +kernel
theorem dX4_fees_39 : decode cX4_fees 39 = .ok (.ireturn, 1) := by decide +kernel
theorem dX4_manyOf_0 : decode cX4_manyOf 0 = .ok (.iconst 0, 1) := by decide +kernel
theorem dX4_manyOf_1 : decode cX4_manyOf 1 = .ok (.istore_n 2, 1) := by decide +kernel
theorem dX4_manyOf_2 : decode cX4_manyOf 2 = .ok (.iconst 0, 1) := by decide +kernel
theorem dX4_manyOf_3 : decode cX4_manyOf 3 = .ok (.istore_n 3, 1) := by decide +kernel
theorem dX4_manyOf_4 : decode cX4_manyOf 4 = .ok (.iload_n 3, 1) := by decide +kernel
theorem dX4_manyOf_5 : decode cX4_manyOf 5 = .ok (.aload_n 0, 1) := by decide +kernel
theorem dX4_manyOf_6 : decode cX4_manyOf 6 = .ok (.getfield 42, 3) := by decide +kernel
theorem dX4_manyOf_9 : decode cX4_manyOf 9 = .ok (.if_icmp .ge 32, 3) := by decide +kernel
theorem dX4_manyOf_12 : decode cX4_manyOf 12 = .ok (.iload_n 2, 1) := by decide +kernel
theorem dX4_manyOf_13 : decode cX4_manyOf 13 = .ok (.aload_n 0, 1) := by decide +kernel
theorem dX4_manyOf_14 : decode cX4_manyOf 14 = .ok (.getfield 14, 3) := by decide +kernel
theorem dX4_manyOf_17 : decode cX4_manyOf 17 = .ok (.iload_n 3, 1) := by decide +kernel
theorem dX4_manyOf_18 : decode cX4_manyOf 18 = .ok (.invokevirtual 78, 3) := by decide +kernel
theorem dX4_manyOf_21 : decode cX4_manyOf 21 = .ok (.iload_n 1, 1) := by decide +kernel
theorem dX4_manyOf_22 : decode cX4_manyOf 22 = .ok (.invokestatic 134, 3) := by decide +kernel
theorem dX4_manyOf_25 : decode cX4_manyOf 25 = .ok (.ifCond .eq 7, 3) := by decide +kernel
theorem dX4_manyOf_28 : decode cX4_manyOf 28 = .ok (.iconst 1, 1) := by decide +kernel
theorem dX4_manyOf_29 : decode cX4_manyOf 29 = .ok (.goto 4, 3) := by decide +kernel
theorem dX4_manyOf_32 : decode cX4_manyOf 32 = .ok (.iconst 0, 1) := by decide +kernel
theorem dX4_manyOf_33 : decode cX4_manyOf 33 = .ok (.iadd, 1) := by decide +kernel
theorem dX4_manyOf_34 : decode cX4_manyOf 34 = .ok (.istore_n 2, 1) := by decide +kernel
theorem dX4_manyOf_35 : decode cX4_manyOf 35 = .ok (.iinc 3 1, 3) := by decide +kernel
theorem dX4_manyOf_38 : decode cX4_manyOf 38 = .ok (.goto (-34), 3) := by decide +kernel
theorem dX4_manyOf_41 : decode cX4_manyOf 41 = .ok (.iload_n 2, 1) := by decide +kernel
theorem dX4_manyOf_42 : decode cX4_manyOf 42 = .ok (.ireturn, 1) := by decide +kernel
theorem dX4_othersAwake_0 : decode cX4_othersAwake 0 = .ok (.aload_n 0, 1) := by decide +kernel
theorem dX4_othersAwake_1 : decode cX4_othersAwake 1 = .ok (.invokevirtual 137, 3) := by decide +kernel
theorem dX4_othersAwake_4 : decode cX4_othersAwake 4 = .ok (.invokestatic 141, 3) := by decide +kernel
theorem dX4_othersAwake_7 : decode cX4_othersAwake 7 = .ok (.aload_n 0, 1) := by decide +kernel
theorem dX4_othersAwake_8 : decode cX4_othersAwake 8 = .ok (.iload_n 1, 1) := by decide +kernel
theorem dX4_othersAwake_9 : decode cX4_othersAwake 9 = .ok (.invokevirtual 104, 3) := by decide +kernel
theorem dX4_othersAwake_12 : decode cX4_othersAwake 12 = .ok (.ifCond .eq 7, 3) := by decide +kernel
theorem dX4_othersAwake_15 : decode cX4_othersAwake 15 = .ok (.iconst 1, 1) := by decide +kernel
theorem dX4_othersAwake_16 : decode cX4_othersAwake 16 = .ok (.goto 4, 3) := by decide +kernel
theorem dX4_othersAwake_19 : decode cX4_othersAwake 19 = .ok (.iconst 0, 1) := by decide +kernel
theorem dX4_othersAwake_20 : decode cX4_othersAwake 20 = .ok (.isub, 1) := by decide +kernel
theorem dX4_othersAwake_21 : decode cX4_othersAwake 21 = .ok (.ireturn, 1) := by decide +kernel
theorem dX4_othersEarlier_0 : decode cX4_othersEarlier 0 = .ok (.iconst 0, 1) := by decide +kernel
theorem dX4_othersEarlier_1 : decode cX4_othersEarlier 1 = .ok (.istore_n 2, 1) := by decide +kernel
theorem dX4_othersEarlier_2 : decode cX4_othersEarlier 2 = .ok (.iconst 0, 1) := by decide +kernel
theorem dX4_othersEarlier_3 : decode cX4_othersEarlier 3 = .ok (.istore_n 3, 1) := by decide +kernel
theorem dX4_othersEarlier_4 : decode cX4_othersEarlier 4 = .ok (.iload_n 3, 1) := by decide +kernel
theorem dX4_othersEarlier_5 : decode cX4_othersEarlier 5 = .ok (.aload_n 0, 1) := by decide +kernel
theorem dX4_othersEarlier_6 : decode cX4_othersEarlier 6 = .ok (.getfield 42, 3) := by decide +kernel
theorem dX4_othersEarlier_9 : decode cX4_othersEarlier 9 = .ok (.if_icmp .ge 36, 3) := by decide +kernel
theorem dX4_othersEarlier_12 : decode cX4_othersEarlier 12 = .ok (.iload_n 2, 1) := by decide +kernel
theorem dX4_othersEarlier_13 : decode cX4_othersEarlier 13 = .ok (.aload_n 0, 1) := by decide +kernel
theorem dX4_othersEarlier_14 : decode cX4_othersEarlier 14 = .ok (.getfield 26, 3) := by decide +kernel
theorem dX4_othersEarlier_17 : decode cX4_othersEarlier 17 = .ok (.iload_n 3, 1) := by decide +kernel
theorem dX4_othersEarlier_18 : decode cX4_othersEarlier 18 = .ok (.invokevirtual 78, 3) := by decide +kernel
theorem dX4_othersEarlier_21 : decode cX4_othersEarlier 21 = .ok (.aload_n 0, 1) := by decide +kernel
theorem dX4_othersEarlier_22 : decode cX4_othersEarlier 22 = .ok (.getfield 26, 3) := by decide +kernel
theorem dX4_othersEarlier_25 : decode cX4_othersEarlier 25 = .ok (.iload_n 1, 1) := by decide +kernel
theorem dX4_othersEarlier_26 : decode cX4_othersEarlier 26 = .ok (.invokevirtual 78, 3) := by decide +kernel
theorem dX4_othersEarlier_29 : decode cX4_othersEarlier 29 = .ok (.if_icmp .ge 7, 3) := by decide +kernel
theorem dX4_othersEarlier_32 : decode cX4_othersEarlier 32 = .ok (.iconst 1, 1) := by decide +kernel
theorem dX4_othersEarlier_33 : decode cX4_othersEarlier 33 = .ok (.goto 4, 3) := by decide +kernel
theorem dX4_othersEarlier_36 : decode cX4_othersEarlier 36 = .ok (.iconst 0, 1) := by decide +kernel
theorem dX4_othersEarlier_37 : decode cX4_othersEarlier 37 = .ok (.iadd, 1) := by decide +kernel
theorem dX4_othersEarlier_38 : decode cX4_othersEarlier 38 = .ok (.istore_n 2, 1) := by decide +kernel
theorem dX4_othersEarlier_39 : decode cX4_othersEarlier 39 = .ok (.iinc 3 1, 3) := by decide +kernel
theorem dX4_othersEarlier_42 : decode cX4_othersEarlier 42 = .ok (.goto (-38), 3) := by decide +kernel
theorem dX4_othersEarlier_45 : decode cX4_othersEarlier 45 = .ok (.iload_n 2, 1) := by decide +kernel
theorem dX4_othersEarlier_46 : decode cX4_othersEarlier 46 = .ok (.ireturn, 1) := by decide +kernel
theorem dX4_quarrelling_0 : decode cX4_quarrelling 0 = .ok (.iconst 0, 1) := by decide +kernel
theorem dX4_quarrelling_1 : decode cX4_quarrelling 1 = .ok (.istore_n 1, 1) := by decide +kernel
theorem dX4_quarrelling_2 : decode cX4_quarrelling 2 = .ok (.iconst 0, 1) := by decide +kernel
theorem dX4_quarrelling_3 : decode cX4_quarrelling 3 = .ok (.istore_n 2, 1) := by decide +kernel
theorem dX4_quarrelling_4 : decode cX4_quarrelling 4 = .ok (.iload_n 2, 1) := by decide +kernel
theorem dX4_quarrelling_5 : decode cX4_quarrelling 5 = .ok (.iconst 1, 1) := by decide +kernel
theorem dX4_quarrelling_6 : decode cX4_quarrelling 6 = .ok (.iadd, 1) := by decide +kernel
theorem dX4_quarrelling_7 : decode cX4_quarrelling 7 = .ok (.aload_n 0, 1) := by decide +kernel
theorem dX4_quarrelling_8 : decode cX4_quarrelling 8 = .ok (.getfield 42, 3) := by decide +kernel
theorem dX4_quarrelling_11 : decode cX4_quarrelling 11 = .ok (.if_icmp .ge 66, 3) := by decide +kernel
theorem dX4_quarrelling_14 : decode cX4_quarrelling 14 = .ok (.aload_n 0, 1) := by decide +kernel
theorem dX4_quarrelling_15 : decode cX4_quarrelling 15 = .ok (.getfield 32, 3) := by decide +kernel
theorem dX4_quarrelling_18 : decode cX4_quarrelling 18 = .ok (.iload_n 2, 1) := by decide +kernel
theorem dX4_quarrelling_19 : decode cX4_quarrelling 19 = .ok (.invokevirtual 78, 3) := by decide +kernel
theorem dX4_quarrelling_22 : decode cX4_quarrelling 22 = .ok (.aload_n 0, 1) := by decide +kernel
theorem dX4_quarrelling_23 : decode cX4_quarrelling 23 = .ok (.getfield 32, 3) := by decide +kernel
theorem dX4_quarrelling_26 : decode cX4_quarrelling 26 = .ok (.iload_n 2, 1) := by decide +kernel
theorem dX4_quarrelling_27 : decode cX4_quarrelling 27 = .ok (.iconst 1, 1) := by decide +kernel
theorem dX4_quarrelling_28 : decode cX4_quarrelling 28 = .ok (.iadd, 1) := by decide +kernel
theorem dX4_quarrelling_29 : decode cX4_quarrelling 29 = .ok (.invokevirtual 78, 3) := by decide +kernel
theorem dX4_quarrelling_32 : decode cX4_quarrelling 32 = .ok (.isub, 1) := by decide +kernel
theorem dX4_quarrelling_33 : decode cX4_quarrelling 33 = .ok (.invokestatic 89, 3) := by decide +kernel
theorem dX4_quarrelling_36 : decode cX4_quarrelling 36 = .ok (.istore_n 3, 1) := by decide +kernel
theorem dX4_quarrelling_37 : decode cX4_quarrelling 37 = .ok (.iload_n 1, 1) := by decide +kernel
theorem dX4_quarrelling_38 : decode cX4_quarrelling 38 = .ok (.aload_n 0, 1) := by decide +kernel
theorem dX4_quarrelling_39 : decode cX4_quarrelling 39 = .ok (.iload_n 2, 1) := by decide +kernel
theorem dX4_quarrelling_40 : decode cX4_quarrelling 40 = .ok (.invokevirtual 104, 3) := by decide +kernel
theorem dX4_quarrelling_43 : decode cX4_quarrelling 43 = .ok (.ifCond .eq 25, 3) := by decide +kernel
theorem dX4_quarrelling_46 : decode cX4_quarrelling 46 = .ok (.aload_n 0, 1) := by decide +kernel
theorem dX4_quarrelling_47 : decode cX4_quarrelling 47 = .ok (.iload_n 2, 1) := by decide +kernel
theorem dX4_quarrelling_48 : decode cX4_quarrelling 48 = .ok (.iconst 1, 1) := by decide +kernel
theorem dX4_quarrelling_49 : decode cX4_quarrelling 49 = .ok (.iadd, 1) := by decide +kernel
theorem dX4_quarrelling_50 : decode cX4_quarrelling 50 = .ok (.invokevirtual 104, 3) := by decide +kernel
theorem dX4_quarrelling_53 : decode cX4_quarrelling 53 = .ok (.ifCond .eq 15, 3) := by decide +kernel
theorem dX4_quarrelling_56 : decode cX4_quarrelling 56 = .ok (.iload_n 3, 1) := by decide +kernel
theorem dX4_quarrelling_57 : decode cX4_quarrelling 57 = .ok (.aload_n 0, 1) := by decide +kernel
theorem dX4_quarrelling_58 : decode cX4_quarrelling 58 = .ok (.getfield 49, 3) := by decide +kernel
theorem dX4_quarrelling_61 : decode cX4_quarrelling 61 = .ok (.if_icmp .le 7, 3) := by decide +kernel
theorem dX4_quarrelling_64 : decode cX4_quarrelling 64 = .ok (.iconst 1, 1) := by decide +kernel
theorem dX4_quarrelling_65 : decode cX4_quarrelling 65 = .ok (.goto 4, 3) := by decide +kernel
theorem dX4_quarrelling_68 : decode cX4_quarrelling 68 = .ok (.iconst 0, 1) := by decide +kernel
theorem dX4_quarrelling_69 : decode cX4_quarrelling 69 = .ok (.iadd, 1) := by decide +kernel
theorem dX4_quarrelling_70 : decode cX4_quarrelling 70 = .ok (.istore_n 1, 1) := by decide +kernel
theorem dX4_quarrelling_71 : decode cX4_quarrelling 71 = .ok (.iinc 2 1, 3) := by decide +kernel
theorem dX4_quarrelling_74 : decode cX4_quarrelling 74 = .ok (.goto (-70), 3) := by decide +kernel
theorem dX4_quarrelling_77 : decode cX4_quarrelling 77 = .ok (.iload_n 1, 1) := by decide +kernel
theorem dX4_quarrelling_78 : decode cX4_quarrelling 78 = .ok (.ireturn, 1) := by decide +kernel
theorem dX4_nextByDate_0 : decode cX4_nextByDate 0 = .ok (.bipush (-9), 2) := by decide +kernel
theorem dX4_nextByDate_2 : decode cX4_nextByDate 2 = .ok (.istore_n 3, 1) := by decide +kernel
theorem dX4_nextByDate_3 : decode cX4_nextByDate 3 = .ok (.iconst 0, 1) := by decide +kernel
theorem dX4_nextByDate_4 : decode cX4_nextByDate 4 = .ok (.istore 4, 2) := by decide +kernel
theorem dX4_nextByDate_6 : decode cX4_nextByDate 6 = .ok (.iload 4, 2) := by decide +kernel
theorem dX4_nextByDate_8 : decode cX4_nextByDate 8 = .ok (.aload_n 0, 1) := by decide +kernel
theorem dX4_nextByDate_9 : decode cX4_nextByDate 9 = .ok (.getfield 42, 3) := by decide +kernel
theorem dX4_nextByDate_12 : decode cX4_nextByDate 12 = .ok (.if_icmp .ge 67, 3) := by decide +kernel
theorem dX4_nextByDate_15 : decode cX4_nextByDate 15 = .ok (.iload_n 3, 1) := by decide +kernel
theorem dX4_nextByDate_16 : decode cX4_nextByDate 16 = .ok (.bipush (-9), 2) := by decide +kernel
theorem dX4_nextByDate_18 : decode cX4_nextByDate 18 = .ok (.if_icmp .eq 27, 3) := by decide +kernel
theorem dX4_nextByDate_21 : decode cX4_nextByDate 21 = .ok (.iload_n 2, 1) := by decide +kernel
theorem dX4_nextByDate_22 : decode cX4_nextByDate 22 = .ok (.aload_n 0, 1) := by decide +kernel
theorem dX4_nextByDate_23 : decode cX4_nextByDate 23 = .ok (.getfield 26, 3) := by decide +kernel
theorem dX4_nextByDate_26 : decode cX4_nextByDate 26 = .ok (.iload 4, 2) := by decide +kernel
theorem dX4_nextByDate_28 : decode cX4_nextByDate 28 = .ok (.invokevirtual 78, 3) := by decide +kernel
theorem dX4_nextByDate_31 : decode cX4_nextByDate 31 = .ok (.imul, 1) := by decide +kernel
theorem dX4_nextByDate_32 : decode cX4_nextByDate 32 = .ok (.iload_n 2, 1) := by decide +kernel
theorem dX4_nextByDate_33 : decode cX4_nextByDate 33 = .ok (.aload_n 0, 1) := by decide +kernel
theorem dX4_nextByDate_34 : decode cX4_nextByDate 34 = .ok (.getfield 26, 3) := by decide +kernel
theorem dX4_nextByDate_37 : decode cX4_nextByDate 37 = .ok (.iload_n 3, 1) := by decide +kernel
theorem dX4_nextByDate_38 : decode cX4_nextByDate 38 = .ok (.invokevirtual 78, 3) := by decide +kernel
theorem dX4_nextByDate_41 : decode cX4_nextByDate 41 = .ok (.imul, 1) := by decide +kernel
theorem dX4_nextByDate_42 : decode cX4_nextByDate 42 = .ok (.if_icmp .ge 7, 3) := by decide +kernel
theorem dX4_nextByDate_45 : decode cX4_nextByDate 45 = .ok (.iconst 1, 1) := by decide +kernel
theorem dX4_nextByDate_46 : decode cX4_nextByDate 46 = .ok (.goto 4, 3) := by decide +kernel
theorem dX4_nextByDate_49 : decode cX4_nextByDate 49 = .ok (.iconst 0, 1) := by decide +kernel
theorem dX4_nextByDate_50 : decode cX4_nextByDate 50 = .ok (.istore 5, 2) := by decide +kernel
theorem dX4_nextByDate_52 : decode cX4_nextByDate 52 = .ok (.iload_n 1, 1) := by decide +kernel
theorem dX4_nextByDate_53 : decode cX4_nextByDate 53 = .ok (.iload 4, 2) := by decide +kernel
theorem dX4_nextByDate_55 : decode cX4_nextByDate 55 = .ok (.invokestatic 130, 3) := by decide +kernel
theorem dX4_nextByDate_58 : decode cX4_nextByDate 58 = .ok (.ifCond .ne 13, 3) := by decide +kernel
theorem dX4_nextByDate_61 : decode cX4_nextByDate 61 = .ok (.iload 5, 2) := by decide +kernel
theorem dX4_nextByDate_63 : decode cX4_nextByDate 63 = .ok (.ifCond .eq 8, 3) := by decide +kernel
theorem dX4_nextByDate_66 : decode cX4_nextByDate 66 = .ok (.iload 4, 2) := by decide +kernel
theorem dX4_nextByDate_68 : decode cX4_nextByDate 68 = .ok (.goto 4, 3) := by decide +kernel
theorem dX4_nextByDate_71 : decode cX4_nextByDate 71 = .ok (.iload_n 3, 1) := by decide +kernel
theorem dX4_nextByDate_72 : decode cX4_nextByDate 72 = .ok (.istore_n 3, 1) := by decide +kernel
theorem dX4_nextByDate_73 : decode cX4_nextByDate 73 = .ok (.iinc 4 1, 3) := by decide +kernel
theorem dX4_nextByDate_76 : decode cX4_nextByDate 76 = .ok (.goto (-70), 3) := by decide +kernel
theorem dX4_nextByDate_79 : decode cX4_nextByDate 79 = .ok (.iconst 0, 1) := by decide +kernel
theorem dX4_nextByDate_80 : decode cX4_nextByDate 80 = .ok (.iload_n 3, 1) := by decide +kernel
theorem dX4_nextByDate_81 : decode cX4_nextByDate 81 = .ok (.invokestatic 124, 3) := by decide +kernel
theorem dX4_nextByDate_84 : decode cX4_nextByDate 84 = .ok (.ireturn, 1) := by decide +kernel
theorem dX4_mostAwake_0 : decode cX4_mostAwake 0 = .ok (.iconst 0, 1) := by decide +kernel
theorem dX4_mostAwake_1 : decode cX4_mostAwake 1 = .ok (.istore_n 3, 1) := by decide +kernel
theorem dX4_mostAwake_2 : decode cX4_mostAwake 2 = .ok (.iload_n 2, 1) := by decide +kernel
theorem dX4_mostAwake_3 : decode cX4_mostAwake 3 = .ok (.istore 4, 2) := by decide +kernel
theorem dX4_mostAwake_5 : decode cX4_mostAwake 5 = .ok (.iconst 0, 1) := by decide +kernel
theorem dX4_mostAwake_6 : decode cX4_mostAwake 6 = .ok (.istore 5, 2) := by decide +kernel
theorem dX4_mostAwake_8 : decode cX4_mostAwake 8 = .ok (.iload 5, 2) := by decide +kernel
theorem dX4_mostAwake_10 : decode cX4_mostAwake 10 = .ok (.iload_n 2, 1) := by decide +kernel
theorem dX4_mostAwake_11 : decode cX4_mostAwake 11 = .ok (.if_icmp .gt 55, 3) := by decide +kernel
theorem dX4_mostAwake_14 : decode cX4_mostAwake 14 = .ok (.iload_n 1, 1) := by decide +kernel
theorem dX4_mostAwake_15 : decode cX4_mostAwake 15 = .ok (.istore 6, 2) := by decide +kernel
theorem dX4_mostAwake_17 : decode cX4_mostAwake 17 = .ok (.iload 6, 2) := by decide +kernel
theorem dX4_mostAwake_19 : decode cX4_mostAwake 19 = .ok (.aload_n 0, 1) := by decide +kernel
theorem dX4_mostAwake_20 : decode cX4_mostAwake 20 = .ok (.getfield 42, 3) := by decide +kernel
theorem dX4_mostAwake_23 : decode cX4_mostAwake 23 = .ok (.if_icmp .ge 37, 3) := by decide +kernel
theorem dX4_mostAwake_26 : decode cX4_mostAwake 26 = .ok (.aload_n 0, 1) := by decide +kernel
theorem dX4_mostAwake_27 : decode cX4_mostAwake 27 = .ok (.iload 6, 2) := by decide +kernel
theorem dX4_mostAwake_29 : decode cX4_mostAwake 29 = .ok (.invokevirtual 127, 3) := by decide +kernel
theorem dX4_mostAwake_32 : decode cX4_mostAwake 32 = .ok (.iload 5, 2) := by decide +kernel
theorem dX4_mostAwake_34 : decode cX4_mostAwake 34 = .ok (.if_icmp .ne 20, 3) := by decide +kernel
theorem dX4_mostAwake_37 : decode cX4_mostAwake 37 = .ok (.iload 5, 2) := by decide +kernel
theorem dX4_mostAwake_39 : decode cX4_mostAwake 39 = .ok (.iload 4, 2) := by decide +kernel
theorem dX4_mostAwake_41 : decode cX4_mostAwake 41 = .ok (.if_icmp .gt 13, 3) := by decide +kernel
theorem dX4_mostAwake_44 : decode cX4_mostAwake 44 = .ok (.iload 4, 2) := by decide +kernel
theorem dX4_mostAwake_46 : decode cX4_mostAwake 46 = .ok (.iload 5, 2) := by decide +kernel
theorem dX4_mostAwake_48 : decode cX4_mostAwake 48 = .ok (.isub, 1) := by decide +kernel
theorem dX4_mostAwake_49 : decode cX4_mostAwake 49 = .ok (.istore 4, 2) := by decide +kernel
theorem dX4_mostAwake_51 : decode cX4_mostAwake 51 = .ok (.iinc 3 1, 3) := by decide +kernel
theorem dX4_mostAwake_54 : decode cX4_mostAwake 54 = .ok (.iinc 6 2, 3) := by decide +kernel
theorem dX4_mostAwake_57 : decode cX4_mostAwake 57 = .ok (.goto (-40), 3) := by decide +kernel
theorem dX4_mostAwake_60 : decode cX4_mostAwake 60 = .ok (.iinc 5 1, 3) := by decide +kernel
theorem dX4_mostAwake_63 : decode cX4_mostAwake 63 = .ok (.goto (-55), 3) := by decide +kernel
theorem dX4_mostAwake_66 : decode cX4_mostAwake 66 = .ok (.iload_n 3, 1) := by decide +kernel
theorem dX4_mostAwake_67 : decode cX4_mostAwake 67 = .ok (.ireturn, 1) := by decide +kernel
theorem dJ6_bitCount_0f7a4_0 : decode cJ6_bitCount_0f7a4 0 = .ok (.iload_n 0, 1) := by decide +kernel
theorem dJ6_bitCount_0f7a4_1 : decode cJ6_bitCount_0f7a4 1 = .ok (.iload_n 0, 1) := by decide +kernel
theorem dJ6_bitCount_0f7a4_2 : decode cJ6_bitCount_0f7a4 2 = .ok (.iconst 1, 1) := by decide +kernel
theorem dJ6_bitCount_0f7a4_3 : decode cJ6_bitCount_0f7a4 3 = .ok (.iushr, 1) := by decide +kernel
theorem dJ6_bitCount_0f7a4_4 : decode cJ6_bitCount_0f7a4 4 = .ok (.ldc_w 265, 3) := by decide +kernel
theorem dJ6_bitCount_0f7a4_7 : decode cJ6_bitCount_0f7a4 7 = .ok (.iand, 1) := by decide +kernel
theorem dJ6_bitCount_0f7a4_8 : decode cJ6_bitCount_0f7a4 8 = .ok (.isub, 1) := by decide +kernel
theorem dJ6_bitCount_0f7a4_9 : decode cJ6_bitCount_0f7a4 9 = .ok (.istore_n 0, 1) := by decide +kernel
theorem dJ6_bitCount_0f7a4_10 : decode cJ6_bitCount_0f7a4 10 = .ok (.iload_n 0, 1) := by decide +kernel
theorem dJ6_bitCount_0f7a4_11 : decode cJ6_bitCount_0f7a4 11 = .ok (.ldc_w 266, 3) := by decide +kernel
theorem dJ6_bitCount_0f7a4_14 : decode cJ6_bitCount_0f7a4 14 = .ok (.iand, 1) := by decide +kernel
theorem dJ6_bitCount_0f7a4_15 : decode cJ6_bitCount_0f7a4 15 = .ok (.iload_n 0, 1) := by decide +kernel
theorem dJ6_bitCount_0f7a4_16 : decode cJ6_bitCount_0f7a4 16 = .ok (.iconst 2, 1) := by decide +kernel
theorem dJ6_bitCount_0f7a4_17 : decode cJ6_bitCount_0f7a4 17 = .ok (.iushr, 1) := by decide +kernel
theorem dJ6_bitCount_0f7a4_18 : decode cJ6_bitCount_0f7a4 18 = .ok (.ldc_w 266, 3) := by decide +kernel
theorem dJ6_bitCount_0f7a4_21 : decode cJ6_bitCount_0f7a4 21 = .ok (.iand, 1) := by decide +kernel
theorem dJ6_bitCount_0f7a4_22 : decode cJ6_bitCount_0f7a4 22 = .ok (.iadd, 1) := by decide +kernel
theorem dJ6_bitCount_0f7a4_23 : decode cJ6_bitCount_0f7a4 23 = .ok (.istore_n 0, 1) := by decide +kernel
theorem dJ6_bitCount_0f7a4_24 : decode cJ6_bitCount_0f7a4 24 = .ok (.iload_n 0, 1) := by decide +kernel
theorem dJ6_bitCount_0f7a4_25 : decode cJ6_bitCount_0f7a4 25 = .ok (.iload_n 0, 1) := by decide +kernel
theorem dJ6_bitCount_0f7a4_26 : decode cJ6_bitCount_0f7a4 26 = .ok (.iconst 4, 1) := by decide +kernel
theorem dJ6_bitCount_0f7a4_27 : decode cJ6_bitCount_0f7a4 27 = .ok (.iushr, 1) := by decide +kernel
theorem dJ6_bitCount_0f7a4_28 : decode cJ6_bitCount_0f7a4 28 = .ok (.iadd, 1) := by decide +kernel
theorem dJ6_bitCount_0f7a4_29 : decode cJ6_bitCount_0f7a4 29 = .ok (.ldc_w 267, 3) := by decide +kernel
theorem dJ6_bitCount_0f7a4_32 : decode cJ6_bitCount_0f7a4 32 = .ok (.iand, 1) := by decide +kernel
theorem dJ6_bitCount_0f7a4_33 : decode cJ6_bitCount_0f7a4 33 = .ok (.istore_n 0, 1) := by decide +kernel
theorem dJ6_bitCount_0f7a4_34 : decode cJ6_bitCount_0f7a4 34 = .ok (.iload_n 0, 1) := by decide +kernel
theorem dJ6_bitCount_0f7a4_35 : decode cJ6_bitCount_0f7a4 35 = .ok (.iload_n 0, 1) := by decide +kernel
theorem dJ6_bitCount_0f7a4_36 : decode cJ6_bitCount_0f7a4 36 = .ok (.bipush 8, 2) := by decide +kernel
theorem dJ6_bitCount_0f7a4_38 : decode cJ6_bitCount_0f7a4 38 = .ok (.iushr, 1) := by decide +kernel
theorem dJ6_bitCount_0f7a4_39 : decode cJ6_bitCount_0f7a4 39 = .ok (.iadd, 1) := by decide +kernel
theorem dJ6_bitCount_0f7a4_40 : decode cJ6_bitCount_0f7a4 40 = .ok (.istore_n 0, 1) := by decide +kernel
theorem dJ6_bitCount_0f7a4_41 : decode cJ6_bitCount_0f7a4 41 = .ok (.iload_n 0, 1) := by decide +kernel
theorem dJ6_bitCount_0f7a4_42 : decode cJ6_bitCount_0f7a4 42 = .ok (.iload_n 0, 1) := by decide +kernel
theorem dJ6_bitCount_0f7a4_43 : decode cJ6_bitCount_0f7a4 43 = .ok (.bipush 16, 2) := by decide +kernel
theorem dJ6_bitCount_0f7a4_45 : decode cJ6_bitCount_0f7a4 45 = .ok (.iushr, 1) := by decide +kernel
theorem dJ6_bitCount_0f7a4_46 : decode cJ6_bitCount_0f7a4 46 = .ok (.iadd, 1) := by decide +kernel
theorem dJ6_bitCount_0f7a4_47 : decode cJ6_bitCount_0f7a4 47 = .ok (.istore_n 0, 1) := by decide +kernel
theorem dJ6_bitCount_0f7a4_48 : decode cJ6_bitCount_0f7a4 48 = .ok (.iload_n 0, 1) := by decide +kernel
theorem dJ6_bitCount_0f7a4_49 : decode cJ6_bitCount_0f7a4 49 = .ok (.bipush 63, 2) := by decide +kernel
theorem dJ6_bitCount_0f7a4_51 : decode cJ6_bitCount_0f7a4 51 = .ok (.iand, 1) := by decide +kernel
theorem dJ6_bitCount_0f7a4_52 : decode cJ6_bitCount_0f7a4 52 = .ok (.ireturn, 1) := by decide +kernel
theorem dJ9_abs_0f7a4_0 : decode cJ9_abs_0f7a4 0 = .ok (.iload_n 0, 1) := by decide +kernel
theorem dJ9_abs_0f7a4_1 : decode cJ9_abs_0f7a4 1 = .ok (.ifCond .ge 8, 3) := by decide +kernel
theorem dJ9_abs_0f7a4_4 : decode cJ9_abs_0f7a4 4 = .ok (.iload_n 0, 1) := by decide +kernel
theorem dJ9_abs_0f7a4_5 : decode cJ9_abs_0f7a4 5 = .ok (.ineg, 1) := by decide +kernel
theorem dJ9_abs_0f7a4_6 : decode cJ9_abs_0f7a4 6 = .ok (.goto 4, 3) := by decide +kernel
theorem dJ9_abs_0f7a4_9 : decode cJ9_abs_0f7a4 9 = .ok (.iload_n 0, 1) := by decide +kernel
theorem dJ9_abs_0f7a4_10 : decode cJ9_abs_0f7a4 10 = .ok (.ireturn, 1) := by decide +kernel
theorem dJ9_max_7cf53_0 : decode cJ9_max_7cf53 0 = .ok (.iload_n 0, 1) := by decide +kernel
theorem dJ9_max_7cf53_1 : decode cJ9_max_7cf53 1 = .ok (.iload_n 1, 1) := by decide +kernel
theorem dJ9_max_7cf53_2 : decode cJ9_max_7cf53 2 = .ok (.if_icmp .lt 7, 3) := by decide +kernel
theorem dJ9_max_7cf53_5 : decode cJ9_max_7cf53 5 = .ok (.iload_n 0, 1) := by decide +kernel
theorem dJ9_max_7cf53_6 : decode cJ9_max_7cf53 6 = .ok (.goto 4, 3) := by decide +kernel
theorem dJ9_max_7cf53_9 : decode cJ9_max_7cf53 9 = .ok (.iload_n 1, 1) := by decide +kernel
theorem dJ9_max_7cf53_10 : decode cJ9_max_7cf53 10 = .ok (.ireturn, 1) := by decide +kernel
theorem dJ9_min_7cf53_0 : decode cJ9_min_7cf53 0 = .ok (.iload_n 0, 1) := by decide +kernel
theorem dJ9_min_7cf53_1 : decode cJ9_min_7cf53 1 = .ok (.iload_n 1, 1) := by decide +kernel
theorem dJ9_min_7cf53_2 : decode cJ9_min_7cf53 2 = .ok (.if_icmp .gt 7, 3) := by decide +kernel
theorem dJ9_min_7cf53_5 : decode cJ9_min_7cf53 5 = .ok (.iload_n 0, 1) := by decide +kernel
theorem dJ9_min_7cf53_6 : decode cJ9_min_7cf53 6 = .ok (.goto 4, 3) := by decide +kernel
theorem dJ9_min_7cf53_9 : decode cJ9_min_7cf53 9 = .ok (.iload_n 1, 1) := by decide +kernel
theorem dJ9_min_7cf53_10 : decode cJ9_min_7cf53 10 = .ok (.ireturn, 1) := by decide +kernel
end
section
theorem dX5_init_0 : decode cX5_init 0 = .ok (.aload_n 0, 1) := by decide +kernel
theorem dX5_init_1 : decode cX5_init 1 = .ok (.invokespecial 1, 3) := by decide +kernel
theorem dX5_init_4 : decode cX5_init 4 = .ok (.aload_n 0, 1) := by decide +kernel
theorem dX5_init_5 : decode cX5_init 5 = .ok (.bipush 6, 2) := by decide +kernel
theorem dX5_init_7 : decode cX5_init 7 = .ok (.bipush 40, 2) := by decide +kernel
theorem dX5_init_9 : decode cX5_init 9 = .ok (.invokestatic 9, 3) := by decide +kernel
theorem dX5_init_12 : decode cX5_init 12 = .ok (.putfield 13, 3) := by decide +kernel
theorem dX5_init_15 : decode cX5_init 15 = .ok (.aload_n 0, 1) := by decide +kernel
theorem dX5_init_16 : decode cX5_init 16 = .ok (.iconst 4, 1) := by decide +kernel
theorem dX5_init_17 : decode cX5_init 17 = .ok (.bipush 60, 2) := by decide +kernel
theorem dX5_init_19 : decode cX5_init 19 = .ok (.invokestatic 9, 3) := by decide +kernel
theorem dX5_init_22 : decode cX5_init 22 = .ok (.putfield 17, 3) := by decide +kernel
theorem dX5_init_25 : decode cX5_init 25 = .ok (.aload_n 0, 1) := by decide +kernel
theorem dX5_init_26 : decode cX5_init 26 = .ok (.iconst 3, 1) := by decide +kernel
theorem dX5_init_27 : decode cX5_init 27 = .ok (.bipush 40, 2) := by decide +kernel
theorem dX5_init_29 : decode cX5_init 29 = .ok (.invokestatic 9, 3) := by decide +kernel
theorem dX5_init_32 : decode cX5_init 32 = .ok (.putfield 20, 3) := by decide +kernel
theorem dX5_init_35 : decode cX5_init 35 = .ok (.aload_n 0, 1) := by decide +kernel
theorem dX5_init_36 : decode cX5_init 36 = .ok (.new 23, 3) := by decide +kernel
theorem dX5_init_39 : decode cX5_init 39 = .ok (.dup, 1) := by decide +kernel
theorem dX5_init_40 : decode cX5_init 40 = .ok (.invokespecial 25, 3) := by decide +kernel
theorem dX5_init_43 : decode cX5_init 43 = .ok (.putfield 26, 3) := by decide +kernel
theorem dX5_init_46 : decode cX5_init 46 = .ok (.aload_n 0, 1) := by decide +kernel
theorem dX5_init_47 : decode cX5_init 47 = .ok (.new 30, 3) := by decide +kernel
theorem dX5_init_50 : decode cX5_init 50 = .ok (.dup, 1) := by decide +kernel
theorem dX5_init_51 : decode cX5_init 51 = .ok (.invokespecial 32, 3) := by decide +kernel
theorem dX5_init_54 : decode cX5_init 54 = .ok (.putfield 33, 3) := by decide +kernel
theorem dX5_init_57 : decode cX5_init 57 = .ok (.aload_n 0, 1) := by decide +kernel
theorem dX5_init_58 : decode cX5_init 58 = .ok (.new 37, 3) := by decide +kernel
theorem dX5_init_61 : decode cX5_init 61 = .ok (.dup, 1) := by decide +kernel
theorem dX5_init_62 : decode cX5_init 62 = .ok (.bipush 6, 2) := by decide +kernel
theorem dX5_init_64 : decode cX5_init 64 = .ok (.invokespecial 39, 3) := by decide +kernel
theorem dX5_init_67 : decode cX5_init 67 = .ok (.putfield 42, 3) := by decide +kernel
theorem dX5_init_70 : decode cX5_init 70 = .ok (.aload_n 0, 1) := by decide +kernel
theorem dX5_init_71 : decode cX5_init 71 = .ok (.new 46, 3) := by decide +kernel
theorem dX5_init_74 : decode cX5_init 74 = .ok (.dup, 1) := by decide +kernel
theorem dX5_init_75 : decode cX5_init 75 = .ok (.invokespecial 48, 3) := by decide +kernel
theorem dX5_init_78 : decode cX5_init 78 = .ok (.putfield 49, 3) := by decide +kernel
theorem dX5_init_81 : decode cX5_init 81 = .ok (.aload_n 0, 1) := by decide +kernel
theorem dX5_init_82 : decode cX5_init 82 = .ok (.new 46, 3) := by decide +kernel
theorem dX5_init_85 : decode cX5_init 85 = .ok (.dup, 1) := by decide +kernel
theorem dX5_init_86 : decode cX5_init 86 = .ok (.invokespecial 48, 3) := by decide +kernel
theorem dX5_init_89 : decode cX5_init 89 = .ok (.putfield 53, 3) := by decide +kernel
theorem dX5_init_92 : decode cX5_init 92 = .ok (.aload_n 0, 1) := by decide +kernel
theorem dX5_init_93 : decode cX5_init 93 = .ok (.lconst 1, 1) := by decide +kernel
theorem dX5_init_94 : decode cX5_init 94 = .ok (.putfield 56, 3) := by decide +kernel
theorem dX5_init_97 : decode cX5_init 97 = .ok (.aload_n 0, 1) := by decide +kernel
theorem dX5_init_98 : decode cX5_init 98 = .ok (.getfield 42, 3) := by decide +kernel
theorem dX5_init_101 : decode cX5_init 101 = .ok (.bipush 6, 2) := by decide +kernel
theorem dX5_init_103 : decode cX5_init 103 = .ok (.iconst 0, 1) := by decide +kernel
theorem dX5_init_104 : decode cX5_init 104 = .ok (.invokevirtual 60, 3) := by decide +kernel
theorem dX5_init_107 : decode cX5_init 107 = .ok (.return_, 1) := by decide +kernel
theorem dX5_found_0 : decode cX5_found 0 = .ok (.aload_n 0, 1) := by decide +kernel
theorem dX5_found_1 : decode cX5_found 1 = .ok (.iload_n 1, 1) := by decide +kernel
theorem dX5_found_2 : decode cX5_found 2 = .ok (.putfield 64, 3) := by decide +kernel
theorem dX5_found_5 : decode cX5_found 5 = .ok (.aload_n 0, 1) := by decide +kernel
theorem dX5_found_6 : decode cX5_found 6 = .ok (.getfield 42, 3) := by decide +kernel
theorem dX5_found_9 : decode cX5_found 9 = .ok (.iload_n 1, 1) := by decide +kernel
theorem dX5_found_10 : decode cX5_found 10 = .ok (.aload_n 0, 1) := by decide +kernel
theorem dX5_found_11 : decode cX5_found 11 = .ok (.getfield 42, 3) := by decide +kernel
theorem dX5_found_14 : decode cX5_found 14 = .ok (.iload_n 1, 1) := by decide +kernel
theorem dX5_found_15 : decode cX5_found 15 = .ok (.invokevirtual 68, 3) := by decide +kernel
theorem dX5_found_18 : decode cX5_found 18 = .ok (.iconst 1, 1) := by decide +kernel
theorem dX5_found_19 : decode cX5_found 19 = .ok (.iadd, 1) := by decide +kernel
theorem dX5_found_20 : decode cX5_found 20 = .ok (.invokevirtual 72, 3) := by decide +kernel
theorem dX5_found_23 : decode cX5_found 23 = .ok (.bipush (-3), 2) := by decide +kernel
theorem dX5_found_25 : decode cX5_found 25 = .ok (.ireturn, 1) := by decide +kernel
theorem dX5_within_0 : decode cX5_within 0 = .ok (.iload_n 0, 1) := by decide +kernel
theorem dX5_within_1 : decode cX5_within 1 = .ok (.iload_n 1, 1) := by decide +kernel
theorem dX5_within_2 : decode cX5_within 2 = .ok (.if_icmp .lt 12, 3) := by decide +kernel
theorem dX5_within_5 : decode cX5_within 5 = .ok (.iload_n 0, 1) := by decide +kernel
theorem dX5_within_6 : decode cX5_within 6 = .ok (.iload_n 2, 1) := by decide +kernel
theorem dX5_within_7 : decode cX5_within 7 = .ok (.if_icmp .gt 7, 3) := by decide +kernel
theorem dX5_within_10 : decode cX5_within 10 = .ok (.iconst 1, 1) := by decide +kernel
theorem dX5_within_11 : decode cX5_within 11 = .ok (.goto 4, 3) := by decide +kernel
theorem dX5_within_14 : decode cX5_within 14 = .ok (.iconst 0, 1) := by decide +kernel
theorem dX5_within_15 : decode cX5_within 15 = .ok (.ireturn, 1) := by decide +kernel
theorem dX5_isDate_0 : decode cX5_isDate 0 = .ok (.iload_n 0, 1) := by decide +kernel
theorem dX5_isDate_1 : decode cX5_isDate 1 = .ok (.iconst 0, 1) := by decide +kernel
theorem dX5_isDate_2 : decode cX5_isDate 2 = .ok (.bipush 99, 2) := by decide +kernel
theorem dX5_isDate_4 : decode cX5_isDate 4 = .ok (.invokestatic 75, 3) := by decide +kernel
theorem dX5_isDate_7 : decode cX5_isDate 7 = .ok (.ireturn, 1) := by decide +kernel
theorem dX5_missing_0 : decode cX5_missing 0 = .ok (.iconst 0, 1) := by decide +kernel
theorem dX5_missing_1 : decode cX5_missing 1 = .ok (.iload_n 0, 1) := by decide +kernel
theorem dX5_missing_2 : decode cX5_missing 2 = .ok (.invokestatic 79, 3) := by decide +kernel
theorem dX5_missing_5 : decode cX5_missing 5 = .ok (.anewarray 37, 3) := by decide +kernel
theorem dX5_missing_8 : decode cX5_missing 8 = .ok (.astore_n 2, 1) := by decide +kernel
theorem dX5_missing_9 : decode cX5_missing 9 = .ok (.iconst 0, 1) := by decide +kernel
theorem dX5_missing_10 : decode cX5_missing 10 = .ok (.istore_n 3, 1) := by decide +kernel
theorem dX5_missing_11 : decode cX5_missing 11 = .ok (.iload_n 3, 1) := by decide +kernel
theorem dX5_missing_12 : decode cX5_missing 12 = .ok (.aload_n 2, 1) := by decide +kernel
theorem dX5_missing_13 : decode cX5_missing 13 = .ok (.arraylength, 1) := by decide +kernel
theorem dX5_missing_14 : decode cX5_missing 14 = .ok (.if_icmp .ge 20, 3) := by decide +kernel
theorem dX5_missing_17 : decode cX5_missing 17 = .ok (.aload_n 2, 1) := by decide +kernel
theorem dX5_missing_18 : decode cX5_missing 18 = .ok (.iload_n 3, 1) := by decide +kernel
theorem dX5_missing_19 : decode cX5_missing 19 = .ok (.new 37, 3) := by decide +kernel
theorem dX5_missing_22 : decode cX5_missing 22 = .ok (.dup, 1) := by decide +kernel
theorem dX5_missing_23 : decode cX5_missing 23 = .ok (.iload_n 1, 1) := by decide +kernel
theorem dX5_missing_24 : decode cX5_missing 24 = .ok (.invokespecial 39, 3) := by decide +kernel
theorem dX5_missing_27 : decode cX5_missing 27 = .ok (.aastore, 1) := by decide +kernel
theorem dX5_missing_28 : decode cX5_missing 28 = .ok (.iinc 3 1, 3) := by decide +kernel
theorem dX5_missing_31 : decode cX5_missing 31 = .ok (.goto (-20), 3) := by decide +kernel
theorem dX5_missing_34 : decode cX5_missing 34 = .ok (.aload_n 2, 1) := by decide +kernel
theorem dX5_missing_35 : decode cX5_missing 35 = .ok (.areturn, 1) := by decide +kernel
theorem dX5_pick_0 : decode cX5_pick 0 = .ok (.iload_n 1, 1) := by decide +kernel
theorem dX5_pick_1 : decode cX5_pick 1 = .ok (.ifCond .lt 15, 3) := by decide +kernel
theorem dX5_pick_4 : decode cX5_pick 4 = .ok (.iload_n 1, 1) := by decide +kernel
theorem dX5_pick_5 : decode cX5_pick 5 = .ok (.aload_n 0, 1) := by decide +kernel
theorem dX5_pick_6 : decode cX5_pick 6 = .ok (.arraylength, 1) := by decide +kernel
theorem dX5_pick_7 : decode cX5_pick 7 = .ok (.if_icmp .ge 9, 3) := by decide +kernel
theorem dX5_pick_10 : decode cX5_pick 10 = .ok (.aload_n 0, 1) := by decide +kernel
theorem dX5_pick_11 : decode cX5_pick 11 = .ok (.iload_n 1, 1) := by decide +kernel
theorem dX5_pick_12 : decode cX5_pick 12 = .ok (.aaload, 1) := by decide +kernel
theorem dX5_pick_13 : decode cX5_pick 13 = .ok (.goto 4, 3) := by decide +kernel
theorem dX5_pick_16 : decode cX5_pick 16 = .ok (.aconst_null, 1) := by decide +kernel
theorem dX5_pick_17 : decode cX5_pick 17 = .ok (.areturn, 1) := by decide +kernel
theorem dX5_refused_0 : decode cX5_refused 0 = .ok (.aload_n 1, 1) := by decide +kernel
theorem dX5_refused_1 : decode cX5_refused 1 = .ok (.ifnonnull 5, 3) := by decide +kernel
theorem dX5_refused_4 : decode cX5_refused 4 = .ok (.iconst (-1), 1) := by decide +kernel
theorem dX5_refused_5 : decode cX5_refused 5 = .ok (.ireturn, 1) := by decide +kernel
theorem dX5_refused_6 : decode cX5_refused 6 = .ok (.aload_n 1, 1) := by decide +kernel
theorem dX5_refused_7 : decode cX5_refused 7 = .ok (.getfield 85, 3) := by decide +kernel
theorem dX5_refused_10 : decode cX5_refused 10 = .ok (.ifCond .ge 11, 3) := by decide +kernel
theorem dX5_refused_13 : decode cX5_refused 13 = .ok (.aload_n 0, 1) := by decide +kernel
theorem dX5_refused_14 : decode cX5_refused 14 = .ok (.iconst 1, 1) := by decide +kernel
theorem dX5_refused_15 : decode cX5_refused 15 = .ok (.invokevirtual 88, 3) := by decide +kernel
theorem dX5_refused_18 : decode cX5_refused 18 = .ok (.goto 4, 3) := by decide +kernel
theorem dX5_refused_21 : decode cX5_refused 21 = .ok (.iconst 0, 1) := by decide +kernel
theorem dX5_refused_22 : decode cX5_refused 22 = .ok (.ireturn, 1) := by decide +kernel
theorem dX5_refusedAt_0 : decode cX5_refusedAt 0 = .ok (.aload_n 0, 1) := by decide +kernel
theorem dX5_refusedAt_1 : decode cX5_refusedAt 1 = .ok (.aload_n 1, 1) := by decide +kernel
theorem dX5_refusedAt_2 : decode cX5_refusedAt 2 = .ok (.invokevirtual 91, 3) := by decide +kernel
theorem dX5_refusedAt_5 : decode cX5_refusedAt 5 = .ok (.istore_n 3, 1) := by decide +kernel
theorem dX5_refusedAt_6 : decode cX5_refusedAt 6 = .ok (.aload_n 1, 1) := by decide +kernel
theorem dX5_refusedAt_7 : decode cX5_refusedAt 7 = .ok (.ifnull 7, 3) := by decide +kernel
theorem dX5_refusedAt_10 : decode cX5_refusedAt 10 = .ok (.iload_n 3, 1) := by decide +kernel
theorem dX5_refusedAt_11 : decode cX5_refusedAt 11 = .ok (.ifCond .eq 5, 3) := by decide +kernel
theorem dX5_refusedAt_14 : decode cX5_refusedAt 14 = .ok (.iload_n 3, 1) := by decide +kernel
theorem dX5_refusedAt_15 : decode cX5_refusedAt 15 = .ok (.ireturn, 1) := by decide +kernel
theorem dX5_refusedAt_16 : decode cX5_refusedAt 16 = .ok (.aload_n 1, 1) := by decide +kernel
theorem dX5_refusedAt_17 : decode cX5_refusedAt 17 = .ok (.iload_n 2, 1) := by decide +kernel
theorem dX5_refusedAt_18 : decode cX5_refusedAt 18 = .ok (.invokevirtual 95, 3) := by decide +kernel
theorem dX5_refusedAt_21 : decode cX5_refusedAt 21 = .ok (.ifCond .eq 7, 3) := by decide +kernel
theorem dX5_refusedAt_24 : decode cX5_refusedAt 24 = .ok (.iconst 0, 1) := by decide +kernel
theorem dX5_refusedAt_25 : decode cX5_refusedAt 25 = .ok (.goto 8, 3) := by decide +kernel
theorem dX5_refusedAt_28 : decode cX5_refusedAt 28 = .ok (.aload_n 0, 1) := by decide +kernel
theorem dX5_refusedAt_29 : decode cX5_refusedAt 29 = .ok (.iconst 2, 1) := by decide +kernel
theorem dX5_refusedAt_30 : decode cX5_refusedAt 30 = .ok (.invokevirtual 88, 3) := by decide +kernel
theorem dX5_refusedAt_33 : decode cX5_refusedAt 33 = .ok (.ireturn, 1) := by decide +kernel
theorem dX5_present_0 : decode cX5_present 0 = .ok (.iconst 0, 1) := by decide +kernel
theorem dX5_present_1 : decode cX5_present 1 = .ok (.istore_n 1, 1) := by decide +kernel
theorem dX5_present_2 : decode cX5_present 2 = .ok (.iconst 0, 1) := by decide +kernel
theorem dX5_present_3 : decode cX5_present 3 = .ok (.istore_n 2, 1) := by decide +kernel
theorem dX5_present_4 : decode cX5_present 4 = .ok (.iload_n 2, 1) := by decide +kernel
theorem dX5_present_5 : decode cX5_present 5 = .ok (.aload_n 0, 1) := by decide +kernel
theorem dX5_present_6 : decode cX5_present 6 = .ok (.arraylength, 1) := by decide +kernel
theorem dX5_present_7 : decode cX5_present 7 = .ok (.if_icmp .ge 27, 3) := by decide +kernel
theorem dX5_present_10 : decode cX5_present 10 = .ok (.aload_n 0, 1) := by decide +kernel
theorem dX5_present_11 : decode cX5_present 11 = .ok (.iload_n 2, 1) := by decide +kernel
theorem dX5_present_12 : decode cX5_present 12 = .ok (.aaload, 1) := by decide +kernel
theorem dX5_present_13 : decode cX5_present 13 = .ok (.astore_n 3, 1) := by decide +kernel
theorem dX5_present_14 : decode cX5_present 14 = .ok (.aload_n 3, 1) := by decide +kernel
theorem dX5_present_15 : decode cX5_present 15 = .ok (.ifnull 13, 3) := by decide +kernel
theorem dX5_present_18 : decode cX5_present 18 = .ok (.aload_n 3, 1) := by decide +kernel
theorem dX5_present_19 : decode cX5_present 19 = .ok (.getfield 85, 3) := by decide +kernel
theorem dX5_present_22 : decode cX5_present 22 = .ok (.ifCond .lt 6, 3) := by decide +kernel
theorem dX5_present_25 : decode cX5_present 25 = .ok (.iinc 1 1, 3) := by decide +kernel
theorem dX5_present_28 : decode cX5_present 28 = .ok (.iinc 2 1, 3) := by decide +kernel
theorem dX5_present_31 : decode cX5_present 31 = .ok (.goto (-27), 3) := by decide +kernel
theorem dX5_present_34 : decode cX5_present 34 = .ok (.iload_n 1, 1) := by decide +kernel
theorem dX5_present_35 : decode cX5_present 35 = .ok (.ireturn, 1) := by decide +kernel
theorem dX5_row_0 : decode cX5_row 0 = .ok (.aload_n 0, 1) := by decide +kernel
theorem dX5_row_1 : decode cX5_row 1 = .ok (.getfield 13, 3) := by decide +kernel
theorem dX5_row_4 : decode cX5_row 4 = .ok (.iload_n 1, 1) := by decide +kernel
theorem dX5_row_5 : decode cX5_row 5 = .ok (.invokestatic 99, 3) := by decide +kernel
theorem dX5_row_8 : decode cX5_row 8 = .ok (.astore_n 3, 1) := by decide +kernel
theorem dX5_row_9 : decode cX5_row 9 = .ok (.aload_n 3, 1) := by decide +kernel
theorem dX5_row_10 : decode cX5_row 10 = .ok (.ifnull 9, 3) := by decide +kernel
theorem dX5_row_13 : decode cX5_row 13 = .ok (.iload_n 2, 1) := by decide +kernel
theorem dX5_row_14 : decode cX5_row 14 = .ok (.bipush 40, 2) := by decide +kernel
theorem dX5_row_16 : decode cX5_row 16 = .ok (.if_icmp .le 5, 3) := by decide +kernel
theorem dX5_row_19 : decode cX5_row 19 = .ok (.iconst (-1), 1) := by decide +kernel
theorem dX5_row_20 : decode cX5_row 20 = .ok (.ireturn, 1) := by decide +kernel
theorem dX5_row_21 : decode cX5_row 21 = .ok (.iload_n 2, 1) := by decide +kernel
theorem dX5_row_22 : decode cX5_row 22 = .ok (.ifCond .ge 9, 3) := by decide +kernel
theorem dX5_row_25 : decode cX5_row 25 = .ok (.aload_n 0, 1) := by decide +kernel
theorem dX5_row_26 : decode cX5_row 26 = .ok (.iconst 5, 1) := by decide +kernel
theorem dX5_row_27 : decode cX5_row 27 = .ok (.invokevirtual 88, 3) := by decide +kernel
theorem dX5_row_30 : decode cX5_row 30 = .ok (.ireturn, 1) := by decide +kernel
theorem dX5_row_31 : decode cX5_row 31 = .ok (.aload_n 3, 1) := by decide +kernel
theorem dX5_row_32 : decode cX5_row 32 = .ok (.iload_n 2, 1) := by decide +kernel
theorem dX5_row_33 : decode cX5_row 33 = .ok (.iconst 0, 1) := by decide +kernel
theorem dX5_row_34 : decode cX5_row 34 = .ok (.invokevirtual 60, 3) := by decide +kernel
theorem dX5_row_37 : decode cX5_row 37 = .ok (.iload_n 2, 1) := by decide +kernel
theorem dX5_row_38 : decode cX5_row 38 = .ok (.ireturn, 1) := by decide +kernel
theorem dX5_lay_0 : decode cX5_lay 0 = .ok (.aload_n 0, 1) := by decide +kernel
theorem dX5_lay_1 : decode cX5_lay 1 = .ok (.getfield 13, 3) := by decide +kernel
theorem dX5_lay_4 : decode cX5_lay 4 = .ok (.iload_n 1, 1) := by decide +kernel
theorem dX5_lay_5 : decode cX5_lay 5 = .ok (.invokestatic 99, 3) := by decide +kernel
theorem dX5_lay_8 : decode cX5_lay 8 = .ok (.astore 4, 2) := by decide +kernel
theorem dX5_lay_10 : decode cX5_lay 10 = .ok (.aload_n 0, 1) := by decide +kernel
theorem dX5_lay_11 : decode cX5_lay 11 = .ok (.aload 4, 2) := by decide +kernel
theorem dX5_lay_13 : decode cX5_lay 13 = .ok (.iload_n 2, 1) := by decide +kernel
theorem dX5_lay_14 : decode cX5_lay 14 = .ok (.invokevirtual 103, 3) := by decide +kernel
theorem dX5_lay_17 : decode cX5_lay 17 = .ok (.istore 5, 2) := by decide +kernel
theorem dX5_lay_19 : decode cX5_lay 19 = .ok (.aload 4, 2) := by decide +kernel
theorem dX5_lay_21 : decode cX5_lay 21 = .ok (.ifnull 8, 3) := by decide +kernel
theorem dX5_lay_24 : decode cX5_lay 24 = .ok (.iload 5, 2) := by decide +kernel
theorem dX5_lay_26 : decode cX5_lay 26 = .ok (.ifCond .eq 6, 3) := by decide +kernel
theorem dX5_lay_29 : decode cX5_lay 29 = .ok (.iload 5, 2) := by decide +kernel
theorem dX5_lay_31 : decode cX5_lay 31 = .ok (.ireturn, 1) := by decide +kernel
theorem dX5_lay_32 : decode cX5_lay 32 = .ok (.aload_n 0, 1) := by decide +kernel
theorem dX5_lay_33 : decode cX5_lay 33 = .ok (.aload 4, 2) := by decide +kernel
theorem dX5_lay_35 : decode cX5_lay 35 = .ok (.iload_n 2, 1) := by decide +kernel
theorem dX5_lay_36 : decode cX5_lay 36 = .ok (.invokevirtual 68, 3) := by decide +kernel
theorem dX5_lay_39 : decode cX5_lay 39 = .ok (.putfield 107, 3) := by decide +kernel
theorem dX5_lay_42 : decode cX5_lay 42 = .ok (.aload 4, 2) := by decide +kernel
theorem dX5_lay_44 : decode cX5_lay 44 = .ok (.iload_n 2, 1) := by decide +kernel
theorem dX5_lay_45 : decode cX5_lay 45 = .ok (.iload_n 3, 1) := by decide +kernel
theorem dX5_lay_46 : decode cX5_lay 46 = .ok (.invokevirtual 72, 3) := by decide +kernel
theorem dX5_lay_49 : decode cX5_lay 49 = .ok (.iconst 1, 1) := by decide +kernel
theorem dX5_lay_50 : decode cX5_lay 50 = .ok (.ireturn, 1) := by decide +kernel
theorem dX5_at_0 : decode cX5_at 0 = .ok (.aload_n 0, 1) := by decide +kernel
theorem dX5_at_1 : decode cX5_at 1 = .ok (.getfield 13, 3) := by decide +kernel
theorem dX5_at_4 : decode cX5_at 4 = .ok (.iload_n 1, 1) := by decide +kernel
theorem dX5_at_5 : decode cX5_at 5 = .ok (.invokestatic 99, 3) := by decide +kernel
theorem dX5_at_8 : decode cX5_at 8 = .ok (.astore_n 3, 1) := by decide +kernel
theorem dX5_at_9 : decode cX5_at 9 = .ok (.aload_n 0, 1) := by decide +kernel
theorem dX5_at_10 : decode cX5_at 10 = .ok (.aload_n 3, 1) := by decide +kernel
theorem dX5_at_11 : decode cX5_at 11 = .ok (.iload_n 2, 1) := by decide +kernel
theorem dX5_at_12 : decode cX5_at 12 = .ok (.invokevirtual 103, 3) := by decide +kernel
theorem dX5_at_15 : decode cX5_at 15 = .ok (.istore 4, 2) := by decide +kernel
theorem dX5_at_17 : decode cX5_at 17 = .ok (.aload_n 3, 1) := by decide +kernel
theorem dX5_at_18 : decode cX5_at 18 = .ok (.ifnull 8, 3) := by decide +kernel
theorem dX5_at_21 : decode cX5_at 21 = .ok (.iload 4, 2) := by decide +kernel
theorem dX5_at_23 : decode cX5_at 23 = .ok (.ifCond .eq 6, 3) := by decide +kernel
theorem dX5_at_26 : decode cX5_at 26 = .ok (.iload 4, 2) := by decide +kernel
theorem dX5_at_28 : decode cX5_at 28 = .ok (.ireturn, 1) := by decide +kernel
theorem dX5_at_29 : decode cX5_at 29 = .ok (.aload_n 0, 1) := by decide +kernel
theorem dX5_at_30 : decode cX5_at 30 = .ok (.aload_n 3, 1) := by decide +kernel
theorem dX5_at_31 : decode cX5_at 31 = .ok (.iload_n 2, 1) := by decide +kernel
theorem dX5_at_32 : decode cX5_at 32 = .ok (.invokevirtual 68, 3) := by decide +kernel
theorem dX5_at_35 : decode cX5_at 35 = .ok (.putfield 107, 3) := by decide +kernel
theorem dX5_at_38 : decode cX5_at 38 = .ok (.iconst 1, 1) := by decide +kernel
theorem dX5_at_39 : decode cX5_at 39 = .ok (.ireturn, 1) := by decide +kernel
theorem dX5_tear_0 : decode cX5_tear 0 = .ok (.aload_n 0, 1) := by decide +kernel
theorem dX5_tear_1 : decode cX5_tear 1 = .ok (.getfield 13, 3) := by decide +kernel
theorem dX5_tear_4 : decode cX5_tear 4 = .ok (.iload_n 1, 1) := by decide +kernel
theorem dX5_tear_5 : decode cX5_tear 5 = .ok (.invokestatic 99, 3) := by decide +kernel
theorem dX5_tear_8 : decode cX5_tear 8 = .ok (.astore_n 2, 1) := by decide +kernel
theorem dX5_tear_9 : decode cX5_tear 9 = .ok (.aload_n 0, 1) := by decide +kernel
theorem dX5_tear_10 : decode cX5_tear 10 = .ok (.aload_n 2, 1) := by decide +kernel
theorem dX5_tear_11 : decode cX5_tear 11 = .ok (.invokevirtual 91, 3) := by decide +kernel
theorem dX5_tear_14 : decode cX5_tear 14 = .ok (.istore_n 3, 1) := by decide +kernel
theorem dX5_tear_15 : decode cX5_tear 15 = .ok (.aload_n 2, 1) := by decide +kernel
theorem dX5_tear_16 : decode cX5_tear 16 = .ok (.ifnull 7, 3) := by decide +kernel
theorem dX5_tear_19 : decode cX5_tear 19 = .ok (.iload_n 3, 1) := by decide +kernel
theorem dX5_tear_20 : decode cX5_tear 20 = .ok (.ifCond .eq 5, 3) := by decide +kernel
theorem dX5_tear_23 : decode cX5_tear 23 = .ok (.iload_n 3, 1) := by decide +kernel
theorem dX5_tear_24 : decode cX5_tear 24 = .ok (.ireturn, 1) := by decide +kernel
theorem dX5_tear_25 : decode cX5_tear 25 = .ok (.aload_n 2, 1) := by decide +kernel
theorem dX5_tear_26 : decode cX5_tear 26 = .ok (.invokevirtual 110, 3) := by decide +kernel
theorem dX5_tear_29 : decode cX5_tear 29 = .ok (.iconst 1, 1) := by decide +kernel
theorem dX5_tear_30 : decode cX5_tear 30 = .ok (.ireturn, 1) := by decide +kernel
theorem dX5_copy_0 : decode cX5_copy 0 = .ok (.aload_n 0, 1) := by decide +kernel
theorem dX5_copy_1 : decode cX5_copy 1 = .ok (.getfield 13, 3) := by decide +kernel
theorem dX5_copy_4 : decode cX5_copy 4 = .ok (.iload_n 1, 1) := by decide +kernel
theorem dX5_copy_5 : decode cX5_copy 5 = .ok (.invokestatic 99, 3) := by decide +kernel
theorem dX5_copy_8 : decode cX5_copy 8 = .ok (.astore 6, 2) := by decide +kernel
theorem dX5_copy_10 : decode cX5_copy 10 = .ok (.aload_n 0, 1) := by decide +kernel
theorem dX5_copy_11 : decode cX5_copy 11 = .ok (.getfield 13, 3) := by decide +kernel
theorem dX5_copy_14 : decode cX5_copy 14 = .ok (.iload_n 3, 1) := by decide +kernel
theorem dX5_copy_15 : decode cX5_copy 15 = .ok (.invokestatic 99, 3) := by decide +kernel
theorem dX5_copy_18 : decode cX5_copy 18 = .ok (.astore 7, 2) := by decide +kernel
theorem dX5_copy_20 : decode cX5_copy 20 = .ok (.aload 6, 2) := by decide +kernel
theorem dX5_copy_22 : decode cX5_copy 22 = .ok (.ifnull 8, 3) := by decide +kernel
theorem dX5_copy_25 : decode cX5_copy 25 = .ok (.aload 7, 2) := by decide +kernel
theorem dX5_copy_27 : decode cX5_copy 27 = .ok (.ifnonnull 5, 3) := by decide +kernel
theorem dX5_copy_30 : decode cX5_copy 30 = .ok (.iconst (-1), 1) := by decide +kernel
theorem dX5_copy_31 : decode cX5_copy 31 = .ok (.ireturn, 1) := by decide +kernel
theorem dX5_copy_32 : decode cX5_copy 32 = .ok (.iload 5, 2) := by decide +kernel
theorem dX5_copy_34 : decode cX5_copy 34 = .ok (.ifCond .ge 9, 3) := by decide +kernel
theorem dX5_copy_37 : decode cX5_copy 37 = .ok (.aload_n 0, 1) := by decide +kernel
theorem dX5_copy_38 : decode cX5_copy 38 = .ok (.iconst 5, 1) := by decide +kernel
theorem dX5_copy_39 : decode cX5_copy 39 = .ok (.invokevirtual 88, 3) := by decide +kernel
theorem dX5_copy_42 : decode cX5_copy 42 = .ok (.ireturn, 1) := by decide +kernel
theorem dX5_copy_43 : decode cX5_copy 43 = .ok (.aload 6, 2) := by decide +kernel
theorem dX5_copy_45 : decode cX5_copy 45 = .ok (.getfield 85, 3) := by decide +kernel
theorem dX5_copy_48 : decode cX5_copy 48 = .ok (.ifCond .lt 11, 3) := by decide +kernel
theorem dX5_copy_51 : decode cX5_copy 51 = .ok (.aload 7, 2) := by decide +kernel
theorem dX5_copy_53 : decode cX5_copy 53 = .ok (.getfield 85, 3) := by decide +kernel
theorem dX5_copy_56 : decode cX5_copy 56 = .ok (.ifCond .ge 9, 3) := by decide +kernel
theorem dX5_copy_59 : decode cX5_copy 59 = .ok (.aload_n 0, 1) := by decide +kernel
theorem dX5_copy_60 : decode cX5_copy 60 = .ok (.iconst 1, 1) := by decide +kernel
theorem dX5_copy_61 : decode cX5_copy 61 = .ok (.invokevirtual 88, 3) := by decide +kernel
theorem dX5_copy_64 : decode cX5_copy 64 = .ok (.ireturn, 1) := by decide +kernel
theorem dX5_copy_65 : decode cX5_copy 65 = .ok (.aload 6, 2) := by decide +kernel
theorem dX5_copy_67 : decode cX5_copy 67 = .ok (.iload_n 2, 1) := by decide +kernel
theorem dX5_copy_68 : decode cX5_copy 68 = .ok (.iload 5, 2) := by decide +kernel
theorem dX5_copy_70 : decode cX5_copy 70 = .ok (.invokevirtual 113, 3) := by decide +kernel
theorem dX5_copy_73 : decode cX5_copy 73 = .ok (.ifCond .eq 15, 3) := by decide +kernel
theorem dX5_copy_76 : decode cX5_copy 76 = .ok (.aload 7, 2) := by decide +kernel
theorem dX5_copy_78 : decode cX5_copy 78 = .ok (.iload 4, 2) := by decide +kernel
theorem dX5_copy_80 : decode cX5_copy 80 = .ok (.iload 5, 2) := by decide +kernel
theorem dX5_copy_82 : decode cX5_copy 82 = .ok (.invokevirtual 113, 3) := by decide +kernel
theorem dX5_copy_85 : decode cX5_copy 85 = .ok (.ifCond .ne 9, 3) := by decide +kernel
theorem dX5_copy_88 : decode cX5_copy 88 = .ok (.aload_n 0, 1) := by decide +kernel
theorem dX5_copy_89 : decode cX5_copy 89 = .ok (.iconst 2, 1) := by decide +kernel
theorem dX5_copy_90 : decode cX5_copy 90 = .ok (.invokevirtual 88, 3) := by decide +kernel
theorem dX5_copy_93 : decode cX5_copy 93 = .ok (.ireturn, 1) := by decide +kernel
theorem dX5_copy_94 : decode cX5_copy 94 = .ok (.aload 6, 2) := by decide +kernel
theorem dX5_copy_96 : decode cX5_copy 96 = .ok (.iload_n 2, 1) := by decide +kernel
theorem dX5_copy_97 : decode cX5_copy 97 = .ok (.aload 7, 2) := by decide +kernel
theorem dX5_copy_99 : decode cX5_copy 99 = .ok (.iload 4, 2) := by decide +kernel
theorem dX5_copy_101 : decode cX5_copy 101 = .ok (.iload 5, 2) := by decide +kernel
theorem dX5_copy_103 : decode cX5_copy 103 = .ok (.invokevirtual 117, 3) := by decide +kernel
theorem dX5_copy_106 : decode cX5_copy 106 = .ok (.iconst 1, 1) := by decide +kernel
theorem dX5_copy_107 : decode cX5_copy 107 = .ok (.ireturn, 1) := by decide +kernel
theorem dX5_mean_0 : decode cX5_mean 0 = .ok (.aload_n 0, 1) := by decide +kernel
theorem dX5_mean_1 : decode cX5_mean 1 = .ok (.getfield 13, 3) := by decide +kernel
theorem dX5_mean_4 : decode cX5_mean 4 = .ok (.iload_n 1, 1) := by decide +kernel
theorem dX5_mean_5 : decode cX5_mean 5 = .ok (.invokestatic 99, 3) := by decide +kernel
theorem dX5_mean_8 : decode cX5_mean 8 = .ok (.astore_n 2, 1) := by decide +kernel
theorem dX5_mean_9 : decode cX5_mean 9 = .ok (.aload_n 0, 1) := by decide +kernel
theorem dX5_mean_10 : decode cX5_mean 10 = .ok (.aload_n 2, 1) := by decide +kernel
theorem dX5_mean_11 : decode cX5_mean 11 = .ok (.invokevirtual 91, 3) := by decide +kernel
theorem dX5_mean_14 : decode cX5_mean 14 = .ok (.istore_n 3, 1) := by decide +kernel
theorem dX5_mean_15 : decode cX5_mean 15 = .ok (.aload_n 2, 1) := by decide +kernel
theorem dX5_mean_16 : decode cX5_mean 16 = .ok (.ifnull 7, 3) := by decide +kernel
theorem dX5_mean_19 : decode cX5_mean 19 = .ok (.iload_n 3, 1) := by decide +kernel
theorem dX5_mean_20 : decode cX5_mean 20 = .ok (.ifCond .eq 5, 3) := by decide +kernel
theorem dX5_mean_23 : decode cX5_mean 23 = .ok (.iload_n 3, 1) := by decide +kernel
theorem dX5_mean_24 : decode cX5_mean 24 = .ok (.ireturn, 1) := by decide +kernel
theorem dX5_mean_25 : decode cX5_mean 25 = .ok (.aload_n 2, 1) := by decide +kernel
theorem dX5_mean_26 : decode cX5_mean 26 = .ok (.getfield 85, 3) := by decide +kernel
theorem dX5_mean_29 : decode cX5_mean 29 = .ok (.ifCond .ne 9, 3) := by decide +kernel
theorem dX5_mean_32 : decode cX5_mean 32 = .ok (.aload_n 0, 1) := by decide +kernel
theorem dX5_mean_33 : decode cX5_mean 33 = .ok (.iconst 4, 1) := by decide +kernel
theorem dX5_mean_34 : decode cX5_mean 34 = .ok (.invokevirtual 88, 3) := by decide +kernel
theorem dX5_mean_37 : decode cX5_mean 37 = .ok (.ireturn, 1) := by decide +kernel
theorem dX5_mean_38 : decode cX5_mean 38 = .ok (.lconst 0, 1) := by decide +kernel
theorem dX5_mean_39 : decode cX5_mean 39 = .ok (.lstore 4, 2) := by decide +kernel
theorem dX5_mean_41 : decode cX5_mean 41 = .ok (.iconst 0, 1) := by decide +kernel
theorem dX5_mean_42 : decode cX5_mean 42 = .ok (.istore 6, 2) := by decide +kernel
theorem dX5_mean_44 : decode cX5_mean 44 = .ok (.iload 6, 2) := by decide +kernel
theorem dX5_mean_46 : decode cX5_mean 46 = .ok (.aload_n 2, 1) := by decide +kernel
theorem dX5_mean_47 : decode cX5_mean 47 = .ok (.getfield 85, 3) := by decide +kernel
theorem dX5_mean_50 : decode cX5_mean 50 = .ok (.if_icmp .ge 21, 3) := by decide +kernel
theorem dX5_mean_53 : decode cX5_mean 53 = .ok (.lload 4, 2) := by decide +kernel
theorem dX5_mean_55 : decode cX5_mean 55 = .ok (.aload_n 2, 1) := by decide +kernel
theorem dX5_mean_56 : decode cX5_mean 56 = .ok (.iload 6, 2) := by decide +kernel
theorem dX5_mean_58 : decode cX5_mean 58 = .ok (.invokevirtual 68, 3) := by decide +kernel
theorem dX5_mean_61 : decode cX5_mean 61 = .ok (.i2l, 1) := by decide +kernel
theorem dX5_mean_62 : decode cX5_mean 62 = .ok (.ladd, 1) := by decide +kernel
theorem dX5_mean_63 : decode cX5_mean 63 = .ok (.lstore 4, 2) := by decide +kernel
theorem dX5_mean_65 : decode cX5_mean 65 = .ok (.iinc 6 1, 3) := by decide +kernel
theorem dX5_mean_68 : decode cX5_mean 68 = .ok (.goto (-24), 3) := by decide +kernel
theorem dX5_mean_71 : decode cX5_mean 71 = .ok (.aload_n 0, 1) := by decide +kernel
theorem dX5_mean_72 : decode cX5_mean 72 = .ok (.lload 4, 2) := by decide +kernel
theorem dX5_mean_74 : decode cX5_mean 74 = .ok (.aload_n 2, 1) := by decide +kernel
theorem dX5_mean_75 : decode cX5_mean 75 = .ok (.getfield 85, 3) := by decide +kernel
theorem dX5_mean_78 : decode cX5_mean 78 = .ok (.i2l, 1) := by decide +kernel
theorem dX5_mean_79 : decode cX5_mean 79 = .ok (.ldiv, 1) := by decide +kernel
theorem dX5_mean_80 : decode cX5_mean 80 = .ok (.l2i, 1) := by decide +kernel
theorem dX5_mean_81 : decode cX5_mean 81 = .ok (.putfield 107, 3) := by decide +kernel
theorem dX5_mean_84 : decode cX5_mean 84 = .ok (.iconst 1, 1) := by decide +kernel
theorem dX5_mean_85 : decode cX5_mean 85 = .ok (.ireturn, 1) := by decide +kernel
theorem dX5_text_0 : decode cX5_text 0 = .ok (.aload_n 0, 1) := by decide +kernel
theorem dX5_text_1 : decode cX5_text 1 = .ok (.getfield 17, 3) := by decide +kernel
theorem dX5_text_4 : decode cX5_text 4 = .ok (.iload_n 1, 1) := by decide +kernel
theorem dX5_text_5 : decode cX5_text 5 = .ok (.invokestatic 99, 3) := by decide +kernel
theorem dX5_text_8 : decode cX5_text 8 = .ok (.astore_n 3, 1) := by decide +kernel
theorem dX5_text_9 : decode cX5_text 9 = .ok (.aload_n 3, 1) := by decide +kernel
theorem dX5_text_10 : decode cX5_text 10 = .ok (.ifnull 9, 3) := by decide +kernel
theorem dX5_text_13 : decode cX5_text 13 = .ok (.iload_n 2, 1) := by decide +kernel
theorem dX5_text_14 : decode cX5_text 14 = .ok (.bipush 60, 2) := by decide +kernel
theorem dX5_text_16 : decode cX5_text 16 = .ok (.if_icmp .le 5, 3) := by decide +kernel
theorem dX5_text_19 : decode cX5_text 19 = .ok (.iconst (-1), 1) := by decide +kernel
theorem dX5_text_20 : decode cX5_text 20 = .ok (.ireturn, 1) := by decide +kernel
theorem dX5_text_21 : decode cX5_text 21 = .ok (.iload_n 2, 1) := by decide +kernel
theorem dX5_text_22 : decode cX5_text 22 = .ok (.ifCond .ge 9, 3) := by decide +kernel
theorem dX5_text_25 : decode cX5_text 25 = .ok (.aload_n 0, 1) := by decide +kernel
theorem dX5_text_26 : decode cX5_text 26 = .ok (.iconst 5, 1) := by decide +kernel
theorem dX5_text_27 : decode cX5_text 27 = .ok (.invokevirtual 88, 3) := by decide +kernel
theorem dX5_text_30 : decode cX5_text 30 = .ok (.ireturn, 1) := by decide +kernel
theorem dX5_text_31 : decode cX5_text 31 = .ok (.aload_n 3, 1) := by decide +kernel
theorem dX5_text_32 : decode cX5_text 32 = .ok (.iload_n 2, 1) := by decide +kernel
theorem dX5_text_33 : decode cX5_text 33 = .ok (.bipush 32, 2) := by decide +kernel
theorem dX5_text_35 : decode cX5_text 35 = .ok (.invokevirtual 60, 3) := by decide +kernel
theorem dX5_text_38 : decode cX5_text 38 = .ok (.iload_n 2, 1) := by decide +kernel
theorem dX5_text_39 : decode cX5_text 39 = .ok (.ireturn, 1) := by decide +kernel
theorem dX5_put_0 : decode cX5_put 0 = .ok (.aload_n 0, 1) := by decide +kernel
theorem dX5_put_1 : decode cX5_put 1 = .ok (.getfield 17, 3) := by decide +kernel
theorem dX5_put_4 : decode cX5_put 4 = .ok (.iload_n 1, 1) := by decide +kernel
theorem dX5_put_5 : decode cX5_put 5 = .ok (.invokestatic 99, 3) := by decide +kernel
theorem dX5_put_8 : decode cX5_put 8 = .ok (.astore 4, 2) := by decide +kernel
theorem dX5_put_10 : decode cX5_put 10 = .ok (.aload_n 0, 1) := by decide +kernel
theorem dX5_put_11 : decode cX5_put 11 = .ok (.aload 4, 2) := by decide +kernel
theorem dX5_put_13 : decode cX5_put 13 = .ok (.iload_n 2, 1) := by decide +kernel
theorem dX5_put_14 : decode cX5_put 14 = .ok (.invokevirtual 103, 3) := by decide +kernel
theorem dX5_put_17 : decode cX5_put 17 = .ok (.istore 5, 2) := by decide +kernel
theorem dX5_put_19 : decode cX5_put 19 = .ok (.aload 4, 2) := by decide +kernel
theorem dX5_put_21 : decode cX5_put 21 = .ok (.ifnull 8, 3) := by decide +kernel
theorem dX5_put_24 : decode cX5_put 24 = .ok (.iload 5, 2) := by decide +kernel
theorem dX5_put_26 : decode cX5_put 26 = .ok (.ifCond .eq 6, 3) := by decide +kernel
theorem dX5_put_29 : decode cX5_put 29 = .ok (.iload 5, 2) := by decide +kernel
theorem dX5_put_31 : decode cX5_put 31 = .ok (.ireturn, 1) := by decide +kernel
theorem dX5_put_32 : decode cX5_put 32 = .ok (.aload 4, 2) := by decide +kernel
theorem dX5_put_34 : decode cX5_put 34 = .ok (.iload_n 2, 1) := by decide +kernel
theorem dX5_put_35 : decode cX5_put 35 = .ok (.invokevirtual 68, 3) := by decide +kernel
theorem dX5_put_38 : decode cX5_put 38 = .ok (.istore 6, 2) := by decide +kernel
theorem dX5_put_40 : decode cX5_put 40 = .ok (.aload 4, 2) := by decide +kernel
theorem dX5_put_42 : decode cX5_put 42 = .ok (.iload_n 2, 1) := by decide +kernel
theorem dX5_put_43 : decode cX5_put 43 = .ok (.iload_n 3, 1) := by decide +kernel
theorem dX5_put_44 : decode cX5_put 44 = .ok (.i2b, 1) := by decide +kernel
theorem dX5_put_45 : decode cX5_put 45 = .ok (.invokevirtual 72, 3) := by decide +kernel
theorem dX5_put_48 : decode cX5_put 48 = .ok (.sipush 1000, 3) := by decide +kernel
theorem dX5_put_51 : decode cX5_put 51 = .ok (.iload 6, 2) := by decide +kernel
theorem dX5_put_53 : decode cX5_put 53 = .ok (.iadd, 1) := by decide +kernel
theorem dX5_put_54 : decode cX5_put 54 = .ok (.ireturn, 1) := by decide +kernel
theorem dX5_fault_0 : decode cX5_fault 0 = .ok (.aload_n 0, 1) := by decide +kernel
theorem dX5_fault_1 : decode cX5_fault 1 = .ok (.getfield 17, 3) := by decide +kernel
theorem dX5_fault_4 : decode cX5_fault 4 = .ok (.iload_n 1, 1) := by decide +kernel
theorem dX5_fault_5 : decode cX5_fault 5 = .ok (.invokestatic 99, 3) := by decide +kernel
theorem dX5_fault_8 : decode cX5_fault 8 = .ok (.astore_n 2, 1) := by decide +kernel
theorem dX5_fault_9 : decode cX5_fault 9 = .ok (.aload_n 0, 1) := by decide +kernel
theorem dX5_fault_10 : decode cX5_fault 10 = .ok (.aload_n 2, 1) := by decide +kernel
theorem dX5_fault_11 : decode cX5_fault 11 = .ok (.invokevirtual 91, 3) := by decide +kernel
theorem dX5_fault_14 : decode cX5_fault 14 = .ok (.istore_n 3, 1) := by decide +kernel
theorem dX5_fault_15 : decode cX5_fault 15 = .ok (.aload_n 2, 1) := by decide +kernel
theorem dX5_fault_16 : decode cX5_fault 16 = .ok (.ifnull 7, 3) := by decide +kernel
theorem dX5_fault_19 : decode cX5_fault 19 = .ok (.iload_n 3, 1) := by decide +kernel
theorem dX5_fault_20 : decode cX5_fault 20 = .ok (.ifCond .eq 5, 3) := by decide +kernel
theorem dX5_fault_23 : decode cX5_fault 23 = .ok (.iload_n 3, 1) := by decide +kernel
theorem dX5_fault_24 : decode cX5_fault 24 = .ok (.ireturn, 1) := by decide +kernel
theorem dX5_fault_25 : decode cX5_fault 25 = .ok (.aload_n 0, 1) := by decide +kernel
theorem dX5_fault_26 : decode cX5_fault 26 = .ok (.getfield 26, 3) := by decide +kernel
theorem dX5_fault_29 : decode cX5_fault 29 = .ok (.aload_n 2, 1) := by decide +kernel
theorem dX5_fault_30 : decode cX5_fault 30 = .ok (.aload_n 0, 1) := by decide +kernel
theorem dX5_fault_31 : decode cX5_fault 31 = .ok (.getfield 53, 3) := by decide +kernel
theorem dX5_fault_34 : decode cX5_fault 34 = .ok (.invokevirtual 121, 3) := by decide +kernel
theorem dX5_fault_37 : decode cX5_fault 37 = .ok (.ireturn, 1) := by decide +kernel
theorem dX5_town_0 : decode cX5_town 0 = .ok (.aload_n 0, 1) := by decide +kernel
theorem dX5_town_1 : decode cX5_town 1 = .ok (.getfield 17, 3) := by decide +kernel
theorem dX5_town_4 : decode cX5_town 4 = .ok (.iload_n 1, 1) := by decide +kernel
theorem dX5_town_5 : decode cX5_town 5 = .ok (.invokestatic 99, 3) := by decide +kernel
theorem dX5_town_8 : decode cX5_town 8 = .ok (.astore_n 2, 1) := by decide +kernel
theorem dX5_town_9 : decode cX5_town 9 = .ok (.aload_n 0, 1) := by decide +kernel
theorem dX5_town_10 : decode cX5_town 10 = .ok (.aload_n 2, 1) := by decide +kernel
theorem dX5_town_11 : decode cX5_town 11 = .ok (.invokevirtual 91, 3) := by decide +kernel
theorem dX5_town_14 : decode cX5_town 14 = .ok (.istore_n 3, 1) := by decide +kernel
theorem dX5_town_15 : decode cX5_town 15 = .ok (.aload_n 2, 1) := by decide +kernel
theorem dX5_town_16 : decode cX5_town 16 = .ok (.ifnull 7, 3) := by decide +kernel
theorem dX5_town_19 : decode cX5_town 19 = .ok (.iload_n 3, 1) := by decide +kernel
theorem dX5_town_20 : decode cX5_town 20 = .ok (.ifCond .eq 5, 3) := by decide +kernel
theorem dX5_town_23 : decode cX5_town 23 = .ok (.iload_n 3, 1) := by decide +kernel
theorem dX5_town_24 : decode cX5_town 24 = .ok (.ireturn, 1) := by decide +kernel
theorem dX5_town_25 : decode cX5_town 25 = .ok (.aload_n 0, 1) := by decide +kernel
theorem dX5_town_26 : decode cX5_town 26 = .ok (.getfield 26, 3) := by decide +kernel
theorem dX5_town_29 : decode cX5_town 29 = .ok (.aload_n 2, 1) := by decide +kernel
theorem dX5_town_30 : decode cX5_town 30 = .ok (.aload_n 0, 1) := by decide +kernel
theorem dX5_town_31 : decode cX5_town 31 = .ok (.getfield 53, 3) := by decide +kernel
theorem dX5_town_34 : decode cX5_town 34 = .ok (.invokevirtual 121, 3) := by decide +kernel
theorem dX5_town_37 : decode cX5_town 37 = .ok (.bipush (-9), 2) := by decide +kernel
theorem dX5_town_39 : decode cX5_town 39 = .ok (.if_icmp .eq 6, 3) := by decide +kernel
theorem dX5_town_42 : decode cX5_town 42 = .ok (.bipush (-4), 2) := by decide +kernel
theorem dX5_town_44 : decode cX5_town 44 = .ok (.ireturn, 1) := by decide +kernel
theorem dX5_town_45 : decode cX5_town 45 = .ok (.aload_n 0, 1) := by decide +kernel
theorem dX5_town_46 : decode cX5_town 46 = .ok (.getfield 49, 3) := by decide +kernel
theorem dX5_town_49 : decode cX5_town 49 = .ok (.astore 4, 2) := by decide +kernel
theorem dX5_town_51 : decode cX5_town 51 = .ok (.aload_n 0, 1) := by decide +kernel
theorem dX5_town_52 : decode cX5_town 52 = .ok (.aload_n 0, 1) := by decide +kernel
theorem dX5_town_53 : decode cX5_town 53 = .ok (.getfield 53, 3) := by decide +kernel
theorem dX5_town_56 : decode cX5_town 56 = .ok (.putfield 49, 3) := by decide +kernel
theorem dX5_town_59 : decode cX5_town 59 = .ok (.aload_n 0, 1) := by decide +kernel
theorem dX5_town_60 : decode cX5_town 60 = .ok (.aload 4, 2) := by decide +kernel
theorem dX5_town_62 : decode cX5_town 62 = .ok (.putfield 53, 3) := by decide +kernel
theorem dX5_town_65 : decode cX5_town 65 = .ok (.aload_n 0, 1) := by decide +kernel
theorem dX5_town_66 : decode cX5_town 66 = .ok (.getfield 49, 3) := by decide +kernel
theorem dX5_town_69 : decode cX5_town 69 = .ok (.getfield 125, 3) := by decide +kernel
theorem dX5_town_72 : decode cX5_town 72 = .ok (.iconst 0, 1) := by decide +kernel
theorem dX5_town_73 : decode cX5_town 73 = .ok (.iconst 0, 1) := by decide +kernel
theorem dX5_town_74 : decode cX5_town 74 = .ok (.invokevirtual 60, 3) := by decide +kernel
theorem dX5_town_77 : decode cX5_town 77 = .ok (.aload_n 0, 1) := by decide +kernel
theorem dX5_town_78 : decode cX5_town 78 = .ok (.getfield 49, 3) := by decide +kernel
theorem dX5_town_81 : decode cX5_town 81 = .ok (.invokevirtual 128, 3) := by decide +kernel
theorem dX5_town_84 : decode cX5_town 84 = .ok (.iconst 0, 1) := by decide +kernel
theorem dX5_town_85 : decode cX5_town 85 = .ok (.istore 5, 2) := by decide +kernel
theorem dX5_town_87 : decode cX5_town 87 = .ok (.iload 5, 2) := by decide +kernel
theorem dX5_town_89 : decode cX5_town 89 = .ok (.aload_n 0, 1) := by decide +kernel
theorem dX5_town_90 : decode cX5_town 90 = .ok (.getfield 20, 3) := by decide +kernel
theorem dX5_town_93 : decode cX5_town 93 = .ok (.arraylength, 1) := by decide +kernel
theorem dX5_town_94 : decode cX5_town 94 = .ok (.if_icmp .ge 28, 3) := by decide +kernel
theorem dX5_town_97 : decode cX5_town 97 = .ok (.aload_n 0, 1) := by decide +kernel
theorem dX5_town_98 : decode cX5_town 98 = .ok (.getfield 20, 3) := by decide +kernel
theorem dX5_town_101 : decode cX5_town 101 = .ok (.iload 5, 2) := by decide +kernel
theorem dX5_town_103 : decode cX5_town 103 = .ok (.aaload, 1) := by decide +kernel
theorem dX5_town_104 : decode cX5_town 104 = .ok (.astore 6, 2) := by decide +kernel
theorem dX5_town_106 : decode cX5_town 106 = .ok (.aload 6, 2) := by decide +kernel
theorem dX5_town_108 : decode cX5_town 108 = .ok (.ifnull 8, 3) := by decide +kernel
theorem dX5_town_111 : decode cX5_town 111 = .ok (.aload 6, 2) := by decide +kernel
theorem dX5_town_113 : decode cX5_town 113 = .ok (.invokevirtual 110, 3) := by decide +kernel
theorem dX5_town_116 : decode cX5_town 116 = .ok (.iinc 5 1, 3) := by decide +kernel
theorem dX5_town_119 : decode cX5_town 119 = .ok (.goto (-32), 3) := by decide +kernel
theorem dX5_town_122 : decode cX5_town 122 = .ok (.aload_n 0, 1) := by decide +kernel
theorem dX5_town_123 : decode cX5_town 123 = .ok (.getfield 49, 3) := by decide +kernel
theorem dX5_town_126 : decode cX5_town 126 = .ok (.getfield 131, 3) := by decide +kernel
theorem dX5_town_129 : decode cX5_town 129 = .ok (.ireturn, 1) := by decide +kernel
theorem dX5_house_0 : decode cX5_house 0 = .ok (.aload_n 0, 1) := by decide +kernel
theorem dX5_house_1 : decode cX5_house 1 = .ok (.getfield 49, 3) := by decide +kernel
theorem dX5_house_4 : decode cX5_house 4 = .ok (.iload_n 1, 1) := by decide +kernel
theorem dX5_house_5 : decode cX5_house 5 = .ok (.invokevirtual 132, 3) := by decide +kernel
theorem dX5_house_8 : decode cX5_house 8 = .ok (.ifCond .eq 12, 3) := by decide +kernel
theorem dX5_house_11 : decode cX5_house 11 = .ok (.iload_n 2, 1) := by decide +kernel
theorem dX5_house_12 : decode cX5_house 12 = .ok (.iconst 0, 1) := by decide +kernel
theorem dX5_house_13 : decode cX5_house 13 = .ok (.iconst 5, 1) := by decide +kernel
theorem dX5_house_14 : decode cX5_house 14 = .ok (.invokestatic 75, 3) := by decide +kernel
theorem dX5_house_17 : decode cX5_house 17 = .ok (.ifCond .ne 5, 3) := by decide +kernel
theorem dX5_house_20 : decode cX5_house 20 = .ok (.iconst (-1), 1) := by decide +kernel
theorem dX5_house_21 : decode cX5_house 21 = .ok (.ireturn, 1) := by decide +kernel
theorem dX5_house_22 : decode cX5_house 22 = .ok (.aload_n 0, 1) := by decide +kernel
theorem dX5_house_23 : decode cX5_house 23 = .ok (.aload_n 0, 1) := by decide +kernel
theorem dX5_house_24 : decode cX5_house 24 = .ok (.getfield 49, 3) := by decide +kernel
theorem dX5_house_27 : decode cX5_house 27 = .ok (.iload_n 1, 1) := by decide +kernel
theorem dX5_house_28 : decode cX5_house 28 = .ok (.iload_n 2, 1) := by decide +kernel
theorem dX5_house_29 : decode cX5_house 29 = .ok (.invokevirtual 135, 3) := by decide +kernel
theorem dX5_house_32 : decode cX5_house 32 = .ok (.putfield 107, 3) := by decide +kernel
theorem dX5_house_35 : decode cX5_house 35 = .ok (.iconst 1, 1) := by decide +kernel
theorem dX5_house_36 : decode cX5_house 36 = .ok (.ireturn, 1) := by decide +kernel
theorem dX5_mark_0 : decode cX5_mark 0 = .ok (.aload_n 0, 1) := by decide +kernel
theorem dX5_mark_1 : decode cX5_mark 1 = .ok (.getfield 49, 3) := by decide +kernel
theorem dX5_mark_4 : decode cX5_mark 4 = .ok (.iload_n 1, 1) := by decide +kernel
theorem dX5_mark_5 : decode cX5_mark 5 = .ok (.invokevirtual 132, 3) := by decide +kernel
theorem dX5_mark_8 : decode cX5_mark 8 = .ok (.ifCond .eq 12, 3) := by decide +kernel
theorem dX5_mark_11 : decode cX5_mark 11 = .ok (.iload_n 2, 1) := by decide +kernel
theorem dX5_mark_12 : decode cX5_mark 12 = .ok (.iconst 1, 1) := by decide +kernel
theorem dX5_mark_13 : decode cX5_mark 13 = .ok (.iconst 5, 1) := by decide +kernel
theorem dX5_mark_14 : decode cX5_mark 14 = .ok (.invokestatic 75, 3) := by decide +kernel
theorem dX5_mark_17 : decode cX5_mark 17 = .ok (.ifCond .ne 5, 3) := by decide +kernel
theorem dX5_mark_20 : decode cX5_mark 20 = .ok (.iconst (-1), 1) := by decide +kernel
theorem dX5_mark_21 : decode cX5_mark 21 = .ok (.ireturn, 1) := by decide +kernel
theorem dX5_mark_22 : decode cX5_mark 22 = .ok (.aload_n 0, 1) := by decide +kernel
theorem dX5_mark_23 : decode cX5_mark 23 = .ok (.getfield 49, 3) := by decide +kernel
theorem dX5_mark_26 : decode cX5_mark 26 = .ok (.getfield 138, 3) := by decide +kernel
theorem dX5_mark_29 : decode cX5_mark 29 = .ok (.iload_n 1, 1) := by decide +kernel
theorem dX5_mark_30 : decode cX5_mark 30 = .ok (.invokevirtual 68, 3) := by decide +kernel
theorem dX5_mark_33 : decode cX5_mark 33 = .ok (.iload_n 2, 1) := by decide +kernel
theorem dX5_mark_34 : decode cX5_mark 34 = .ok (.invokestatic 141, 3) := by decide +kernel
theorem dX5_mark_37 : decode cX5_mark 37 = .ok (.ifCond .ne 9, 3) := by decide +kernel
theorem dX5_mark_40 : decode cX5_mark 40 = .ok (.aload_n 0, 1) := by decide +kernel
theorem dX5_mark_41 : decode cX5_mark 41 = .ok (.iconst 3, 1) := by decide +kernel
theorem dX5_mark_42 : decode cX5_mark 42 = .ok (.invokevirtual 88, 3) := by decide +kernel
theorem dX5_mark_45 : decode cX5_mark 45 = .ok (.ireturn, 1) := by decide +kernel
theorem dX5_mark_46 : decode cX5_mark 46 = .ok (.aload_n 0, 1) := by decide +kernel
theorem dX5_mark_47 : decode cX5_mark 47 = .ok (.getfield 49, 3) := by decide +kernel
theorem dX5_mark_50 : decode cX5_mark 50 = .ok (.getfield 146, 3) := by decide +kernel
theorem dX5_mark_53 : decode cX5_mark 53 = .ok (.iload_n 1, 1) := by decide +kernel
theorem dX5_mark_54 : decode cX5_mark 54 = .ok (.invokevirtual 68, 3) := by decide +kernel
theorem dX5_mark_57 : decode cX5_mark 57 = .ok (.istore_n 3, 1) := by decide +kernel
theorem dX5_mark_58 : decode cX5_mark 58 = .ok (.aload_n 0, 1) := by decide +kernel
theorem dX5_mark_59 : decode cX5_mark 59 = .ok (.getfield 49, 3) := by decide +kernel
theorem dX5_mark_62 : decode cX5_mark 62 = .ok (.iload_n 1, 1) := by decide +kernel
theorem dX5_mark_63 : decode cX5_mark 63 = .ok (.iload_n 3, 1) := by decide +kernel
theorem dX5_mark_64 : decode cX5_mark 64 = .ok (.invokevirtual 149, 3) := by decide +kernel
theorem dX5_mark_67 : decode cX5_mark 67 = .ok (.istore 4, 2) := by decide +kernel
theorem dX5_mark_69 : decode cX5_mark 69 = .ok (.iload_n 2, 1) := by decide +kernel
theorem dX5_mark_70 : decode cX5_mark 70 = .ok (.tableswitch 84 1 4 #[30, 58, 72, 81], 30) := by decide +kernel
theorem dX5_mark_100 : decode cX5_mark 100 = .ok (.iload 4, 2) := by decide +kernel
theorem dX5_mark_102 : decode cX5_mark 102 = .ok (.bipush (-9), 2) := by decide +kernel
theorem dX5_mark_104 : decode cX5_mark 104 = .ok (.if_icmp .ne 8, 3) := by decide +kernel
theorem dX5_mark_107 : decode cX5_mark 107 = .ok (.bipush (-9), 2) := by decide +kernel
theorem dX5_mark_109 : decode cX5_mark 109 = .ok (.goto 18, 3) := by decide +kernel
theorem dX5_mark_112 : decode cX5_mark 112 = .ok (.iload 4, 2) := by decide +kernel
theorem dX5_mark_114 : decode cX5_mark 114 = .ok (.iconst 0, 1) := by decide +kernel
theorem dX5_mark_115 : decode cX5_mark 115 = .ok (.iload_n 3, 1) := by decide +kernel
theorem dX5_mark_116 : decode cX5_mark 116 = .ok (.aload_n 0, 1) := by decide +kernel
theorem dX5_mark_117 : decode cX5_mark 117 = .ok (.getfield 49, 3) := by decide +kernel
theorem dX5_mark_120 : decode cX5_mark 120 = .ok (.getfield 152, 3) := by decide +kernel
theorem dX5_mark_123 : decode cX5_mark 123 = .ok (.invokestatic 155, 3) := by decide +kernel
theorem dX5_mark_126 : decode cX5_mark 126 = .ok (.isub, 1) := by decide +kernel
theorem dX5_mark_127 : decode cX5_mark 127 = .ok (.ireturn, 1) := by decide +kernel
theorem dX5_mark_128 : decode cX5_mark 128 = .ok (.aload_n 0, 1) := by decide +kernel
theorem dX5_mark_129 : decode cX5_mark 129 = .ok (.getfield 49, 3) := by decide +kernel
theorem dX5_mark_132 : decode cX5_mark 132 = .ok (.iload_n 1, 1) := by decide +kernel
theorem dX5_mark_133 : decode cX5_mark 133 = .ok (.invokevirtual 159, 3) := by decide +kernel
theorem dX5_mark_136 : decode cX5_mark 136 = .ok (.iconst 0, 1) := by decide +kernel
theorem dX5_mark_137 : decode cX5_mark 137 = .ok (.invokestatic 162, 3) := by decide +kernel
theorem dX5_mark_140 : decode cX5_mark 140 = .ok (.isub, 1) := by decide +kernel
theorem dX5_mark_141 : decode cX5_mark 141 = .ok (.ireturn, 1) := by decide +kernel
theorem dX5_mark_142 : decode cX5_mark 142 = .ok (.aload_n 0, 1) := by decide +kernel
theorem dX5_mark_143 : decode cX5_mark 143 = .ok (.getfield 49, 3) := by decide +kernel
theorem dX5_mark_146 : decode cX5_mark 146 = .ok (.iload_n 1, 1) := by decide +kernel
theorem dX5_mark_147 : decode cX5_mark 147 = .ok (.invokevirtual 163, 3) := by decide +kernel
theorem dX5_mark_150 : decode cX5_mark 150 = .ok (.ireturn, 1) := by decide +kernel
theorem dX5_mark_151 : decode cX5_mark 151 = .ok (.iload 4, 2) := by decide +kernel
theorem dX5_mark_153 : decode cX5_mark 153 = .ok (.ireturn, 1) := by decide +kernel
theorem dX5_mark_154 : decode cX5_mark 154 = .ok (.aload_n 0, 1) := by decide +kernel
theorem dX5_mark_155 : decode cX5_mark 155 = .ok (.getfield 49, 3) := by decide +kernel
theorem dX5_mark_158 : decode cX5_mark 158 = .ok (.iload_n 1, 1) := by decide +kernel
theorem dX5_mark_159 : decode cX5_mark 159 = .ok (.invokevirtual 166, 3) := by decide +kernel
theorem dX5_mark_162 : decode cX5_mark 162 = .ok (.ireturn, 1) := by decide +kernel
theorem dX5_isFull_0 : decode cX5_isFull 0 = .ok (.aload_n 0, 1) := by decide +kernel
theorem dX5_isFull_1 : decode cX5_isFull 1 = .ok (.getfield 49, 3) := by decide +kernel
theorem dX5_isFull_4 : decode cX5_isFull 4 = .ok (.getfield 125, 3) := by decide +kernel
theorem dX5_isFull_7 : decode cX5_isFull 7 = .ok (.getfield 85, 3) := by decide +kernel
theorem dX5_isFull_10 : decode cX5_isFull 10 = .ok (.iload_n 1, 1) := by decide +kernel
theorem dX5_isFull_11 : decode cX5_isFull 11 = .ok (.iadd, 1) := by decide +kernel
theorem dX5_isFull_12 : decode cX5_isFull 12 = .ok (.bipush 40, 2) := by decide +kernel
theorem dX5_isFull_14 : decode cX5_isFull 14 = .ok (.if_icmp .le 7, 3) := by decide +kernel
theorem dX5_isFull_17 : decode cX5_isFull 17 = .ok (.iconst 1, 1) := by decide +kernel
theorem dX5_isFull_18 : decode cX5_isFull 18 = .ok (.goto 4, 3) := by decide +kernel
theorem dX5_isFull_21 : decode cX5_isFull 21 = .ok (.iconst 0, 1) := by decide +kernel
theorem dX5_isFull_22 : decode cX5_isFull 22 = .ok (.ireturn, 1) := by decide +kernel
theorem dX5_walk_0 : decode cX5_walk 0 = .ok (.aload_n 0, 1) := by decide +kernel
theorem dX5_walk_1 : decode cX5_walk 1 = .ok (.getfield 49, 3) := by decide +kernel
theorem dX5_walk_4 : decode cX5_walk 4 = .ok (.iload_n 1, 1) := by decide +kernel
theorem dX5_walk_5 : decode cX5_walk 5 = .ok (.invokevirtual 132, 3) := by decide +kernel
theorem dX5_walk_8 : decode cX5_walk 8 = .ok (.ifCond .ne 5, 3) := by decide +kernel
theorem dX5_walk_11 : decode cX5_walk 11 = .ok (.iconst (-1), 1) := by decide +kernel
theorem dX5_walk_12 : decode cX5_walk 12 = .ok (.ireturn, 1) := by decide +kernel
theorem dX5_walk_13 : decode cX5_walk 13 = .ok (.aload_n 0, 1) := by decide +kernel
theorem dX5_walk_14 : decode cX5_walk 14 = .ok (.getfield 49, 3) := by decide +kernel
theorem dX5_walk_17 : decode cX5_walk 17 = .ok (.getfield 169, 3) := by decide +kernel
theorem dX5_walk_20 : decode cX5_walk 20 = .ok (.iload_n 1, 1) := by decide +kernel
theorem dX5_walk_21 : decode cX5_walk 21 = .ok (.if_icmp .ne 6, 3) := by decide +kernel
theorem dX5_walk_24 : decode cX5_walk 24 = .ok (.bipush (-4), 2) := by decide +kernel
theorem dX5_walk_26 : decode cX5_walk 26 = .ok (.ireturn, 1) := by decide +kernel
theorem dX5_walk_27 : decode cX5_walk 27 = .ok (.aload_n 0, 1) := by decide +kernel
theorem dX5_walk_28 : decode cX5_walk 28 = .ok (.iconst 1, 1) := by decide +kernel
theorem dX5_walk_29 : decode cX5_walk 29 = .ok (.invokevirtual 172, 3) := by decide +kernel
theorem dX5_walk_32 : decode cX5_walk 32 = .ok (.ifCond .eq 6, 3) := by decide +kernel
theorem dX5_walk_35 : decode cX5_walk 35 = .ok (.bipush (-2), 2) := by decide +kernel
theorem dX5_walk_37 : decode cX5_walk 37 = .ok (.ireturn, 1) := by decide +kernel
theorem dX5_walk_38 : decode cX5_walk 38 = .ok (.aload_n 0, 1) := by decide +kernel
theorem dX5_walk_39 : decode cX5_walk 39 = .ok (.getfield 49, 3) := by decide +kernel
theorem dX5_walk_42 : decode cX5_walk 42 = .ok (.iconst 0, 1) := by decide +kernel
theorem dX5_walk_43 : decode cX5_walk 43 = .ok (.iload_n 1, 1) := by decide +kernel
theorem dX5_walk_44 : decode cX5_walk 44 = .ok (.iconst 0, 1) := by decide +kernel
theorem dX5_walk_45 : decode cX5_walk 45 = .ok (.invokevirtual 175, 3) := by decide +kernel
theorem dX5_walk_48 : decode cX5_walk 48 = .ok (.aload_n 0, 1) := by decide +kernel
theorem dX5_walk_49 : decode cX5_walk 49 = .ok (.getfield 49, 3) := by decide +kernel
theorem dX5_walk_52 : decode cX5_walk 52 = .ok (.getfield 179, 3) := by decide +kernel
theorem dX5_walk_55 : decode cX5_walk 55 = .ok (.ireturn, 1) := by decide +kernel
theorem dX5_tap_0 : decode cX5_tap 0 = .ok (.aload_n 0, 1) := by decide +kernel
theorem dX5_tap_1 : decode cX5_tap 1 = .ok (.getfield 49, 3) := by decide +kernel
theorem dX5_tap_4 : decode cX5_tap 4 = .ok (.getfield 131, 3) := by decide +kernel
theorem dX5_tap_7 : decode cX5_tap 7 = .ok (.ifCond .ne 6, 3) := by decide +kernel
theorem dX5_tap_10 : decode cX5_tap 10 = .ok (.bipush (-4), 2) := by decide +kernel
theorem dX5_tap_12 : decode cX5_tap 12 = .ok (.ireturn, 1) := by decide +kernel
theorem dX5_tap_13 : decode cX5_tap 13 = .ok (.aload_n 0, 1) := by decide +kernel
theorem dX5_tap_14 : decode cX5_tap 14 = .ok (.iconst 1, 1) := by decide +kernel
theorem dX5_tap_15 : decode cX5_tap 15 = .ok (.invokevirtual 172, 3) := by decide +kernel
theorem dX5_tap_18 : decode cX5_tap 18 = .ok (.ifCond .eq 6, 3) := by decide +kernel
theorem dX5_tap_21 : decode cX5_tap 21 = .ok (.bipush (-2), 2) := by decide +kernel
theorem dX5_tap_23 : decode cX5_tap 23 = .ok (.ireturn, 1) := by decide +kernel
theorem dX5_tap_24 : decode cX5_tap 24 = .ok (.aload_n 0, 1) := by decide +kernel
theorem dX5_tap_25 : decode cX5_tap 25 = .ok (.getfield 49, 3) := by decide +kernel
theorem dX5_tap_28 : decode cX5_tap 28 = .ok (.iconst 1, 1) := by decide +kernel
theorem dX5_tap_29 : decode cX5_tap 29 = .ok (.iconst 0, 1) := by decide +kernel
theorem dX5_tap_30 : decode cX5_tap 30 = .ok (.iconst 0, 1) := by decide +kernel
theorem dX5_tap_31 : decode cX5_tap 31 = .ok (.invokevirtual 175, 3) := by decide +kernel
theorem dX5_tap_34 : decode cX5_tap 34 = .ok (.aload_n 0, 1) := by decide +kernel
theorem dX5_tap_35 : decode cX5_tap 35 = .ok (.getfield 49, 3) := by decide +kernel
theorem dX5_tap_38 : decode cX5_tap 38 = .ok (.aload_n 0, 1) := by decide +kernel
theorem dX5_tap_39 : decode cX5_tap 39 = .ok (.getfield 49, 3) := by decide +kernel
theorem dX5_tap_42 : decode cX5_tap 42 = .ok (.getfield 169, 3) := by decide +kernel
theorem dX5_tap_45 : decode cX5_tap 45 = .ok (.invokevirtual 182, 3) := by decide +kernel
theorem dX5_tap_48 : decode cX5_tap 48 = .ok (.ifCond .eq 7, 3) := by decide +kernel
theorem dX5_tap_51 : decode cX5_tap 51 = .ok (.iconst 1, 1) := by decide +kernel
theorem dX5_tap_52 : decode cX5_tap 52 = .ok (.goto 4, 3) := by decide +kernel
theorem dX5_tap_55 : decode cX5_tap 55 = .ok (.iconst 0, 1) := by decide +kernel
theorem dX5_tap_56 : decode cX5_tap 56 = .ok (.ireturn, 1) := by decide +kernel
theorem dX5_slate_0 : decode cX5_slate 0 = .ok (.aload_n 0, 1) := by decide +kernel
theorem dX5_slate_1 : decode cX5_slate 1 = .ok (.getfield 49, 3) := by decide +kernel
theorem dX5_slate_4 : decode cX5_slate 4 = .ok (.iload_n 1, 1) := by decide +kernel
theorem dX5_slate_5 : decode cX5_slate 5 = .ok (.invokevirtual 132, 3) := by decide +kernel
theorem dX5_slate_8 : decode cX5_slate 8 = .ok (.ifCond .eq 10, 3) := by decide +kernel
theorem dX5_slate_11 : decode cX5_slate 11 = .ok (.iload_n 2, 1) := by decide +kernel
theorem dX5_slate_12 : decode cX5_slate 12 = .ok (.invokestatic 185, 3) := by decide +kernel
theorem dX5_slate_15 : decode cX5_slate 15 = .ok (.ifCond .ne 5, 3) := by decide +kernel
theorem dX5_slate_18 : decode cX5_slate 18 = .ok (.iconst (-1), 1) := by decide +kernel
theorem dX5_slate_19 : decode cX5_slate 19 = .ok (.ireturn, 1) := by decide +kernel
theorem dX5_slate_20 : decode cX5_slate 20 = .ok (.aload_n 0, 1) := by decide +kernel
theorem dX5_slate_21 : decode cX5_slate 21 = .ok (.getfield 49, 3) := by decide +kernel
theorem dX5_slate_24 : decode cX5_slate 24 = .ok (.getfield 146, 3) := by decide +kernel
theorem dX5_slate_27 : decode cX5_slate 27 = .ok (.iload_n 1, 1) := by decide +kernel
theorem dX5_slate_28 : decode cX5_slate 28 = .ok (.invokevirtual 68, 3) := by decide +kernel
theorem dX5_slate_31 : decode cX5_slate 31 = .ok (.istore_n 3, 1) := by decide +kernel
theorem dX5_slate_32 : decode cX5_slate 32 = .ok (.iload_n 3, 1) := by decide +kernel
theorem dX5_slate_33 : decode cX5_slate 33 = .ok (.iload_n 2, 1) := by decide +kernel
theorem dX5_slate_34 : decode cX5_slate 34 = .ok (.if_icmp .ne 6, 3) := by decide +kernel
theorem dX5_slate_37 : decode cX5_slate 37 = .ok (.bipush (-4), 2) := by decide +kernel
theorem dX5_slate_39 : decode cX5_slate 39 = .ok (.ireturn, 1) := by decide +kernel
theorem dX5_slate_40 : decode cX5_slate 40 = .ok (.aload_n 0, 1) := by decide +kernel
theorem dX5_slate_41 : decode cX5_slate 41 = .ok (.iconst 1, 1) := by decide +kernel
theorem dX5_slate_42 : decode cX5_slate 42 = .ok (.invokevirtual 172, 3) := by decide +kernel
theorem dX5_slate_45 : decode cX5_slate 45 = .ok (.ifCond .eq 6, 3) := by decide +kernel
theorem dX5_slate_48 : decode cX5_slate 48 = .ok (.bipush (-2), 2) := by decide +kernel
theorem dX5_slate_50 : decode cX5_slate 50 = .ok (.ireturn, 1) := by decide +kernel
theorem dX5_slate_51 : decode cX5_slate 51 = .ok (.aload_n 0, 1) := by decide +kernel
theorem dX5_slate_52 : decode cX5_slate 52 = .ok (.getfield 49, 3) := by decide +kernel
theorem dX5_slate_55 : decode cX5_slate 55 = .ok (.iconst 2, 1) := by decide +kernel
theorem dX5_slate_56 : decode cX5_slate 56 = .ok (.iload_n 1, 1) := by decide +kernel
theorem dX5_slate_57 : decode cX5_slate 57 = .ok (.iload_n 2, 1) := by decide +kernel
theorem dX5_slate_58 : decode cX5_slate 58 = .ok (.invokevirtual 175, 3) := by decide +kernel
theorem dX5_slate_61 : decode cX5_slate 61 = .ok (.iload_n 3, 1) := by decide +kernel
theorem dX5_slate_62 : decode cX5_slate 62 = .ok (.ireturn, 1) := by decide +kernel
theorem dX5_frost_0 : decode cX5_frost 0 = .ok (.iload_n 1, 1) := by decide +kernel
theorem dX5_frost_1 : decode cX5_frost 1 = .ok (.iconst 0, 1) := by decide +kernel
theorem dX5_frost_2 : decode cX5_frost 2 = .ok (.iconst 1, 1) := by decide +kernel
theorem dX5_frost_3 : decode cX5_frost 3 = .ok (.invokestatic 75, 3) := by decide +kernel
theorem dX5_frost_6 : decode cX5_frost 6 = .ok (.ifCond .ne 5, 3) := by decide +kernel
theorem dX5_frost_9 : decode cX5_frost 9 = .ok (.iconst (-1), 1) := by decide +kernel
theorem dX5_frost_10 : decode cX5_frost 10 = .ok (.ireturn, 1) := by decide +kernel
theorem dX5_frost_11 : decode cX5_frost 11 = .ok (.aload_n 0, 1) := by decide +kernel
theorem dX5_frost_12 : decode cX5_frost 12 = .ok (.getfield 49, 3) := by decide +kernel
theorem dX5_frost_15 : decode cX5_frost 15 = .ok (.getfield 131, 3) := by decide +kernel
theorem dX5_frost_18 : decode cX5_frost 18 = .ok (.ifCond .eq 14, 3) := by decide +kernel
theorem dX5_frost_21 : decode cX5_frost 21 = .ok (.aload_n 0, 1) := by decide +kernel
theorem dX5_frost_22 : decode cX5_frost 22 = .ok (.getfield 49, 3) := by decide +kernel
theorem dX5_frost_25 : decode cX5_frost 25 = .ok (.getfield 152, 3) := by decide +kernel
theorem dX5_frost_28 : decode cX5_frost 28 = .ok (.iload_n 1, 1) := by decide +kernel
theorem dX5_frost_29 : decode cX5_frost 29 = .ok (.if_icmp .ne 6, 3) := by decide +kernel
theorem dX5_frost_32 : decode cX5_frost 32 = .ok (.bipush (-4), 2) := by decide +kernel
theorem dX5_frost_34 : decode cX5_frost 34 = .ok (.ireturn, 1) := by decide +kernel
theorem dX5_frost_35 : decode cX5_frost 35 = .ok (.aload_n 0, 1) := by decide +kernel
theorem dX5_frost_36 : decode cX5_frost 36 = .ok (.iconst 1, 1) := by decide +kernel
theorem dX5_frost_37 : decode cX5_frost 37 = .ok (.invokevirtual 172, 3) := by decide +kernel
theorem dX5_frost_40 : decode cX5_frost 40 = .ok (.ifCond .eq 6, 3) := by decide +kernel
theorem dX5_frost_43 : decode cX5_frost 43 = .ok (.bipush (-2), 2) := by decide +kernel
theorem dX5_frost_45 : decode cX5_frost 45 = .ok (.ireturn, 1) := by decide +kernel
theorem dX5_frost_46 : decode cX5_frost 46 = .ok (.aload_n 0, 1) := by decide +kernel
theorem dX5_frost_47 : decode cX5_frost 47 = .ok (.getfield 49, 3) := by decide +kernel
theorem dX5_frost_50 : decode cX5_frost 50 = .ok (.iconst 3, 1) := by decide +kernel
theorem dX5_frost_51 : decode cX5_frost 51 = .ok (.iconst 0, 1) := by decide +kernel
theorem dX5_frost_52 : decode cX5_frost 52 = .ok (.iload_n 1, 1) := by decide +kernel
theorem dX5_frost_53 : decode cX5_frost 53 = .ok (.invokevirtual 175, 3) := by decide +kernel
theorem dX5_frost_56 : decode cX5_frost 56 = .ok (.iload_n 1, 1) := by decide +kernel
theorem dX5_frost_57 : decode cX5_frost 57 = .ok (.ireturn, 1) := by decide +kernel
theorem dX5_night_0 : decode cX5_night 0 = .ok (.aload_n 0, 1) := by decide +kernel
theorem dX5_night_1 : decode cX5_night 1 = .ok (.getfield 49, 3) := by decide +kernel
theorem dX5_night_4 : decode cX5_night 4 = .ok (.getfield 131, 3) := by decide +kernel
theorem dX5_night_7 : decode cX5_night 7 = .ok (.ifCond .ne 6, 3) := by decide +kernel
theorem dX5_night_10 : decode cX5_night 10 = .ok (.bipush (-4), 2) := by decide +kernel
theorem dX5_night_12 : decode cX5_night 12 = .ok (.ireturn, 1) := by decide +kernel
theorem dX5_night_13 : decode cX5_night 13 = .ok (.aload_n 0, 1) := by decide +kernel
theorem dX5_night_14 : decode cX5_night 14 = .ok (.iconst 1, 1) := by decide +kernel
theorem dX5_night_15 : decode cX5_night 15 = .ok (.invokevirtual 172, 3) := by decide +kernel
theorem dX5_night_18 : decode cX5_night 18 = .ok (.ifCond .eq 6, 3) := by decide +kernel
theorem dX5_night_21 : decode cX5_night 21 = .ok (.bipush (-2), 2) := by decide +kernel
theorem dX5_night_23 : decode cX5_night 23 = .ok (.ireturn, 1) := by decide +kernel
theorem dX5_night_24 : decode cX5_night 24 = .ok (.aload_n 0, 1) := by decide +kernel
theorem dX5_night_25 : decode cX5_night 25 = .ok (.getfield 49, 3) := by decide +kernel
theorem dX5_night_28 : decode cX5_night 28 = .ok (.invokevirtual 188, 3) := by decide +kernel
theorem dX5_night_31 : decode cX5_night 31 = .ok (.invokestatic 192, 3) := by decide +kernel
theorem dX5_night_34 : decode cX5_night 34 = .ok (.istore_n 1, 1) := by decide +kernel
theorem dX5_night_35 : decode cX5_night 35 = .ok (.aload_n 0, 1) := by decide +kernel
theorem dX5_night_36 : decode cX5_night 36 = .ok (.getfield 49, 3) := by decide +kernel
theorem dX5_night_39 : decode cX5_night 39 = .ok (.iconst 4, 1) := by decide +kernel
theorem dX5_night_40 : decode cX5_night 40 = .ok (.iconst 0, 1) := by decide +kernel
theorem dX5_night_41 : decode cX5_night 41 = .ok (.iconst 0, 1) := by decide +kernel
theorem dX5_night_42 : decode cX5_night 42 = .ok (.invokevirtual 175, 3) := by decide +kernel
theorem dX5_night_45 : decode cX5_night 45 = .ok (.iload_n 1, 1) := by decide +kernel
theorem dX5_night_46 : decode cX5_night 46 = .ok (.ireturn, 1) := by decide +kernel
theorem dX5_undo_0 : decode cX5_undo 0 = .ok (.aload_n 0, 1) := by decide +kernel
theorem dX5_undo_1 : decode cX5_undo 1 = .ok (.getfield 49, 3) := by decide +kernel
theorem dX5_undo_4 : decode cX5_undo 4 = .ok (.getfield 125, 3) := by decide +kernel
theorem dX5_undo_7 : decode cX5_undo 7 = .ok (.getfield 85, 3) := by decide +kernel
theorem dX5_undo_10 : decode cX5_undo 10 = .ok (.istore_n 2, 1) := by decide +kernel
theorem dX5_undo_11 : decode cX5_undo 11 = .ok (.iload_n 1, 1) := by decide +kernel
theorem dX5_undo_12 : decode cX5_undo 12 = .ok (.iconst 0, 1) := by decide +kernel
theorem dX5_undo_13 : decode cX5_undo 13 = .ok (.iload_n 2, 1) := by decide +kernel
theorem dX5_undo_14 : decode cX5_undo 14 = .ok (.invokestatic 75, 3) := by decide +kernel
theorem dX5_undo_17 : decode cX5_undo 17 = .ok (.ifCond .ne 5, 3) := by decide +kernel
theorem dX5_undo_20 : decode cX5_undo 20 = .ok (.iconst (-1), 1) := by decide +kernel
theorem dX5_undo_21 : decode cX5_undo 21 = .ok (.ireturn, 1) := by decide +kernel
theorem dX5_undo_22 : decode cX5_undo 22 = .ok (.aload_n 0, 1) := by decide +kernel
theorem dX5_undo_23 : decode cX5_undo 23 = .ok (.getfield 49, 3) := by decide +kernel
theorem dX5_undo_26 : decode cX5_undo 26 = .ok (.getfield 125, 3) := by decide +kernel
theorem dX5_undo_29 : decode cX5_undo 29 = .ok (.iload_n 1, 1) := by decide +kernel
theorem dX5_undo_30 : decode cX5_undo 30 = .ok (.invokevirtual 197, 3) := by decide +kernel
theorem dX5_undo_33 : decode cX5_undo 33 = .ok (.aload_n 0, 1) := by decide +kernel
theorem dX5_undo_34 : decode cX5_undo 34 = .ok (.getfield 49, 3) := by decide +kernel
theorem dX5_undo_37 : decode cX5_undo 37 = .ok (.invokevirtual 128, 3) := by decide +kernel
theorem dX5_undo_40 : decode cX5_undo 40 = .ok (.iload_n 2, 1) := by decide +kernel
theorem dX5_undo_41 : decode cX5_undo 41 = .ok (.iload_n 1, 1) := by decide +kernel
theorem dX5_undo_42 : decode cX5_undo 42 = .ok (.isub, 1) := by decide +kernel
theorem dX5_undo_43 : decode cX5_undo 43 = .ok (.ireturn, 1) := by decide +kernel
theorem dX5_keep_0 : decode cX5_keep 0 = .ok (.aload_n 0, 1) := by decide +kernel
theorem dX5_keep_1 : decode cX5_keep 1 = .ok (.getfield 20, 3) := by decide +kernel
theorem dX5_keep_4 : decode cX5_keep 4 = .ok (.iload_n 1, 1) := by decide +kernel
theorem dX5_keep_5 : decode cX5_keep 5 = .ok (.invokestatic 99, 3) := by decide +kernel
theorem dX5_keep_8 : decode cX5_keep 8 = .ok (.astore_n 2, 1) := by decide +kernel
theorem dX5_keep_9 : decode cX5_keep 9 = .ok (.aload_n 2, 1) := by decide +kernel
theorem dX5_keep_10 : decode cX5_keep 10 = .ok (.ifnonnull 5, 3) := by decide +kernel
theorem dX5_keep_13 : decode cX5_keep 13 = .ok (.iconst (-1), 1) := by decide +kernel
theorem dX5_keep_14 : decode cX5_keep 14 = .ok (.ireturn, 1) := by decide +kernel
theorem dX5_keep_15 : decode cX5_keep 15 = .ok (.aload_n 0, 1) := by decide +kernel
theorem dX5_keep_16 : decode cX5_keep 16 = .ok (.getfield 49, 3) := by decide +kernel
theorem dX5_keep_19 : decode cX5_keep 19 = .ok (.getfield 131, 3) := by decide +kernel
theorem dX5_keep_22 : decode cX5_keep 22 = .ok (.ifCond .ne 6, 3) := by decide +kernel
theorem dX5_keep_25 : decode cX5_keep 25 = .ok (.bipush (-4), 2) := by decide +kernel
theorem dX5_keep_27 : decode cX5_keep 27 = .ok (.ireturn, 1) := by decide +kernel
theorem dX5_keep_28 : decode cX5_keep 28 = .ok (.aload_n 2, 1) := by decide +kernel
theorem dX5_keep_29 : decode cX5_keep 29 = .ok (.aload_n 0, 1) := by decide +kernel
theorem dX5_keep_30 : decode cX5_keep 30 = .ok (.getfield 49, 3) := by decide +kernel
theorem dX5_keep_33 : decode cX5_keep 33 = .ok (.getfield 125, 3) := by decide +kernel
theorem dX5_keep_36 : decode cX5_keep 36 = .ok (.invokevirtual 200, 3) := by decide +kernel
theorem dX5_keep_39 : decode cX5_keep 39 = .ok (.aload_n 2, 1) := by decide +kernel
theorem dX5_keep_40 : decode cX5_keep 40 = .ok (.getfield 85, 3) := by decide +kernel
theorem dX5_keep_43 : decode cX5_keep 43 = .ok (.ireturn, 1) := by decide +kernel
theorem dX5_on_0 : decode cX5_on 0 = .ok (.aload_n 0, 1) := by decide +kernel
theorem dX5_on_1 : decode cX5_on 1 = .ok (.getfield 20, 3) := by decide +kernel
theorem dX5_on_4 : decode cX5_on 4 = .ok (.iload_n 1, 1) := by decide +kernel
theorem dX5_on_5 : decode cX5_on 5 = .ok (.invokestatic 99, 3) := by decide +kernel
theorem dX5_on_8 : decode cX5_on 8 = .ok (.astore_n 2, 1) := by decide +kernel
theorem dX5_on_9 : decode cX5_on 9 = .ok (.aload_n 0, 1) := by decide +kernel
theorem dX5_on_10 : decode cX5_on 10 = .ok (.aload_n 2, 1) := by decide +kernel
theorem dX5_on_11 : decode cX5_on 11 = .ok (.invokevirtual 91, 3) := by decide +kernel
theorem dX5_on_14 : decode cX5_on 14 = .ok (.istore_n 3, 1) := by decide +kernel
theorem dX5_on_15 : decode cX5_on 15 = .ok (.aload_n 2, 1) := by decide +kernel
theorem dX5_on_16 : decode cX5_on 16 = .ok (.ifnull 7, 3) := by decide +kernel
theorem dX5_on_19 : decode cX5_on 19 = .ok (.iload_n 3, 1) := by decide +kernel
theorem dX5_on_20 : decode cX5_on 20 = .ok (.ifCond .eq 5, 3) := by decide +kernel
theorem dX5_on_23 : decode cX5_on 23 = .ok (.iload_n 3, 1) := by decide +kernel
theorem dX5_on_24 : decode cX5_on 24 = .ok (.ireturn, 1) := by decide +kernel
theorem dX5_on_25 : decode cX5_on 25 = .ok (.aload_n 0, 1) := by decide +kernel
theorem dX5_on_26 : decode cX5_on 26 = .ok (.getfield 49, 3) := by decide +kernel
theorem dX5_on_29 : decode cX5_on 29 = .ok (.getfield 125, 3) := by decide +kernel
theorem dX5_on_32 : decode cX5_on 32 = .ok (.aload_n 2, 1) := by decide +kernel
theorem dX5_on_33 : decode cX5_on 33 = .ok (.invokevirtual 200, 3) := by decide +kernel
theorem dX5_on_36 : decode cX5_on 36 = .ok (.aload_n 0, 1) := by decide +kernel
theorem dX5_on_37 : decode cX5_on 37 = .ok (.getfield 49, 3) := by decide +kernel
theorem dX5_on_40 : decode cX5_on 40 = .ok (.invokevirtual 128, 3) := by decide +kernel
theorem dX5_on_43 : decode cX5_on 43 = .ok (.aload_n 0, 1) := by decide +kernel
theorem dX5_on_44 : decode cX5_on 44 = .ok (.getfield 49, 3) := by decide +kernel
theorem dX5_on_47 : decode cX5_on 47 = .ok (.getfield 125, 3) := by decide +kernel
theorem dX5_on_50 : decode cX5_on 50 = .ok (.getfield 85, 3) := by decide +kernel
theorem dX5_on_53 : decode cX5_on 53 = .ok (.ireturn, 1) := by decide +kernel
theorem dX5_takes_0 : decode cX5_takes 0 = .ok (.aload_n 0, 1) := by decide +kernel
theorem dX5_takes_1 : decode cX5_takes 1 = .ok (.getfield 49, 3) := by decide +kernel
theorem dX5_takes_4 : decode cX5_takes 4 = .ok (.iload_n 1, 1) := by decide +kernel
theorem dX5_takes_5 : decode cX5_takes 5 = .ok (.invokevirtual 132, 3) := by decide +kernel
theorem dX5_takes_8 : decode cX5_takes 8 = .ok (.ifCond .eq 10, 3) := by decide +kernel
theorem dX5_takes_11 : decode cX5_takes 11 = .ok (.iload_n 2, 1) := by decide +kernel
theorem dX5_takes_12 : decode cX5_takes 12 = .ok (.invokestatic 185, 3) := by decide +kernel
theorem dX5_takes_15 : decode cX5_takes 15 = .ok (.ifCond .ne 5, 3) := by decide +kernel
theorem dX5_takes_18 : decode cX5_takes 18 = .ok (.iconst (-1), 1) := by decide +kernel
theorem dX5_takes_19 : decode cX5_takes 19 = .ok (.ireturn, 1) := by decide +kernel
theorem dX5_takes_20 : decode cX5_takes 20 = .ok (.aload_n 0, 1) := by decide +kernel
theorem dX5_takes_21 : decode cX5_takes 21 = .ok (.getfield 49, 3) := by decide +kernel
theorem dX5_takes_24 : decode cX5_takes 24 = .ok (.iload_n 1, 1) := by decide +kernel
theorem dX5_takes_25 : decode cX5_takes 25 = .ok (.iload_n 2, 1) := by decide +kernel
theorem dX5_takes_26 : decode cX5_takes 26 = .ok (.invokevirtual 149, 3) := by decide +kernel
theorem dX5_takes_29 : decode cX5_takes 29 = .ok (.ireturn, 1) := by decide +kernel
theorem dX5_pays_0 : decode cX5_pays 0 = .ok (.aload_n 0, 1) := by decide +kernel
theorem dX5_pays_1 : decode cX5_pays 1 = .ok (.getfield 49, 3) := by decide +kernel
theorem dX5_pays_4 : decode cX5_pays 4 = .ok (.iload_n 1, 1) := by decide +kernel
theorem dX5_pays_5 : decode cX5_pays 5 = .ok (.invokevirtual 132, 3) := by decide +kernel
theorem dX5_pays_8 : decode cX5_pays 8 = .ok (.ifCond .eq 14, 3) := by decide +kernel
theorem dX5_pays_11 : decode cX5_pays 11 = .ok (.aload_n 0, 1) := by decide +kernel
theorem dX5_pays_12 : decode cX5_pays 12 = .ok (.getfield 49, 3) := by decide +kernel
theorem dX5_pays_15 : decode cX5_pays 15 = .ok (.iload_n 1, 1) := by decide +kernel
theorem dX5_pays_16 : decode cX5_pays 16 = .ok (.invokevirtual 159, 3) := by decide +kernel
theorem dX5_pays_19 : decode cX5_pays 19 = .ok (.goto 4, 3) := by decide +kernel
theorem dX5_pays_22 : decode cX5_pays 22 = .ok (.iconst (-1), 1) := by decide +kernel
theorem dX5_pays_23 : decode cX5_pays 23 = .ok (.ireturn, 1) := by decide +kernel
theorem dX5_who_0 : decode cX5_who 0 = .ok (.iload_n 1, 1) := by decide +kernel
theorem dX5_who_1 : decode cX5_who 1 = .ok (.invokestatic 185, 3) := by decide +kernel
theorem dX5_who_4 : decode cX5_who 4 = .ok (.ifCond .eq 13, 3) := by decide +kernel
theorem dX5_who_7 : decode cX5_who 7 = .ok (.iload_n 2, 1) := by decide +kernel
theorem dX5_who_8 : decode cX5_who 8 = .ok (.iconst 1, 1) := by decide +kernel
theorem dX5_who_9 : decode cX5_who 9 = .ok (.bipush 9, 2) := by decide +kernel
theorem dX5_who_11 : decode cX5_who 11 = .ok (.invokestatic 75, 3) := by decide +kernel
theorem dX5_who_14 : decode cX5_who 14 = .ok (.ifCond .ne 5, 3) := by decide +kernel
theorem dX5_who_17 : decode cX5_who 17 = .ok (.iconst (-1), 1) := by decide +kernel
theorem dX5_who_18 : decode cX5_who 18 = .ok (.ireturn, 1) := by decide +kernel
theorem dX5_who_19 : decode cX5_who 19 = .ok (.iconst 0, 1) := by decide +kernel
theorem dX5_who_20 : decode cX5_who 20 = .ok (.istore_n 3, 1) := by decide +kernel
theorem dX5_who_21 : decode cX5_who 21 = .ok (.iconst 0, 1) := by decide +kernel
theorem dX5_who_22 : decode cX5_who 22 = .ok (.istore 4, 2) := by decide +kernel
theorem dX5_who_24 : decode cX5_who 24 = .ok (.iload 4, 2) := by decide +kernel
theorem dX5_who_26 : decode cX5_who 26 = .ok (.aload_n 0, 1) := by decide +kernel
theorem dX5_who_27 : decode cX5_who 27 = .ok (.getfield 49, 3) := by decide +kernel
theorem dX5_who_30 : decode cX5_who 30 = .ok (.getfield 131, 3) := by decide +kernel
theorem dX5_who_33 : decode cX5_who 33 = .ok (.if_icmp .ge 30, 3) := by decide +kernel
theorem dX5_who_36 : decode cX5_who 36 = .ok (.aload_n 0, 1) := by decide +kernel
theorem dX5_who_37 : decode cX5_who 37 = .ok (.getfield 49, 3) := by decide +kernel
theorem dX5_who_40 : decode cX5_who 40 = .ok (.iload 4, 2) := by decide +kernel
theorem dX5_who_42 : decode cX5_who 42 = .ok (.iload_n 1, 1) := by decide +kernel
theorem dX5_who_43 : decode cX5_who 43 = .ok (.invokevirtual 149, 3) := by decide +kernel
theorem dX5_who_46 : decode cX5_who 46 = .ok (.iload_n 2, 1) := by decide +kernel
theorem dX5_who_47 : decode cX5_who 47 = .ok (.if_icmp .ne 10, 3) := by decide +kernel
theorem dX5_who_50 : decode cX5_who 50 = .ok (.iload_n 3, 1) := by decide +kernel
theorem dX5_who_51 : decode cX5_who 51 = .ok (.iconst 1, 1) := by decide +kernel
theorem dX5_who_52 : decode cX5_who 52 = .ok (.iload 4, 2) := by decide +kernel
theorem dX5_who_54 : decode cX5_who 54 = .ok (.ishl, 1) := by decide +kernel
theorem dX5_who_55 : decode cX5_who 55 = .ok (.ior, 1) := by decide +kernel
theorem dX5_who_56 : decode cX5_who 56 = .ok (.istore_n 3, 1) := by decide +kernel
theorem dX5_who_57 : decode cX5_who 57 = .ok (.iinc 4 1, 3) := by decide +kernel
theorem dX5_who_60 : decode cX5_who 60 = .ok (.goto (-36), 3) := by decide +kernel
theorem dX5_who_63 : decode cX5_who 63 = .ok (.iload_n 3, 1) := by decide +kernel
theorem dX5_who_64 : decode cX5_who 64 = .ok (.ireturn, 1) := by decide +kernel
theorem dX5_quarrels_0 : decode cX5_quarrels 0 = .ok (.aload_n 0, 1) := by decide +kernel
theorem dX5_quarrels_1 : decode cX5_quarrels 1 = .ok (.getfield 49, 3) := by decide +kernel
theorem dX5_quarrels_4 : decode cX5_quarrels 4 = .ok (.getfield 131, 3) := by decide +kernel
theorem dX5_quarrels_7 : decode cX5_quarrels 7 = .ok (.ifCond .ne 8, 3) := by decide +kernel
theorem dX5_quarrels_10 : decode cX5_quarrels 10 = .ok (.bipush (-4), 2) := by decide +kernel
theorem dX5_quarrels_12 : decode cX5_quarrels 12 = .ok (.goto 10, 3) := by decide +kernel
theorem dX5_quarrels_15 : decode cX5_quarrels 15 = .ok (.aload_n 0, 1) := by decide +kernel
theorem dX5_quarrels_16 : decode cX5_quarrels 16 = .ok (.getfield 49, 3) := by decide +kernel
theorem dX5_quarrels_19 : decode cX5_quarrels 19 = .ok (.invokevirtual 204, 3) := by decide +kernel
theorem dX5_quarrels_22 : decode cX5_quarrels 22 = .ok (.ireturn, 1) := by decide +kernel
theorem dX5_soonest_0 : decode cX5_soonest 0 = .ok (.aload_n 0, 1) := by decide +kernel
theorem dX5_soonest_1 : decode cX5_soonest 1 = .ok (.getfield 49, 3) := by decide +kernel
theorem dX5_soonest_4 : decode cX5_soonest 4 = .ok (.iload_n 1, 1) := by decide +kernel
theorem dX5_soonest_5 : decode cX5_soonest 5 = .ok (.invokevirtual 207, 3) := by decide +kernel
theorem dX5_soonest_8 : decode cX5_soonest 8 = .ok (.ifCond .ne 5, 3) := by decide +kernel
theorem dX5_soonest_11 : decode cX5_soonest 11 = .ok (.iconst (-1), 1) := by decide +kernel
theorem dX5_soonest_12 : decode cX5_soonest 12 = .ok (.ireturn, 1) := by decide +kernel
theorem dX5_soonest_13 : decode cX5_soonest 13 = .ok (.aload_n 0, 1) := by decide +kernel
theorem dX5_soonest_14 : decode cX5_soonest 14 = .ok (.getfield 49, 3) := by decide +kernel
theorem dX5_soonest_17 : decode cX5_soonest 17 = .ok (.iload_n 1, 1) := by decide +kernel
theorem dX5_soonest_18 : decode cX5_soonest 18 = .ok (.invokevirtual 210, 3) := by decide +kernel
theorem dX5_soonest_21 : decode cX5_soonest 21 = .ok (.ifCond .ne 6, 3) := by decide +kernel
theorem dX5_soonest_24 : decode cX5_soonest 24 = .ok (.bipush (-4), 2) := by decide +kernel
theorem dX5_soonest_26 : decode cX5_soonest 26 = .ok (.ireturn, 1) := by decide +kernel
theorem dX5_soonest_27 : decode cX5_soonest 27 = .ok (.aload_n 0, 1) := by decide +kernel
theorem dX5_soonest_28 : decode cX5_soonest 28 = .ok (.getfield 49, 3) := by decide +kernel
theorem dX5_soonest_31 : decode cX5_soonest 31 = .ok (.iload_n 1, 1) := by decide +kernel
theorem dX5_soonest_32 : decode cX5_soonest 32 = .ok (.invokevirtual 213, 3) := by decide +kernel
theorem dX5_soonest_35 : decode cX5_soonest 35 = .ok (.iload_n 1, 1) := by decide +kernel
theorem dX5_soonest_36 : decode cX5_soonest 36 = .ok (.aload_n 0, 1) := by decide +kernel
theorem dX5_soonest_37 : decode cX5_soonest 37 = .ok (.getfield 49, 3) := by decide +kernel
theorem dX5_soonest_40 : decode cX5_soonest 40 = .ok (.getfield 169, 3) := by decide +kernel
theorem dX5_soonest_43 : decode cX5_soonest 43 = .ok (.invokestatic 216, 3) := by decide +kernel
theorem dX5_soonest_46 : decode cX5_soonest 46 = .ok (.iadd, 1) := by decide +kernel
theorem dX5_soonest_47 : decode cX5_soonest 47 = .ok (.ireturn, 1) := by decide +kernel
theorem dX5_intime_0 : decode cX5_intime 0 = .ok (.aload_n 0, 1) := by decide +kernel
theorem dX5_intime_1 : decode cX5_intime 1 = .ok (.getfield 13, 3) := by decide +kernel
theorem dX5_intime_4 : decode cX5_intime 4 = .ok (.iload_n 2, 1) := by decide +kernel
theorem dX5_intime_5 : decode cX5_intime 5 = .ok (.invokestatic 99, 3) := by decide +kernel
theorem dX5_intime_8 : decode cX5_intime 8 = .ok (.astore_n 3, 1) := by decide +kernel
theorem dX5_intime_9 : decode cX5_intime 9 = .ok (.aload_n 3, 1) := by decide +kernel
theorem dX5_intime_10 : decode cX5_intime 10 = .ok (.ifnull 14, 3) := by decide +kernel
theorem dX5_intime_13 : decode cX5_intime 13 = .ok (.aload_n 0, 1) := by decide +kernel
theorem dX5_intime_14 : decode cX5_intime 14 = .ok (.getfield 49, 3) := by decide +kernel
theorem dX5_intime_17 : decode cX5_intime 17 = .ok (.iload_n 1, 1) := by decide +kernel
theorem dX5_intime_18 : decode cX5_intime 18 = .ok (.invokevirtual 207, 3) := by decide +kernel
theorem dX5_intime_21 : decode cX5_intime 21 = .ok (.ifCond .ne 5, 3) := by decide +kernel
theorem dX5_intime_24 : decode cX5_intime 24 = .ok (.iconst (-1), 1) := by decide +kernel
theorem dX5_intime_25 : decode cX5_intime 25 = .ok (.ireturn, 1) := by decide +kernel
theorem dX5_intime_26 : decode cX5_intime 26 = .ok (.aload_n 0, 1) := by decide +kernel
theorem dX5_intime_27 : decode cX5_intime 27 = .ok (.getfield 49, 3) := by decide +kernel
theorem dX5_intime_30 : decode cX5_intime 30 = .ok (.iload_n 1, 1) := by decide +kernel
theorem dX5_intime_31 : decode cX5_intime 31 = .ok (.invokevirtual 210, 3) := by decide +kernel
theorem dX5_intime_34 : decode cX5_intime 34 = .ok (.ifCond .ne 6, 3) := by decide +kernel
theorem dX5_intime_37 : decode cX5_intime 37 = .ok (.bipush (-4), 2) := by decide +kernel
theorem dX5_intime_39 : decode cX5_intime 39 = .ok (.ireturn, 1) := by decide +kernel
theorem dX5_intime_40 : decode cX5_intime 40 = .ok (.aload_n 0, 1) := by decide +kernel
theorem dX5_intime_41 : decode cX5_intime 41 = .ok (.getfield 33, 3) := by decide +kernel
theorem dX5_intime_44 : decode cX5_intime 44 = .ok (.aload_n 0, 1) := by decide +kernel
theorem dX5_intime_45 : decode cX5_intime 45 = .ok (.getfield 49, 3) := by decide +kernel
theorem dX5_intime_48 : decode cX5_intime 48 = .ok (.iload_n 1, 1) := by decide +kernel
theorem dX5_intime_49 : decode cX5_intime 49 = .ok (.invokevirtual 219, 3) := by decide +kernel
theorem dX5_intime_52 : decode cX5_intime 52 = .ok (.istore 4, 2) := by decide +kernel
theorem dX5_intime_54 : decode cX5_intime 54 = .ok (.iload 4, 2) := by decide +kernel
theorem dX5_intime_56 : decode cX5_intime 56 = .ok (.bipush (-9), 2) := by decide +kernel
theorem dX5_intime_58 : decode cX5_intime 58 = .ok (.if_icmp .eq 14, 3) := by decide +kernel
theorem dX5_intime_61 : decode cX5_intime 61 = .ok (.aload_n 3, 1) := by decide +kernel
theorem dX5_intime_62 : decode cX5_intime 62 = .ok (.aload_n 0, 1) := by decide +kernel
theorem dX5_intime_63 : decode cX5_intime 63 = .ok (.getfield 33, 3) := by decide +kernel
theorem dX5_intime_66 : decode cX5_intime 66 = .ok (.getfield 223, 3) := by decide +kernel
theorem dX5_intime_69 : decode cX5_intime 69 = .ok (.invokevirtual 200, 3) := by decide +kernel
theorem dX5_intime_72 : decode cX5_intime 72 = .ok (.iload 4, 2) := by decide +kernel
theorem dX5_intime_74 : decode cX5_intime 74 = .ok (.ireturn, 1) := by decide +kernel
theorem dX5_many_0 : decode cX5_many 0 = .ok (.aload_n 0, 1) := by decide +kernel
theorem dX5_many_1 : decode cX5_many 1 = .ok (.getfield 49, 3) := by decide +kernel
theorem dX5_many_4 : decode cX5_many 4 = .ok (.getfield 131, 3) := by decide +kernel
theorem dX5_many_7 : decode cX5_many 7 = .ok (.ifCond .ne 6, 3) := by decide +kernel
theorem dX5_many_10 : decode cX5_many 10 = .ok (.bipush (-4), 2) := by decide +kernel
theorem dX5_many_12 : decode cX5_many 12 = .ok (.ireturn, 1) := by decide +kernel
theorem dX5_many_13 : decode cX5_many 13 = .ok (.aload_n 0, 1) := by decide +kernel
theorem dX5_many_14 : decode cX5_many 14 = .ok (.aload_n 0, 1) := by decide +kernel
theorem dX5_many_15 : decode cX5_many 15 = .ok (.getfield 33, 3) := by decide +kernel
theorem dX5_many_18 : decode cX5_many 18 = .ok (.aload_n 0, 1) := by decide +kernel
theorem dX5_many_19 : decode cX5_many 19 = .ok (.getfield 49, 3) := by decide +kernel
theorem dX5_many_22 : decode cX5_many 22 = .ok (.invokevirtual 226, 3) := by decide +kernel
theorem dX5_many_25 : decode cX5_many 25 = .ok (.putfield 107, 3) := by decide +kernel
theorem dX5_many_28 : decode cX5_many 28 = .ok (.aload_n 0, 1) := by decide +kernel
theorem dX5_many_29 : decode cX5_many 29 = .ok (.getfield 107, 3) := by decide +kernel
theorem dX5_many_32 : decode cX5_many 32 = .ok (.invokestatic 192, 3) := by decide +kernel
theorem dX5_many_35 : decode cX5_many 35 = .ok (.ireturn, 1) := by decide +kernel
theorem dX5_dates_0 : decode cX5_dates 0 = .ok (.aload_n 0, 1) := by decide +kernel
theorem dX5_dates_1 : decode cX5_dates 1 = .ok (.getfield 13, 3) := by decide +kernel
theorem dX5_dates_4 : decode cX5_dates 4 = .ok (.iload_n 1, 1) := by decide +kernel
theorem dX5_dates_5 : decode cX5_dates 5 = .ok (.invokestatic 99, 3) := by decide +kernel
theorem dX5_dates_8 : decode cX5_dates 8 = .ok (.astore_n 2, 1) := by decide +kernel
theorem dX5_dates_9 : decode cX5_dates 9 = .ok (.aload_n 2, 1) := by decide +kernel
theorem dX5_dates_10 : decode cX5_dates 10 = .ok (.ifnonnull 5, 3) := by decide +kernel
theorem dX5_dates_13 : decode cX5_dates 13 = .ok (.iconst (-1), 1) := by decide +kernel
theorem dX5_dates_14 : decode cX5_dates 14 = .ok (.ireturn, 1) := by decide +kernel
theorem dX5_dates_15 : decode cX5_dates 15 = .ok (.aload_n 0, 1) := by decide +kernel
theorem dX5_dates_16 : decode cX5_dates 16 = .ok (.getfield 49, 3) := by decide +kernel
theorem dX5_dates_19 : decode cX5_dates 19 = .ok (.getfield 131, 3) := by decide +kernel
theorem dX5_dates_22 : decode cX5_dates 22 = .ok (.ifCond .ne 6, 3) := by decide +kernel
theorem dX5_dates_25 : decode cX5_dates 25 = .ok (.bipush (-4), 2) := by decide +kernel
theorem dX5_dates_27 : decode cX5_dates 27 = .ok (.ireturn, 1) := by decide +kernel
theorem dX5_dates_28 : decode cX5_dates 28 = .ok (.aload_n 0, 1) := by decide +kernel
theorem dX5_dates_29 : decode cX5_dates 29 = .ok (.getfield 49, 3) := by decide +kernel
theorem dX5_dates_32 : decode cX5_dates 32 = .ok (.iconst 0, 1) := by decide +kernel
theorem dX5_dates_33 : decode cX5_dates 33 = .ok (.iconst 1, 1) := by decide +kernel
theorem dX5_dates_34 : decode cX5_dates 34 = .ok (.invokevirtual 230, 3) := by decide +kernel
theorem dX5_dates_37 : decode cX5_dates 37 = .ok (.istore_n 3, 1) := by decide +kernel
theorem dX5_dates_38 : decode cX5_dates 38 = .ok (.aload_n 0, 1) := by decide +kernel
theorem dX5_dates_39 : decode cX5_dates 39 = .ok (.getfield 49, 3) := by decide +kernel
theorem dX5_dates_42 : decode cX5_dates 42 = .ok (.iconst 0, 1) := by decide +kernel
theorem dX5_dates_43 : decode cX5_dates 43 = .ok (.iconst (-1), 1) := by decide +kernel
theorem dX5_dates_44 : decode cX5_dates 44 = .ok (.invokevirtual 230, 3) := by decide +kernel
theorem dX5_dates_47 : decode cX5_dates 47 = .ok (.istore 4, 2) := by decide +kernel
theorem dX5_dates_49 : decode cX5_dates 49 = .ok (.iload_n 3, 1) := by decide +kernel
theorem dX5_dates_50 : decode cX5_dates 50 = .ok (.iload 4, 2) := by decide +kernel
theorem dX5_dates_52 : decode cX5_dates 52 = .ok (.if_icmp .gt 7, 3) := by decide +kernel
theorem dX5_dates_55 : decode cX5_dates 55 = .ok (.iconst 1, 1) := by decide +kernel
theorem dX5_dates_56 : decode cX5_dates 56 = .ok (.goto 4, 3) := by decide +kernel
theorem dX5_dates_59 : decode cX5_dates 59 = .ok (.iconst (-1), 1) := by decide +kernel
theorem dX5_dates_60 : decode cX5_dates 60 = .ok (.istore 5, 2) := by decide +kernel
theorem dX5_dates_62 : decode cX5_dates 62 = .ok (.aload_n 2, 1) := by decide +kernel
theorem dX5_dates_63 : decode cX5_dates 63 = .ok (.aload_n 0, 1) := by decide +kernel
theorem dX5_dates_64 : decode cX5_dates 64 = .ok (.getfield 49, 3) := by decide +kernel
theorem dX5_dates_67 : decode cX5_dates 67 = .ok (.getfield 131, 3) := by decide +kernel
theorem dX5_dates_70 : decode cX5_dates 70 = .ok (.iconst 0, 1) := by decide +kernel
theorem dX5_dates_71 : decode cX5_dates 71 = .ok (.invokevirtual 60, 3) := by decide +kernel
theorem dX5_dates_74 : decode cX5_dates 74 = .ok (.iconst 0, 1) := by decide +kernel
theorem dX5_dates_75 : decode cX5_dates 75 = .ok (.istore 6, 2) := by decide +kernel
theorem dX5_dates_77 : decode cX5_dates 77 = .ok (.iconst 0, 1) := by decide +kernel
theorem dX5_dates_78 : decode cX5_dates 78 = .ok (.istore 7, 2) := by decide +kernel
theorem dX5_dates_80 : decode cX5_dates 80 = .ok (.iload 7, 2) := by decide +kernel
theorem dX5_dates_82 : decode cX5_dates 82 = .ok (.aload_n 0, 1) := by decide +kernel
theorem dX5_dates_83 : decode cX5_dates 83 = .ok (.getfield 49, 3) := by decide +kernel
theorem dX5_dates_86 : decode cX5_dates 86 = .ok (.getfield 131, 3) := by decide +kernel
theorem dX5_dates_89 : decode cX5_dates 89 = .ok (.if_icmp .ge 39, 3) := by decide +kernel
theorem dX5_dates_92 : decode cX5_dates 92 = .ok (.aload_n 0, 1) := by decide +kernel
theorem dX5_dates_93 : decode cX5_dates 93 = .ok (.getfield 49, 3) := by decide +kernel
theorem dX5_dates_96 : decode cX5_dates 96 = .ok (.iload 6, 2) := by decide +kernel
theorem dX5_dates_98 : decode cX5_dates 98 = .ok (.iload 5, 2) := by decide +kernel
theorem dX5_dates_100 : decode cX5_dates 100 = .ok (.invokevirtual 230, 3) := by decide +kernel
theorem dX5_dates_103 : decode cX5_dates 103 = .ok (.istore 8, 2) := by decide +kernel
theorem dX5_dates_105 : decode cX5_dates 105 = .ok (.aload_n 2, 1) := by decide +kernel
theorem dX5_dates_106 : decode cX5_dates 106 = .ok (.iload 7, 2) := by decide +kernel
theorem dX5_dates_108 : decode cX5_dates 108 = .ok (.iload 8, 2) := by decide +kernel
theorem dX5_dates_110 : decode cX5_dates 110 = .ok (.invokevirtual 72, 3) := by decide +kernel
theorem dX5_dates_113 : decode cX5_dates 113 = .ok (.iload 6, 2) := by decide +kernel
theorem dX5_dates_115 : decode cX5_dates 115 = .ok (.iconst 1, 1) := by decide +kernel
theorem dX5_dates_116 : decode cX5_dates 116 = .ok (.iload 8, 2) := by decide +kernel
theorem dX5_dates_118 : decode cX5_dates 118 = .ok (.ishl, 1) := by decide +kernel
theorem dX5_dates_119 : decode cX5_dates 119 = .ok (.ior, 1) := by decide +kernel
theorem dX5_dates_120 : decode cX5_dates 120 = .ok (.istore 6, 2) := by decide +kernel
theorem dX5_dates_122 : decode cX5_dates 122 = .ok (.iinc 7 1, 3) := by decide +kernel
theorem dX5_dates_125 : decode cX5_dates 125 = .ok (.goto (-45), 3) := by decide +kernel
theorem dX5_dates_128 : decode cX5_dates 128 = .ok (.aload_n 0, 1) := by decide +kernel
theorem dX5_dates_129 : decode cX5_dates 129 = .ok (.getfield 49, 3) := by decide +kernel
theorem dX5_dates_132 : decode cX5_dates 132 = .ok (.getfield 146, 3) := by decide +kernel
theorem dX5_dates_135 : decode cX5_dates 135 = .ok (.iload 4, 2) := by decide +kernel
theorem dX5_dates_137 : decode cX5_dates 137 = .ok (.invokevirtual 68, 3) := by decide +kernel
theorem dX5_dates_140 : decode cX5_dates 140 = .ok (.aload_n 0, 1) := by decide +kernel
theorem dX5_dates_141 : decode cX5_dates 141 = .ok (.getfield 49, 3) := by decide +kernel
theorem dX5_dates_144 : decode cX5_dates 144 = .ok (.getfield 146, 3) := by decide +kernel
theorem dX5_dates_147 : decode cX5_dates 147 = .ok (.iload_n 3, 1) := by decide +kernel
theorem dX5_dates_148 : decode cX5_dates 148 = .ok (.invokevirtual 68, 3) := by decide +kernel
theorem dX5_dates_151 : decode cX5_dates 151 = .ok (.isub, 1) := by decide +kernel
theorem dX5_dates_152 : decode cX5_dates 152 = .ok (.ireturn, 1) := by decide +kernel
theorem dX5_refusedPairs_0 : decode cX5_refusedPairs 0 = .ok (.aload_n 0, 1) := by decide +kernel
theorem dX5_refusedPairs_1 : decode cX5_refusedPairs 1 = .ok (.aload_n 1, 1) := by decide +kernel
theorem dX5_refusedPairs_2 : decode cX5_refusedPairs 2 = .ok (.invokevirtual 91, 3) := by decide +kernel
theorem dX5_refusedPairs_5 : decode cX5_refusedPairs 5 = .ok (.istore_n 2, 1) := by decide +kernel
theorem dX5_refusedPairs_6 : decode cX5_refusedPairs 6 = .ok (.aload_n 1, 1) := by decide +kernel
theorem dX5_refusedPairs_7 : decode cX5_refusedPairs 7 = .ok (.ifnull 7, 3) := by decide +kernel
theorem dX5_refusedPairs_10 : decode cX5_refusedPairs 10 = .ok (.iload_n 2, 1) := by decide +kernel
theorem dX5_refusedPairs_11 : decode cX5_refusedPairs 11 = .ok (.ifCond .eq 5, 3) := by decide +kernel
theorem dX5_refusedPairs_14 : decode cX5_refusedPairs 14 = .ok (.iload_n 2, 1) := by decide +kernel
theorem dX5_refusedPairs_15 : decode cX5_refusedPairs 15 = .ok (.ireturn, 1) := by decide +kernel
theorem dX5_refusedPairs_16 : decode cX5_refusedPairs 16 = .ok (.aload_n 1, 1) := by decide +kernel
theorem dX5_refusedPairs_17 : decode cX5_refusedPairs 17 = .ok (.getfield 85, 3) := by decide +kernel
theorem dX5_refusedPairs_20 : decode cX5_refusedPairs 20 = .ok (.iconst 2, 1) := by decide +kernel
theorem dX5_refusedPairs_21 : decode cX5_refusedPairs 21 = .ok (.irem, 1) := by decide +kernel
theorem dX5_refusedPairs_22 : decode cX5_refusedPairs 22 = .ok (.ifCond .ne 12, 3) := by decide +kernel
theorem dX5_refusedPairs_25 : decode cX5_refusedPairs 25 = .ok (.aload_n 1, 1) := by decide +kernel
theorem dX5_refusedPairs_26 : decode cX5_refusedPairs 26 = .ok (.getfield 85, 3) := by decide +kernel
theorem dX5_refusedPairs_29 : decode cX5_refusedPairs 29 = .ok (.bipush 16, 2) := by decide +kernel
theorem dX5_refusedPairs_31 : decode cX5_refusedPairs 31 = .ok (.if_icmp .le 9, 3) := by decide +kernel
theorem dX5_refusedPairs_34 : decode cX5_refusedPairs 34 = .ok (.aload_n 0, 1) := by decide +kernel
theorem dX5_refusedPairs_35 : decode cX5_refusedPairs 35 = .ok (.iconst 5, 1) := by decide +kernel
theorem dX5_refusedPairs_36 : decode cX5_refusedPairs 36 = .ok (.invokevirtual 88, 3) := by decide +kernel
theorem dX5_refusedPairs_39 : decode cX5_refusedPairs 39 = .ok (.ireturn, 1) := by decide +kernel
theorem dX5_refusedPairs_40 : decode cX5_refusedPairs 40 = .ok (.iconst 0, 1) := by decide +kernel
theorem dX5_refusedPairs_41 : decode cX5_refusedPairs 41 = .ok (.istore_n 3, 1) := by decide +kernel
theorem dX5_refusedPairs_42 : decode cX5_refusedPairs 42 = .ok (.iload_n 3, 1) := by decide +kernel
theorem dX5_refusedPairs_43 : decode cX5_refusedPairs 43 = .ok (.aload_n 1, 1) := by decide +kernel
theorem dX5_refusedPairs_44 : decode cX5_refusedPairs 44 = .ok (.getfield 85, 3) := by decide +kernel
theorem dX5_refusedPairs_47 : decode cX5_refusedPairs 47 = .ok (.if_icmp .ge 42, 3) := by decide +kernel
theorem dX5_refusedPairs_50 : decode cX5_refusedPairs 50 = .ok (.aload_n 1, 1) := by decide +kernel
theorem dX5_refusedPairs_51 : decode cX5_refusedPairs 51 = .ok (.iload_n 3, 1) := by decide +kernel
theorem dX5_refusedPairs_52 : decode cX5_refusedPairs 52 = .ok (.invokevirtual 68, 3) := by decide +kernel
theorem dX5_refusedPairs_55 : decode cX5_refusedPairs 55 = .ok (.invokestatic 185, 3) := by decide +kernel
theorem dX5_refusedPairs_58 : decode cX5_refusedPairs 58 = .ok (.ifCond .eq 19, 3) := by decide +kernel
theorem dX5_refusedPairs_61 : decode cX5_refusedPairs 61 = .ok (.aload_n 1, 1) := by decide +kernel
theorem dX5_refusedPairs_62 : decode cX5_refusedPairs 62 = .ok (.iload_n 3, 1) := by decide +kernel
theorem dX5_refusedPairs_63 : decode cX5_refusedPairs 63 = .ok (.iconst 1, 1) := by decide +kernel
theorem dX5_refusedPairs_64 : decode cX5_refusedPairs 64 = .ok (.iadd, 1) := by decide +kernel
theorem dX5_refusedPairs_65 : decode cX5_refusedPairs 65 = .ok (.invokevirtual 68, 3) := by decide +kernel
theorem dX5_refusedPairs_68 : decode cX5_refusedPairs 68 = .ok (.iconst 0, 1) := by decide +kernel
theorem dX5_refusedPairs_69 : decode cX5_refusedPairs 69 = .ok (.bipush 9, 2) := by decide +kernel
theorem dX5_refusedPairs_71 : decode cX5_refusedPairs 71 = .ok (.invokestatic 75, 3) := by decide +kernel
theorem dX5_refusedPairs_74 : decode cX5_refusedPairs 74 = .ok (.ifCond .ne 9, 3) := by decide +kernel
theorem dX5_refusedPairs_77 : decode cX5_refusedPairs 77 = .ok (.aload_n 0, 1) := by decide +kernel
theorem dX5_refusedPairs_78 : decode cX5_refusedPairs 78 = .ok (.iconst 3, 1) := by decide +kernel
theorem dX5_refusedPairs_79 : decode cX5_refusedPairs 79 = .ok (.invokevirtual 88, 3) := by decide +kernel
theorem dX5_refusedPairs_82 : decode cX5_refusedPairs 82 = .ok (.ireturn, 1) := by decide +kernel
theorem dX5_refusedPairs_83 : decode cX5_refusedPairs 83 = .ok (.iinc 3 2, 3) := by decide +kernel
theorem dX5_refusedPairs_86 : decode cX5_refusedPairs 86 = .ok (.goto (-44), 3) := by decide +kernel
theorem dX5_refusedPairs_89 : decode cX5_refusedPairs 89 = .ok (.iconst 0, 1) := by decide +kernel
theorem dX5_refusedPairs_90 : decode cX5_refusedPairs 90 = .ok (.ireturn, 1) := by decide +kernel
theorem dX5_tookOf_0 : decode cX5_tookOf 0 = .ok (.iload_n 0, 1) := by decide +kernel
theorem dX5_tookOf_1 : decode cX5_tookOf 1 = .ok (.iload_n 1, 1) := by decide +kernel
theorem dX5_tookOf_2 : decode cX5_tookOf 2 = .ok (.iload_n 2, 1) := by decide +kernel
theorem dX5_tookOf_3 : decode cX5_tookOf 3 = .ok (.invokestatic 155, 3) := by decide +kernel
theorem dX5_tookOf_6 : decode cX5_tookOf 6 = .ok (.istore_n 3, 1) := by decide +kernel
theorem dX5_tookOf_7 : decode cX5_tookOf 7 = .ok (.iload_n 3, 1) := by decide +kernel
theorem dX5_tookOf_8 : decode cX5_tookOf 8 = .ok (.bipush (-9), 2) := by decide +kernel
theorem dX5_tookOf_10 : decode cX5_tookOf 10 = .ok (.if_icmp .ne 7, 3) := by decide +kernel
theorem dX5_tookOf_13 : decode cX5_tookOf 13 = .ok (.iconst 0, 1) := by decide +kernel
theorem dX5_tookOf_14 : decode cX5_tookOf 14 = .ok (.goto 4, 3) := by decide +kernel
theorem dX5_tookOf_17 : decode cX5_tookOf 17 = .ok (.iload_n 3, 1) := by decide +kernel
theorem dX5_tookOf_18 : decode cX5_tookOf 18 = .ok (.ireturn, 1) := by decide +kernel
theorem dX5_canBe_0 : decode cX5_canBe 0 = .ok (.iconst 0, 1) := by decide +kernel
theorem dX5_canBe_1 : decode cX5_canBe 1 = .ok (.istore_n 3, 1) := by decide +kernel
theorem dX5_canBe_2 : decode cX5_canBe 2 = .ok (.iload_n 3, 1) := by decide +kernel
theorem dX5_canBe_3 : decode cX5_canBe 3 = .ok (.aload_n 2, 1) := by decide +kernel
theorem dX5_canBe_4 : decode cX5_canBe 4 = .ok (.getfield 85, 3) := by decide +kernel
theorem dX5_canBe_7 : decode cX5_canBe 7 = .ok (.if_icmp .ge 37, 3) := by decide +kernel
theorem dX5_canBe_10 : decode cX5_canBe 10 = .ok (.iload_n 1, 1) := by decide +kernel
theorem dX5_canBe_11 : decode cX5_canBe 11 = .ok (.aload_n 2, 1) := by decide +kernel
theorem dX5_canBe_12 : decode cX5_canBe 12 = .ok (.iload_n 3, 1) := by decide +kernel
theorem dX5_canBe_13 : decode cX5_canBe 13 = .ok (.invokevirtual 68, 3) := by decide +kernel
theorem dX5_canBe_16 : decode cX5_canBe 16 = .ok (.aload_n 0, 1) := by decide +kernel
theorem dX5_canBe_17 : decode cX5_canBe 17 = .ok (.getfield 49, 3) := by decide +kernel
theorem dX5_canBe_20 : decode cX5_canBe 20 = .ok (.getfield 152, 3) := by decide +kernel
theorem dX5_canBe_23 : decode cX5_canBe 23 = .ok (.invokestatic 233, 3) := by decide +kernel
theorem dX5_canBe_26 : decode cX5_canBe 26 = .ok (.aload_n 2, 1) := by decide +kernel
theorem dX5_canBe_27 : decode cX5_canBe 27 = .ok (.iload_n 3, 1) := by decide +kernel
theorem dX5_canBe_28 : decode cX5_canBe 28 = .ok (.iconst 1, 1) := by decide +kernel
theorem dX5_canBe_29 : decode cX5_canBe 29 = .ok (.iadd, 1) := by decide +kernel
theorem dX5_canBe_30 : decode cX5_canBe 30 = .ok (.invokevirtual 68, 3) := by decide +kernel
theorem dX5_canBe_33 : decode cX5_canBe 33 = .ok (.if_icmp .eq 5, 3) := by decide +kernel
theorem dX5_canBe_36 : decode cX5_canBe 36 = .ok (.iconst 0, 1) := by decide +kernel
theorem dX5_canBe_37 : decode cX5_canBe 37 = .ok (.ireturn, 1) := by decide +kernel
theorem dX5_canBe_38 : decode cX5_canBe 38 = .ok (.iinc 3 2, 3) := by decide +kernel
theorem dX5_canBe_41 : decode cX5_canBe 41 = .ok (.goto (-39), 3) := by decide +kernel
theorem dX5_canBe_44 : decode cX5_canBe 44 = .ok (.iconst 1, 1) := by decide +kernel
theorem dX5_canBe_45 : decode cX5_canBe 45 = .ok (.ireturn, 1) := by decide +kernel
theorem dX5_kindsBy_0 : decode cX5_kindsBy 0 = .ok (.iconst 0, 1) := by decide +kernel
theorem dX5_kindsBy_1 : decode cX5_kindsBy 1 = .ok (.istore_n 2, 1) := by decide +kernel
theorem dX5_kindsBy_2 : decode cX5_kindsBy 2 = .ok (.iconst 0, 1) := by decide +kernel
theorem dX5_kindsBy_3 : decode cX5_kindsBy 3 = .ok (.istore_n 3, 1) := by decide +kernel
theorem dX5_kindsBy_4 : decode cX5_kindsBy 4 = .ok (.iload_n 3, 1) := by decide +kernel
theorem dX5_kindsBy_5 : decode cX5_kindsBy 5 = .ok (.bipush 6, 2) := by decide +kernel
theorem dX5_kindsBy_7 : decode cX5_kindsBy 7 = .ok (.if_icmp .ge 24, 3) := by decide +kernel
theorem dX5_kindsBy_10 : decode cX5_kindsBy 10 = .ok (.aload_n 0, 1) := by decide +kernel
theorem dX5_kindsBy_11 : decode cX5_kindsBy 11 = .ok (.iload_n 3, 1) := by decide +kernel
theorem dX5_kindsBy_12 : decode cX5_kindsBy 12 = .ok (.aload_n 1, 1) := by decide +kernel
theorem dX5_kindsBy_13 : decode cX5_kindsBy 13 = .ok (.invokevirtual 236, 3) := by decide +kernel
theorem dX5_kindsBy_16 : decode cX5_kindsBy 16 = .ok (.ifCond .eq 9, 3) := by decide +kernel
theorem dX5_kindsBy_19 : decode cX5_kindsBy 19 = .ok (.iload_n 2, 1) := by decide +kernel
theorem dX5_kindsBy_20 : decode cX5_kindsBy 20 = .ok (.iconst 1, 1) := by decide +kernel
theorem dX5_kindsBy_21 : decode cX5_kindsBy 21 = .ok (.iload_n 3, 1) := by decide +kernel
theorem dX5_kindsBy_22 : decode cX5_kindsBy 22 = .ok (.ishl, 1) := by decide +kernel
theorem dX5_kindsBy_23 : decode cX5_kindsBy 23 = .ok (.ior, 1) := by decide +kernel
theorem dX5_kindsBy_24 : decode cX5_kindsBy 24 = .ok (.istore_n 2, 1) := by decide +kernel
theorem dX5_kindsBy_25 : decode cX5_kindsBy 25 = .ok (.iinc 3 1, 3) := by decide +kernel
theorem dX5_kindsBy_28 : decode cX5_kindsBy 28 = .ok (.goto (-24), 3) := by decide +kernel
theorem dX5_kindsBy_31 : decode cX5_kindsBy 31 = .ok (.iload_n 2, 1) := by decide +kernel
theorem dX5_kindsBy_32 : decode cX5_kindsBy 32 = .ok (.ireturn, 1) := by decide +kernel
theorem dX5_holds_0 : decode cX5_holds 0 = .ok (.iload_n 0, 1) := by decide +kernel
theorem dX5_holds_1 : decode cX5_holds 1 = .ok (.iload_n 1, 1) := by decide +kernel
theorem dX5_holds_2 : decode cX5_holds 2 = .ok (.ishr, 1) := by decide +kernel
theorem dX5_holds_3 : decode cX5_holds 3 = .ok (.iconst 1, 1) := by decide +kernel
theorem dX5_holds_4 : decode cX5_holds 4 = .ok (.iand, 1) := by decide +kernel
theorem dX5_holds_5 : decode cX5_holds 5 = .ok (.ifCond .eq 7, 3) := by decide +kernel
theorem dX5_holds_8 : decode cX5_holds 8 = .ok (.iconst 1, 1) := by decide +kernel
theorem dX5_holds_9 : decode cX5_holds 9 = .ok (.goto 4, 3) := by decide +kernel
theorem dX5_holds_12 : decode cX5_holds 12 = .ok (.iconst 0, 1) := by decide +kernel
theorem dX5_holds_13 : decode cX5_holds 13 = .ok (.ireturn, 1) := by decide +kernel
theorem dX5_partOf_0 : decode cX5_partOf 0 = .ok (.iconst 0, 1) := by decide +kernel
theorem dX5_partOf_1 : decode cX5_partOf 1 = .ok (.istore 4, 2) := by decide +kernel
theorem dX5_partOf_3 : decode cX5_partOf 3 = .ok (.iconst 0, 1) := by decide +kernel
theorem dX5_partOf_4 : decode cX5_partOf 4 = .ok (.istore 5, 2) := by decide +kernel
theorem dX5_partOf_6 : decode cX5_partOf 6 = .ok (.iload 5, 2) := by decide +kernel
theorem dX5_partOf_8 : decode cX5_partOf 8 = .ok (.bipush 6, 2) := by decide +kernel
theorem dX5_partOf_10 : decode cX5_partOf 10 = .ok (.if_icmp .ge 45, 3) := by decide +kernel
theorem dX5_partOf_13 : decode cX5_partOf 13 = .ok (.iload 4, 2) := by decide +kernel
theorem dX5_partOf_15 : decode cX5_partOf 15 = .ok (.iload_n 1, 1) := by decide +kernel
theorem dX5_partOf_16 : decode cX5_partOf 16 = .ok (.iload 5, 2) := by decide +kernel
theorem dX5_partOf_18 : decode cX5_partOf 18 = .ok (.invokestatic 240, 3) := by decide +kernel
theorem dX5_partOf_21 : decode cX5_partOf 21 = .ok (.ifCond .eq 24, 3) := by decide +kernel
theorem dX5_partOf_24 : decode cX5_partOf 24 = .ok (.iload 5, 2) := by decide +kernel
theorem dX5_partOf_26 : decode cX5_partOf 26 = .ok (.iload_n 2, 1) := by decide +kernel
theorem dX5_partOf_27 : decode cX5_partOf 27 = .ok (.aload_n 0, 1) := by decide +kernel
theorem dX5_partOf_28 : decode cX5_partOf 28 = .ok (.getfield 49, 3) := by decide +kernel
theorem dX5_partOf_31 : decode cX5_partOf 31 = .ok (.getfield 152, 3) := by decide +kernel
theorem dX5_partOf_34 : decode cX5_partOf 34 = .ok (.invokestatic 233, 3) := by decide +kernel
theorem dX5_partOf_37 : decode cX5_partOf 37 = .ok (.iload_n 3, 1) := by decide +kernel
theorem dX5_partOf_38 : decode cX5_partOf 38 = .ok (.if_icmp .ne 7, 3) := by decide +kernel
theorem dX5_partOf_41 : decode cX5_partOf 41 = .ok (.iconst 1, 1) := by decide +kernel
theorem dX5_partOf_42 : decode cX5_partOf 42 = .ok (.goto 4, 3) := by decide +kernel
theorem dX5_partOf_45 : decode cX5_partOf 45 = .ok (.iconst 0, 1) := by decide +kernel
theorem dX5_partOf_46 : decode cX5_partOf 46 = .ok (.iadd, 1) := by decide +kernel
theorem dX5_partOf_47 : decode cX5_partOf 47 = .ok (.istore 4, 2) := by decide +kernel
theorem dX5_partOf_49 : decode cX5_partOf 49 = .ok (.iinc 5 1, 3) := by decide +kernel
theorem dX5_partOf_52 : decode cX5_partOf 52 = .ok (.goto (-46), 3) := by decide +kernel
theorem dX5_partOf_55 : decode cX5_partOf 55 = .ok (.iload 4, 2) := by decide +kernel
theorem dX5_partOf_57 : decode cX5_partOf 57 = .ok (.ireturn, 1) := by decide +kernel
theorem dX5_greatestPart_0 : decode cX5_greatestPart 0 = .ok (.iconst 0, 1) := by decide +kernel
theorem dX5_greatestPart_1 : decode cX5_greatestPart 1 = .ok (.istore_n 3, 1) := by decide +kernel
theorem dX5_greatestPart_2 : decode cX5_greatestPart 2 = .ok (.iconst 0, 1) := by decide +kernel
theorem dX5_greatestPart_3 : decode cX5_greatestPart 3 = .ok (.istore 4, 2) := by decide +kernel
theorem dX5_greatestPart_5 : decode cX5_greatestPart 5 = .ok (.iload 4, 2) := by decide +kernel
theorem dX5_greatestPart_7 : decode cX5_greatestPart 7 = .ok (.bipush 6, 2) := by decide +kernel
theorem dX5_greatestPart_9 : decode cX5_greatestPart 9 = .ok (.if_icmp .ge 46, 3) := by decide +kernel
theorem dX5_greatestPart_12 : decode cX5_greatestPart 12 = .ok (.iload_n 1, 1) := by decide +kernel
theorem dX5_greatestPart_13 : decode cX5_greatestPart 13 = .ok (.iload 4, 2) := by decide +kernel
theorem dX5_greatestPart_15 : decode cX5_greatestPart 15 = .ok (.invokestatic 240, 3) := by decide +kernel
theorem dX5_greatestPart_18 : decode cX5_greatestPart 18 = .ok (.ifCond .eq 31, 3) := by decide +kernel
theorem dX5_greatestPart_21 : decode cX5_greatestPart 21 = .ok (.iload 4, 2) := by decide +kernel
theorem dX5_greatestPart_23 : decode cX5_greatestPart 23 = .ok (.iload_n 2, 1) := by decide +kernel
theorem dX5_greatestPart_24 : decode cX5_greatestPart 24 = .ok (.aload_n 0, 1) := by decide +kernel
theorem dX5_greatestPart_25 : decode cX5_greatestPart 25 = .ok (.getfield 49, 3) := by decide +kernel
theorem dX5_greatestPart_28 : decode cX5_greatestPart 28 = .ok (.getfield 152, 3) := by decide +kernel
theorem dX5_greatestPart_31 : decode cX5_greatestPart 31 = .ok (.invokestatic 233, 3) := by decide +kernel
theorem dX5_greatestPart_34 : decode cX5_greatestPart 34 = .ok (.istore 5, 2) := by decide +kernel
theorem dX5_greatestPart_36 : decode cX5_greatestPart 36 = .ok (.iload_n 3, 1) := by decide +kernel
theorem dX5_greatestPart_37 : decode cX5_greatestPart 37 = .ok (.aload_n 0, 1) := by decide +kernel
theorem dX5_greatestPart_38 : decode cX5_greatestPart 38 = .ok (.iload_n 1, 1) := by decide +kernel
theorem dX5_greatestPart_39 : decode cX5_greatestPart 39 = .ok (.iload_n 2, 1) := by decide +kernel
theorem dX5_greatestPart_40 : decode cX5_greatestPart 40 = .ok (.iload 5, 2) := by decide +kernel
theorem dX5_greatestPart_42 : decode cX5_greatestPart 42 = .ok (.invokevirtual 243, 3) := by decide +kernel
theorem dX5_greatestPart_45 : decode cX5_greatestPart 45 = .ok (.invokestatic 79, 3) := by decide +kernel
theorem dX5_greatestPart_48 : decode cX5_greatestPart 48 = .ok (.istore_n 3, 1) := by decide +kernel
theorem dX5_greatestPart_49 : decode cX5_greatestPart 49 = .ok (.iinc 4 1, 3) := by decide +kernel
theorem dX5_greatestPart_52 : decode cX5_greatestPart 52 = .ok (.goto (-47), 3) := by decide +kernel
theorem dX5_greatestPart_55 : decode cX5_greatestPart 55 = .ok (.iload_n 3, 1) := by decide +kernel
theorem dX5_greatestPart_56 : decode cX5_greatestPart 56 = .ok (.ireturn, 1) := by decide +kernel
theorem dX5_whose_0 : decode cX5_whose 0 = .ok (.aload_n 0, 1) := by decide +kernel
theorem dX5_whose_1 : decode cX5_whose 1 = .ok (.getfield 13, 3) := by decide +kernel
theorem dX5_whose_4 : decode cX5_whose 4 = .ok (.iload_n 1, 1) := by decide +kernel
theorem dX5_whose_5 : decode cX5_whose 5 = .ok (.invokestatic 99, 3) := by decide +kernel
theorem dX5_whose_8 : decode cX5_whose 8 = .ok (.astore_n 2, 1) := by decide +kernel
theorem dX5_whose_9 : decode cX5_whose 9 = .ok (.aload_n 0, 1) := by decide +kernel
theorem dX5_whose_10 : decode cX5_whose 10 = .ok (.aload_n 2, 1) := by decide +kernel
theorem dX5_whose_11 : decode cX5_whose 11 = .ok (.invokevirtual 246, 3) := by decide +kernel
theorem dX5_whose_14 : decode cX5_whose 14 = .ok (.istore_n 3, 1) := by decide +kernel
theorem dX5_whose_15 : decode cX5_whose 15 = .ok (.aload_n 2, 1) := by decide +kernel
theorem dX5_whose_16 : decode cX5_whose 16 = .ok (.ifnull 7, 3) := by decide +kernel
theorem dX5_whose_19 : decode cX5_whose 19 = .ok (.iload_n 3, 1) := by decide +kernel
theorem dX5_whose_20 : decode cX5_whose 20 = .ok (.ifCond .eq 5, 3) := by decide +kernel
theorem dX5_whose_23 : decode cX5_whose 23 = .ok (.iload_n 3, 1) := by decide +kernel
theorem dX5_whose_24 : decode cX5_whose 24 = .ok (.ireturn, 1) := by decide +kernel
theorem dX5_whose_25 : decode cX5_whose 25 = .ok (.iconst 0, 1) := by decide +kernel
theorem dX5_whose_26 : decode cX5_whose 26 = .ok (.istore 4, 2) := by decide +kernel
theorem dX5_whose_28 : decode cX5_whose 28 = .ok (.iconst 0, 1) := by decide +kernel
theorem dX5_whose_29 : decode cX5_whose 29 = .ok (.istore 5, 2) := by decide +kernel
theorem dX5_whose_31 : decode cX5_whose 31 = .ok (.iload 5, 2) := by decide +kernel
theorem dX5_whose_33 : decode cX5_whose 33 = .ok (.aload_n 0, 1) := by decide +kernel
theorem dX5_whose_34 : decode cX5_whose 34 = .ok (.getfield 49, 3) := by decide +kernel
theorem dX5_whose_37 : decode cX5_whose 37 = .ok (.getfield 131, 3) := by decide +kernel
theorem dX5_whose_40 : decode cX5_whose 40 = .ok (.if_icmp .ge 38, 3) := by decide +kernel
theorem dX5_whose_43 : decode cX5_whose 43 = .ok (.aload_n 0, 1) := by decide +kernel
theorem dX5_whose_44 : decode cX5_whose 44 = .ok (.aload_n 0, 1) := by decide +kernel
theorem dX5_whose_45 : decode cX5_whose 45 = .ok (.getfield 49, 3) := by decide +kernel
theorem dX5_whose_48 : decode cX5_whose 48 = .ok (.getfield 138, 3) := by decide +kernel
theorem dX5_whose_51 : decode cX5_whose 51 = .ok (.iload 5, 2) := by decide +kernel
theorem dX5_whose_53 : decode cX5_whose 53 = .ok (.invokevirtual 68, 3) := by decide +kernel
theorem dX5_whose_56 : decode cX5_whose 56 = .ok (.aload_n 2, 1) := by decide +kernel
theorem dX5_whose_57 : decode cX5_whose 57 = .ok (.invokevirtual 236, 3) := by decide +kernel
theorem dX5_whose_60 : decode cX5_whose 60 = .ok (.ifCond .eq 12, 3) := by decide +kernel
theorem dX5_whose_63 : decode cX5_whose 63 = .ok (.iload 4, 2) := by decide +kernel
theorem dX5_whose_65 : decode cX5_whose 65 = .ok (.iconst 1, 1) := by decide +kernel
theorem dX5_whose_66 : decode cX5_whose 66 = .ok (.iload 5, 2) := by decide +kernel
theorem dX5_whose_68 : decode cX5_whose 68 = .ok (.ishl, 1) := by decide +kernel
theorem dX5_whose_69 : decode cX5_whose 69 = .ok (.ior, 1) := by decide +kernel
theorem dX5_whose_70 : decode cX5_whose 70 = .ok (.istore 4, 2) := by decide +kernel
theorem dX5_whose_72 : decode cX5_whose 72 = .ok (.iinc 5 1, 3) := by decide +kernel
theorem dX5_whose_75 : decode cX5_whose 75 = .ok (.goto (-44), 3) := by decide +kernel
theorem dX5_whose_78 : decode cX5_whose 78 = .ok (.iload 4, 2) := by decide +kernel
theorem dX5_whose_80 : decode cX5_whose 80 = .ok (.ireturn, 1) := by decide +kernel
theorem dX5_kinds_0 : decode cX5_kinds 0 = .ok (.aload_n 0, 1) := by decide +kernel
theorem dX5_kinds_1 : decode cX5_kinds 1 = .ok (.getfield 13, 3) := by decide +kernel
theorem dX5_kinds_4 : decode cX5_kinds 4 = .ok (.iload_n 1, 1) := by decide +kernel
theorem dX5_kinds_5 : decode cX5_kinds 5 = .ok (.invokestatic 99, 3) := by decide +kernel
theorem dX5_kinds_8 : decode cX5_kinds 8 = .ok (.astore_n 2, 1) := by decide +kernel
theorem dX5_kinds_9 : decode cX5_kinds 9 = .ok (.aload_n 0, 1) := by decide +kernel
theorem dX5_kinds_10 : decode cX5_kinds 10 = .ok (.aload_n 2, 1) := by decide +kernel
theorem dX5_kinds_11 : decode cX5_kinds 11 = .ok (.invokevirtual 246, 3) := by decide +kernel
theorem dX5_kinds_14 : decode cX5_kinds 14 = .ok (.istore_n 3, 1) := by decide +kernel
theorem dX5_kinds_15 : decode cX5_kinds 15 = .ok (.aload_n 2, 1) := by decide +kernel
theorem dX5_kinds_16 : decode cX5_kinds 16 = .ok (.ifnull 7, 3) := by decide +kernel
theorem dX5_kinds_19 : decode cX5_kinds 19 = .ok (.iload_n 3, 1) := by decide +kernel
theorem dX5_kinds_20 : decode cX5_kinds 20 = .ok (.ifCond .eq 5, 3) := by decide +kernel
theorem dX5_kinds_23 : decode cX5_kinds 23 = .ok (.iload_n 3, 1) := by decide +kernel
theorem dX5_kinds_24 : decode cX5_kinds 24 = .ok (.ireturn, 1) := by decide +kernel
theorem dX5_kinds_25 : decode cX5_kinds 25 = .ok (.aload_n 0, 1) := by decide +kernel
theorem dX5_kinds_26 : decode cX5_kinds 26 = .ok (.aload_n 2, 1) := by decide +kernel
theorem dX5_kinds_27 : decode cX5_kinds 27 = .ok (.invokevirtual 249, 3) := by decide +kernel
theorem dX5_kinds_30 : decode cX5_kinds 30 = .ok (.ireturn, 1) := by decide +kernel
theorem dX5_test_0 : decode cX5_test 0 = .ok (.aload_n 0, 1) := by decide +kernel
theorem dX5_test_1 : decode cX5_test 1 = .ok (.getfield 13, 3) := by decide +kernel
theorem dX5_test_4 : decode cX5_test 4 = .ok (.iload_n 1, 1) := by decide +kernel
theorem dX5_test_5 : decode cX5_test 5 = .ok (.invokestatic 99, 3) := by decide +kernel
theorem dX5_test_8 : decode cX5_test 8 = .ok (.astore_n 2, 1) := by decide +kernel
theorem dX5_test_9 : decode cX5_test 9 = .ok (.aload_n 0, 1) := by decide +kernel
theorem dX5_test_10 : decode cX5_test 10 = .ok (.aload_n 2, 1) := by decide +kernel
theorem dX5_test_11 : decode cX5_test 11 = .ok (.invokevirtual 246, 3) := by decide +kernel
theorem dX5_test_14 : decode cX5_test 14 = .ok (.istore_n 3, 1) := by decide +kernel
theorem dX5_test_15 : decode cX5_test 15 = .ok (.aload_n 2, 1) := by decide +kernel
theorem dX5_test_16 : decode cX5_test 16 = .ok (.ifnull 7, 3) := by decide +kernel
theorem dX5_test_19 : decode cX5_test 19 = .ok (.iload_n 3, 1) := by decide +kernel
theorem dX5_test_20 : decode cX5_test 20 = .ok (.ifCond .eq 5, 3) := by decide +kernel
theorem dX5_test_23 : decode cX5_test 23 = .ok (.iload_n 3, 1) := by decide +kernel
theorem dX5_test_24 : decode cX5_test 24 = .ok (.ireturn, 1) := by decide +kernel
theorem dX5_test_25 : decode cX5_test 25 = .ok (.aload_n 0, 1) := by decide +kernel
theorem dX5_test_26 : decode cX5_test 26 = .ok (.aload_n 2, 1) := by decide +kernel
theorem dX5_test_27 : decode cX5_test 27 = .ok (.invokevirtual 249, 3) := by decide +kernel
theorem dX5_test_30 : decode cX5_test 30 = .ok (.istore 4, 2) := by decide +kernel
theorem dX5_test_32 : decode cX5_test 32 = .ok (.iload 4, 2) := by decide +kernel
theorem dX5_test_34 : decode cX5_test 34 = .ok (.ifCond .ne 6, 3) := by decide +kernel
theorem dX5_test_37 : decode cX5_test 37 = .ok (.bipush (-9), 2) := by decide +kernel
theorem dX5_test_39 : decode cX5_test 39 = .ok (.ireturn, 1) := by decide +kernel
theorem dX5_test_40 : decode cX5_test 40 = .ok (.iconst 0, 1) := by decide +kernel
theorem dX5_test_41 : decode cX5_test 41 = .ok (.istore 5, 2) := by decide +kernel
theorem dX5_test_43 : decode cX5_test 43 = .ok (.aload_n 0, 1) := by decide +kernel
theorem dX5_test_44 : decode cX5_test 44 = .ok (.iload 4, 2) := by decide +kernel
theorem dX5_test_46 : decode cX5_test 46 = .ok (.iconst 0, 1) := by decide +kernel
theorem dX5_test_47 : decode cX5_test 47 = .ok (.invokevirtual 252, 3) := by decide +kernel
theorem dX5_test_50 : decode cX5_test 50 = .ok (.istore 6, 2) := by decide +kernel
theorem dX5_test_52 : decode cX5_test 52 = .ok (.iconst 1, 1) := by decide +kernel
theorem dX5_test_53 : decode cX5_test 53 = .ok (.istore 7, 2) := by decide +kernel
theorem dX5_test_55 : decode cX5_test 55 = .ok (.iload 7, 2) := by decide +kernel
theorem dX5_test_57 : decode cX5_test 57 = .ok (.bipush 99, 2) := by decide +kernel
theorem dX5_test_59 : decode cX5_test 59 = .ok (.if_icmp .gt 34, 3) := by decide +kernel
theorem dX5_test_62 : decode cX5_test 62 = .ok (.aload_n 0, 1) := by decide +kernel
theorem dX5_test_63 : decode cX5_test 63 = .ok (.iload 4, 2) := by decide +kernel
theorem dX5_test_65 : decode cX5_test 65 = .ok (.iload 7, 2) := by decide +kernel
theorem dX5_test_67 : decode cX5_test 67 = .ok (.invokevirtual 252, 3) := by decide +kernel
theorem dX5_test_70 : decode cX5_test 70 = .ok (.istore 8, 2) := by decide +kernel
theorem dX5_test_72 : decode cX5_test 72 = .ok (.iload 8, 2) := by decide +kernel
theorem dX5_test_74 : decode cX5_test 74 = .ok (.iload 6, 2) := by decide +kernel
theorem dX5_test_76 : decode cX5_test 76 = .ok (.if_icmp .ge 11, 3) := by decide +kernel
theorem dX5_test_79 : decode cX5_test 79 = .ok (.iload 8, 2) := by decide +kernel
theorem dX5_test_81 : decode cX5_test 81 = .ok (.istore 6, 2) := by decide +kernel
theorem dX5_test_83 : decode cX5_test 83 = .ok (.iload 7, 2) := by decide +kernel
theorem dX5_test_85 : decode cX5_test 85 = .ok (.istore 5, 2) := by decide +kernel
theorem dX5_test_87 : decode cX5_test 87 = .ok (.iinc 7 1, 3) := by decide +kernel
theorem dX5_test_90 : decode cX5_test 90 = .ok (.goto (-35), 3) := by decide +kernel
theorem dX5_test_93 : decode cX5_test 93 = .ok (.aload_n 0, 1) := by decide +kernel
theorem dX5_test_94 : decode cX5_test 94 = .ok (.iload 6, 2) := by decide +kernel
theorem dX5_test_96 : decode cX5_test 96 = .ok (.putfield 107, 3) := by decide +kernel
theorem dX5_test_99 : decode cX5_test 99 = .ok (.iload 5, 2) := by decide +kernel
theorem dX5_test_101 : decode cX5_test 101 = .ok (.ireturn, 1) := by decide +kernel
theorem dX5_sets_0 : decode cX5_sets 0 = .ok (.iload_n 1, 1) := by decide +kernel
theorem dX5_sets_1 : decode cX5_sets 1 = .ok (.iconst 0, 1) := by decide +kernel
theorem dX5_sets_2 : decode cX5_sets 2 = .ok (.bipush 99, 2) := by decide +kernel
theorem dX5_sets_4 : decode cX5_sets 4 = .ok (.invokestatic 75, 3) := by decide +kernel
theorem dX5_sets_7 : decode cX5_sets 7 = .ok (.ifCond .ne 5, 3) := by decide +kernel
theorem dX5_sets_10 : decode cX5_sets 10 = .ok (.iconst (-1), 1) := by decide +kernel
theorem dX5_sets_11 : decode cX5_sets 11 = .ok (.ireturn, 1) := by decide +kernel
theorem dX5_sets_12 : decode cX5_sets 12 = .ok (.aload_n 0, 1) := by decide +kernel
theorem dX5_sets_13 : decode cX5_sets 13 = .ok (.getfield 49, 3) := by decide +kernel
theorem dX5_sets_16 : decode cX5_sets 16 = .ok (.getfield 131, 3) := by decide +kernel
theorem dX5_sets_19 : decode cX5_sets 19 = .ok (.ifCond .ne 6, 3) := by decide +kernel
theorem dX5_sets_22 : decode cX5_sets 22 = .ok (.bipush (-4), 2) := by decide +kernel
theorem dX5_sets_24 : decode cX5_sets 24 = .ok (.ireturn, 1) := by decide +kernel
theorem dX5_sets_25 : decode cX5_sets 25 = .ok (.bipush (-9), 2) := by decide +kernel
theorem dX5_sets_27 : decode cX5_sets 27 = .ok (.istore_n 2, 1) := by decide +kernel
theorem dX5_sets_28 : decode cX5_sets 28 = .ok (.iconst 0, 1) := by decide +kernel
theorem dX5_sets_29 : decode cX5_sets 29 = .ok (.istore_n 3, 1) := by decide +kernel
theorem dX5_sets_30 : decode cX5_sets 30 = .ok (.iconst 0, 1) := by decide +kernel
theorem dX5_sets_31 : decode cX5_sets 31 = .ok (.istore 4, 2) := by decide +kernel
theorem dX5_sets_33 : decode cX5_sets 33 = .ok (.iload 4, 2) := by decide +kernel
theorem dX5_sets_35 : decode cX5_sets 35 = .ok (.iconst 1, 1) := by decide +kernel
theorem dX5_sets_36 : decode cX5_sets 36 = .ok (.aload_n 0, 1) := by decide +kernel
theorem dX5_sets_37 : decode cX5_sets 37 = .ok (.getfield 49, 3) := by decide +kernel
theorem dX5_sets_40 : decode cX5_sets 40 = .ok (.getfield 131, 3) := by decide +kernel
theorem dX5_sets_43 : decode cX5_sets 43 = .ok (.ishl, 1) := by decide +kernel
theorem dX5_sets_44 : decode cX5_sets 44 = .ok (.if_icmp .ge 36, 3) := by decide +kernel
theorem dX5_sets_47 : decode cX5_sets 47 = .ok (.aload_n 0, 1) := by decide +kernel
theorem dX5_sets_48 : decode cX5_sets 48 = .ok (.getfield 49, 3) := by decide +kernel
theorem dX5_sets_51 : decode cX5_sets 51 = .ok (.iload 4, 2) := by decide +kernel
theorem dX5_sets_53 : decode cX5_sets 53 = .ok (.invokevirtual 255, 3) := by decide +kernel
theorem dX5_sets_56 : decode cX5_sets 56 = .ok (.iload_n 1, 1) := by decide +kernel
theorem dX5_sets_57 : decode cX5_sets 57 = .ok (.if_icmp .ne 17, 3) := by decide +kernel
theorem dX5_sets_60 : decode cX5_sets 60 = .ok (.iload_n 3, 1) := by decide +kernel
theorem dX5_sets_61 : decode cX5_sets 61 = .ok (.ifCond .ne 8, 3) := by decide +kernel
theorem dX5_sets_64 : decode cX5_sets 64 = .ok (.iload 4, 2) := by decide +kernel
theorem dX5_sets_66 : decode cX5_sets 66 = .ok (.goto 4, 3) := by decide +kernel
theorem dX5_sets_69 : decode cX5_sets 69 = .ok (.iload_n 2, 1) := by decide +kernel
theorem dX5_sets_70 : decode cX5_sets 70 = .ok (.istore_n 2, 1) := by decide +kernel
theorem dX5_sets_71 : decode cX5_sets 71 = .ok (.iinc 3 1, 3) := by decide +kernel
theorem dX5_sets_74 : decode cX5_sets 74 = .ok (.iinc 4 1, 3) := by decide +kernel
theorem dX5_sets_77 : decode cX5_sets 77 = .ok (.goto (-44), 3) := by decide +kernel
theorem dX5_sets_80 : decode cX5_sets 80 = .ok (.aload_n 0, 1) := by decide +kernel
theorem dX5_sets_81 : decode cX5_sets 81 = .ok (.iload_n 2, 1) := by decide +kernel
theorem dX5_sets_82 : decode cX5_sets 82 = .ok (.putfield 107, 3) := by decide +kernel
theorem dX5_sets_85 : decode cX5_sets 85 = .ok (.aload_n 0, 1) := by decide +kernel
theorem dX5_sets_86 : decode cX5_sets 86 = .ok (.iload_n 3, 1) := by decide +kernel
theorem dX5_sets_87 : decode cX5_sets 87 = .ok (.i2l, 1) := by decide +kernel
theorem dX5_sets_88 : decode cX5_sets 88 = .ok (.lconst 1, 1) := by decide +kernel
theorem dX5_sets_89 : decode cX5_sets 89 = .ok (.invokevirtual 258, 3) := by decide +kernel
theorem dX5_sets_92 : decode cX5_sets 92 = .ok (.iconst 1, 1) := by decide +kernel
theorem dX5_sets_93 : decode cX5_sets 93 = .ok (.ireturn, 1) := by decide +kernel
theorem dX5_sure_0 : decode cX5_sure 0 = .ok (.iload_n 1, 1) := by decide +kernel
theorem dX5_sure_1 : decode cX5_sure 1 = .ok (.iconst 0, 1) := by decide +kernel
theorem dX5_sure_2 : decode cX5_sure 2 = .ok (.bipush 99, 2) := by decide +kernel
theorem dX5_sure_4 : decode cX5_sure 4 = .ok (.invokestatic 75, 3) := by decide +kernel
theorem dX5_sure_7 : decode cX5_sure 7 = .ok (.ifCond .ne 5, 3) := by decide +kernel
theorem dX5_sure_10 : decode cX5_sure 10 = .ok (.iconst (-1), 1) := by decide +kernel
theorem dX5_sure_11 : decode cX5_sure 11 = .ok (.ireturn, 1) := by decide +kernel
theorem dX5_sure_12 : decode cX5_sure 12 = .ok (.aload_n 0, 1) := by decide +kernel
theorem dX5_sure_13 : decode cX5_sure 13 = .ok (.getfield 49, 3) := by decide +kernel
theorem dX5_sure_16 : decode cX5_sure 16 = .ok (.getfield 131, 3) := by decide +kernel
theorem dX5_sure_19 : decode cX5_sure 19 = .ok (.ifCond .ne 6, 3) := by decide +kernel
theorem dX5_sure_22 : decode cX5_sure 22 = .ok (.bipush (-4), 2) := by decide +kernel
theorem dX5_sure_24 : decode cX5_sure 24 = .ok (.ireturn, 1) := by decide +kernel
theorem dX5_sure_25 : decode cX5_sure 25 = .ok (.iconst 1, 1) := by decide +kernel
theorem dX5_sure_26 : decode cX5_sure 26 = .ok (.aload_n 0, 1) := by decide +kernel
theorem dX5_sure_27 : decode cX5_sure 27 = .ok (.getfield 49, 3) := by decide +kernel
theorem dX5_sure_30 : decode cX5_sure 30 = .ok (.getfield 131, 3) := by decide +kernel
theorem dX5_sure_33 : decode cX5_sure 33 = .ok (.ishl, 1) := by decide +kernel
theorem dX5_sure_34 : decode cX5_sure 34 = .ok (.iconst 1, 1) := by decide +kernel
theorem dX5_sure_35 : decode cX5_sure 35 = .ok (.isub, 1) := by decide +kernel
theorem dX5_sure_36 : decode cX5_sure 36 = .ok (.istore_n 2, 1) := by decide +kernel
theorem dX5_sure_37 : decode cX5_sure 37 = .ok (.iload_n 2, 1) := by decide +kernel
theorem dX5_sure_38 : decode cX5_sure 38 = .ok (.istore_n 3, 1) := by decide +kernel
theorem dX5_sure_39 : decode cX5_sure 39 = .ok (.iconst 0, 1) := by decide +kernel
theorem dX5_sure_40 : decode cX5_sure 40 = .ok (.istore 4, 2) := by decide +kernel
theorem dX5_sure_42 : decode cX5_sure 42 = .ok (.iconst 0, 1) := by decide +kernel
theorem dX5_sure_43 : decode cX5_sure 43 = .ok (.istore 5, 2) := by decide +kernel
theorem dX5_sure_45 : decode cX5_sure 45 = .ok (.iconst 0, 1) := by decide +kernel
theorem dX5_sure_46 : decode cX5_sure 46 = .ok (.istore 6, 2) := by decide +kernel
theorem dX5_sure_48 : decode cX5_sure 48 = .ok (.iload 6, 2) := by decide +kernel
theorem dX5_sure_50 : decode cX5_sure 50 = .ok (.iload_n 2, 1) := by decide +kernel
theorem dX5_sure_51 : decode cX5_sure 51 = .ok (.if_icmp .gt 37, 3) := by decide +kernel
theorem dX5_sure_54 : decode cX5_sure 54 = .ok (.aload_n 0, 1) := by decide +kernel
theorem dX5_sure_55 : decode cX5_sure 55 = .ok (.getfield 49, 3) := by decide +kernel
theorem dX5_sure_58 : decode cX5_sure 58 = .ok (.iload 6, 2) := by decide +kernel
theorem dX5_sure_60 : decode cX5_sure 60 = .ok (.invokevirtual 255, 3) := by decide +kernel
theorem dX5_sure_63 : decode cX5_sure 63 = .ok (.iload_n 1, 1) := by decide +kernel
theorem dX5_sure_64 : decode cX5_sure 64 = .ok (.if_icmp .ne 18, 3) := by decide +kernel
theorem dX5_sure_67 : decode cX5_sure 67 = .ok (.iload_n 3, 1) := by decide +kernel
theorem dX5_sure_68 : decode cX5_sure 68 = .ok (.iload 6, 2) := by decide +kernel
theorem dX5_sure_70 : decode cX5_sure 70 = .ok (.iand, 1) := by decide +kernel
theorem dX5_sure_71 : decode cX5_sure 71 = .ok (.istore_n 3, 1) := by decide +kernel
theorem dX5_sure_72 : decode cX5_sure 72 = .ok (.iload 4, 2) := by decide +kernel
theorem dX5_sure_74 : decode cX5_sure 74 = .ok (.iload 6, 2) := by decide +kernel
theorem dX5_sure_76 : decode cX5_sure 76 = .ok (.ior, 1) := by decide +kernel
theorem dX5_sure_77 : decode cX5_sure 77 = .ok (.istore 4, 2) := by decide +kernel
theorem dX5_sure_79 : decode cX5_sure 79 = .ok (.iinc 5 1, 3) := by decide +kernel
theorem dX5_sure_82 : decode cX5_sure 82 = .ok (.iinc 6 1, 3) := by decide +kernel
theorem dX5_sure_85 : decode cX5_sure 85 = .ok (.goto (-37), 3) := by decide +kernel
theorem dX5_sure_88 : decode cX5_sure 88 = .ok (.iload 5, 2) := by decide +kernel
theorem dX5_sure_90 : decode cX5_sure 90 = .ok (.ifCond .ne 9, 3) := by decide +kernel
theorem dX5_sure_93 : decode cX5_sure 93 = .ok (.aload_n 0, 1) := by decide +kernel
theorem dX5_sure_94 : decode cX5_sure 94 = .ok (.iconst 4, 1) := by decide +kernel
theorem dX5_sure_95 : decode cX5_sure 95 = .ok (.invokevirtual 88, 3) := by decide +kernel
theorem dX5_sure_98 : decode cX5_sure 98 = .ok (.ireturn, 1) := by decide +kernel
theorem dX5_sure_99 : decode cX5_sure 99 = .ok (.aload_n 0, 1) := by decide +kernel
theorem dX5_sure_100 : decode cX5_sure 100 = .ok (.iload_n 2, 1) := by decide +kernel
theorem dX5_sure_101 : decode cX5_sure 101 = .ok (.iload 4, 2) := by decide +kernel
theorem dX5_sure_103 : decode cX5_sure 103 = .ok (.iconst (-1), 1) := by decide +kernel
theorem dX5_sure_104 : decode cX5_sure 104 = .ok (.ixor, 1) := by decide +kernel
theorem dX5_sure_105 : decode cX5_sure 105 = .ok (.iand, 1) := by decide +kernel
theorem dX5_sure_106 : decode cX5_sure 106 = .ok (.putfield 107, 3) := by decide +kernel
theorem dX5_sure_109 : decode cX5_sure 109 = .ok (.iload_n 3, 1) := by decide +kernel
theorem dX5_sure_110 : decode cX5_sure 110 = .ok (.ireturn, 1) := by decide +kernel
theorem dX5_duel_0 : decode cX5_duel 0 = .ok (.iload_n 1, 1) := by decide +kernel
theorem dX5_duel_1 : decode cX5_duel 1 = .ok (.iconst 0, 1) := by decide +kernel
theorem dX5_duel_2 : decode cX5_duel 2 = .ok (.iconst 3, 1) := by decide +kernel
theorem dX5_duel_3 : decode cX5_duel 3 = .ok (.invokestatic 75, 3) := by decide +kernel
theorem dX5_duel_6 : decode cX5_duel 6 = .ok (.ifCond .ne 5, 3) := by decide +kernel
theorem dX5_duel_9 : decode cX5_duel 9 = .ok (.iconst (-1), 1) := by decide +kernel
theorem dX5_duel_10 : decode cX5_duel 10 = .ok (.ireturn, 1) := by decide +kernel
theorem dX5_duel_11 : decode cX5_duel 11 = .ok (.aload_n 0, 1) := by decide +kernel
theorem dX5_duel_12 : decode cX5_duel 12 = .ok (.getfield 49, 3) := by decide +kernel
theorem dX5_duel_15 : decode cX5_duel 15 = .ok (.getfield 131, 3) := by decide +kernel
theorem dX5_duel_18 : decode cX5_duel 18 = .ok (.ifCond .ne 6, 3) := by decide +kernel
theorem dX5_duel_21 : decode cX5_duel 21 = .ok (.bipush (-4), 2) := by decide +kernel
theorem dX5_duel_23 : decode cX5_duel 23 = .ok (.ireturn, 1) := by decide +kernel
theorem dX5_duel_24 : decode cX5_duel 24 = .ok (.aload_n 0, 1) := by decide +kernel
theorem dX5_duel_25 : decode cX5_duel 25 = .ok (.aload_n 0, 1) := by decide +kernel
theorem dX5_duel_26 : decode cX5_duel 26 = .ok (.getfield 49, 3) := by decide +kernel
theorem dX5_duel_29 : decode cX5_duel 29 = .ok (.iconst 0, 1) := by decide +kernel
theorem dX5_duel_30 : decode cX5_duel 30 = .ok (.iload_n 1, 1) := by decide +kernel
theorem dX5_duel_31 : decode cX5_duel 31 = .ok (.invokevirtual 262, 3) := by decide +kernel
theorem dX5_duel_34 : decode cX5_duel 34 = .ok (.aload_n 0, 1) := by decide +kernel
theorem dX5_duel_35 : decode cX5_duel 35 = .ok (.getfield 49, 3) := by decide +kernel
theorem dX5_duel_38 : decode cX5_duel 38 = .ok (.iconst 1, 1) := by decide +kernel
theorem dX5_duel_39 : decode cX5_duel 39 = .ok (.iload_n 1, 1) := by decide +kernel
theorem dX5_duel_40 : decode cX5_duel 40 = .ok (.invokevirtual 262, 3) := by decide +kernel
theorem dX5_duel_43 : decode cX5_duel 43 = .ok (.isub, 1) := by decide +kernel
theorem dX5_duel_44 : decode cX5_duel 44 = .ok (.putfield 107, 3) := by decide +kernel
theorem dX5_duel_47 : decode cX5_duel 47 = .ok (.iconst 1, 1) := by decide +kernel
theorem dX5_duel_48 : decode cX5_duel 48 = .ok (.ireturn, 1) := by decide +kernel
theorem dX5_power_0 : decode cX5_power 0 = .ok (.lconst 1, 1) := by decide +kernel
theorem dX5_power_1 : decode cX5_power 1 = .ok (.lstore_n 3, 1) := by decide +kernel
theorem dX5_power_2 : decode cX5_power 2 = .ok (.iconst 0, 1) := by decide +kernel
theorem dX5_power_3 : decode cX5_power 3 = .ok (.istore 5, 2) := by decide +kernel
theorem dX5_power_5 : decode cX5_power 5 = .ok (.iload 5, 2) := by decide +kernel
theorem dX5_power_7 : decode cX5_power 7 = .ok (.iload_n 2, 1) := by decide +kernel
theorem dX5_power_8 : decode cX5_power 8 = .ok (.if_icmp .ge 13, 3) := by decide +kernel
theorem dX5_power_11 : decode cX5_power 11 = .ok (.lload_n 3, 1) := by decide +kernel
theorem dX5_power_12 : decode cX5_power 12 = .ok (.lload_n 0, 1) := by decide +kernel
theorem dX5_power_13 : decode cX5_power 13 = .ok (.lmul, 1) := by decide +kernel
theorem dX5_power_14 : decode cX5_power 14 = .ok (.lstore_n 3, 1) := by decide +kernel
theorem dX5_power_15 : decode cX5_power 15 = .ok (.iinc 5 1, 3) := by decide +kernel
theorem dX5_power_18 : decode cX5_power 18 = .ok (.goto (-13), 3) := by decide +kernel
theorem dX5_power_21 : decode cX5_power 21 = .ok (.lload_n 3, 1) := by decide +kernel
theorem dX5_power_22 : decode cX5_power 22 = .ok (.lreturn, 1) := by decide +kernel
theorem dX5_ways_0 : decode cX5_ways 0 = .ok (.lconst 1, 1) := by decide +kernel
theorem dX5_ways_1 : decode cX5_ways 1 = .ok (.lstore_n 2, 1) := by decide +kernel
theorem dX5_ways_2 : decode cX5_ways 2 = .ok (.iconst 0, 1) := by decide +kernel
theorem dX5_ways_3 : decode cX5_ways 3 = .ok (.istore 4, 2) := by decide +kernel
theorem dX5_ways_5 : decode cX5_ways 5 = .ok (.iload 4, 2) := by decide +kernel
theorem dX5_ways_7 : decode cX5_ways 7 = .ok (.iload_n 1, 1) := by decide +kernel
theorem dX5_ways_8 : decode cX5_ways 8 = .ok (.if_icmp .ge 23, 3) := by decide +kernel
theorem dX5_ways_11 : decode cX5_ways 11 = .ok (.lload_n 2, 1) := by decide +kernel
theorem dX5_ways_12 : decode cX5_ways 12 = .ok (.iload_n 0, 1) := by decide +kernel
theorem dX5_ways_13 : decode cX5_ways 13 = .ok (.iload 4, 2) := by decide +kernel
theorem dX5_ways_15 : decode cX5_ways 15 = .ok (.isub, 1) := by decide +kernel
theorem dX5_ways_16 : decode cX5_ways 16 = .ok (.i2l, 1) := by decide +kernel
theorem dX5_ways_17 : decode cX5_ways 17 = .ok (.lmul, 1) := by decide +kernel
theorem dX5_ways_18 : decode cX5_ways 18 = .ok (.iload 4, 2) := by decide +kernel
theorem dX5_ways_20 : decode cX5_ways 20 = .ok (.iconst 1, 1) := by decide +kernel
theorem dX5_ways_21 : decode cX5_ways 21 = .ok (.iadd, 1) := by decide +kernel
theorem dX5_ways_22 : decode cX5_ways 22 = .ok (.i2l, 1) := by decide +kernel
theorem dX5_ways_23 : decode cX5_ways 23 = .ok (.ldiv, 1) := by decide +kernel
theorem dX5_ways_24 : decode cX5_ways 24 = .ok (.lstore_n 2, 1) := by decide +kernel
theorem dX5_ways_25 : decode cX5_ways 25 = .ok (.iinc 4 1, 3) := by decide +kernel
theorem dX5_ways_28 : decode cX5_ways 28 = .ok (.goto (-23), 3) := by decide +kernel
theorem dX5_ways_31 : decode cX5_ways 31 = .ok (.lload_n 2, 1) := by decide +kernel
theorem dX5_ways_32 : decode cX5_ways 32 = .ok (.lreturn, 1) := by decide +kernel
theorem dX5_weight_0 : decode cX5_weight 0 = .ok (.iload_n 0, 1) := by decide +kernel
theorem dX5_weight_1 : decode cX5_weight 1 = .ok (.iload_n 1, 1) := by decide +kernel
theorem dX5_weight_2 : decode cX5_weight 2 = .ok (.invokestatic 265, 3) := by decide +kernel
theorem dX5_weight_5 : decode cX5_weight 5 = .ok (.iload_n 2, 1) := by decide +kernel
theorem dX5_weight_6 : decode cX5_weight 6 = .ok (.i2l, 1) := by decide +kernel
theorem dX5_weight_7 : decode cX5_weight 7 = .ok (.iload_n 1, 1) := by decide +kernel
theorem dX5_weight_8 : decode cX5_weight 8 = .ok (.invokestatic 269, 3) := by decide +kernel
theorem dX5_weight_11 : decode cX5_weight 11 = .ok (.lmul, 1) := by decide +kernel
theorem dX5_weight_12 : decode cX5_weight 12 = .ok (.bipush 12, 2) := by decide +kernel
theorem dX5_weight_14 : decode cX5_weight 14 = .ok (.iload_n 2, 1) := by decide +kernel
theorem dX5_weight_15 : decode cX5_weight 15 = .ok (.isub, 1) := by decide +kernel
theorem dX5_weight_16 : decode cX5_weight 16 = .ok (.i2l, 1) := by decide +kernel
theorem dX5_weight_17 : decode cX5_weight 17 = .ok (.iload_n 0, 1) := by decide +kernel
theorem dX5_weight_18 : decode cX5_weight 18 = .ok (.iload_n 1, 1) := by decide +kernel
theorem dX5_weight_19 : decode cX5_weight 19 = .ok (.isub, 1) := by decide +kernel
theorem dX5_weight_20 : decode cX5_weight 20 = .ok (.invokestatic 269, 3) := by decide +kernel
theorem dX5_weight_23 : decode cX5_weight 23 = .ok (.lmul, 1) := by decide +kernel
theorem dX5_weight_24 : decode cX5_weight 24 = .ok (.lreturn, 1) := by decide +kernel
theorem dX5_divisor_0 : decode cX5_divisor 0 = .ok (.iconst 0, 1) := by decide +kernel
theorem dX5_divisor_1 : decode cX5_divisor 1 = .ok (.istore 4, 2) := by decide +kernel
theorem dX5_divisor_3 : decode cX5_divisor 3 = .ok (.iload 4, 2) := by decide +kernel
theorem dX5_divisor_5 : decode cX5_divisor 5 = .ok (.bipush 100, 2) := by decide +kernel
theorem dX5_divisor_7 : decode cX5_divisor 7 = .ok (.if_icmp .ge 25, 3) := by decide +kernel
theorem dX5_divisor_10 : decode cX5_divisor 10 = .ok (.lload_n 2, 1) := by decide +kernel
theorem dX5_divisor_11 : decode cX5_divisor 11 = .ok (.lconst 0, 1) := by decide +kernel
theorem dX5_divisor_12 : decode cX5_divisor 12 = .ok (.lcmp, 1) := by decide +kernel
theorem dX5_divisor_13 : decode cX5_divisor 13 = .ok (.ifCond .eq 19, 3) := by decide +kernel
theorem dX5_divisor_16 : decode cX5_divisor 16 = .ok (.lload_n 0, 1) := by decide +kernel
theorem dX5_divisor_17 : decode cX5_divisor 17 = .ok (.lload_n 2, 1) := by decide +kernel
theorem dX5_divisor_18 : decode cX5_divisor 18 = .ok (.lrem, 1) := by decide +kernel
theorem dX5_divisor_19 : decode cX5_divisor 19 = .ok (.lstore 5, 2) := by decide +kernel
theorem dX5_divisor_21 : decode cX5_divisor 21 = .ok (.lload_n 2, 1) := by decide +kernel
theorem dX5_divisor_22 : decode cX5_divisor 22 = .ok (.lstore_n 0, 1) := by decide +kernel
theorem dX5_divisor_23 : decode cX5_divisor 23 = .ok (.lload 5, 2) := by decide +kernel
theorem dX5_divisor_25 : decode cX5_divisor 25 = .ok (.lstore_n 2, 1) := by decide +kernel
theorem dX5_divisor_26 : decode cX5_divisor 26 = .ok (.iinc 4 1, 3) := by decide +kernel
theorem dX5_divisor_29 : decode cX5_divisor 29 = .ok (.goto (-26), 3) := by decide +kernel
theorem dX5_divisor_32 : decode cX5_divisor 32 = .ok (.lload_n 0, 1) := by decide +kernel
theorem dX5_divisor_33 : decode cX5_divisor 33 = .ok (.lreturn, 1) := by decide +kernel
theorem dX5_tellRatio_0 : decode cX5_tellRatio 0 = .ok (.lload_n 1, 1) := by decide +kernel
theorem dX5_tellRatio_1 : decode cX5_tellRatio 1 = .ok (.lload_n 3, 1) := by decide +kernel
theorem dX5_tellRatio_2 : decode cX5_tellRatio 2 = .ok (.invokestatic 273, 3) := by decide +kernel
theorem dX5_tellRatio_5 : decode cX5_tellRatio 5 = .ok (.lstore 5, 2) := by decide +kernel
theorem dX5_tellRatio_7 : decode cX5_tellRatio 7 = .ok (.aload_n 0, 1) := by decide +kernel
theorem dX5_tellRatio_8 : decode cX5_tellRatio 8 = .ok (.lload 5, 2) := by decide +kernel
theorem dX5_tellRatio_10 : decode cX5_tellRatio 10 = .ok (.lconst 0, 1) := by decide +kernel
theorem dX5_tellRatio_11 : decode cX5_tellRatio 11 = .ok (.lcmp, 1) := by decide +kernel
theorem dX5_tellRatio_12 : decode cX5_tellRatio 12 = .ok (.ifCond .le 10, 3) := by decide +kernel
theorem dX5_tellRatio_15 : decode cX5_tellRatio 15 = .ok (.lload_n 1, 1) := by decide +kernel
theorem dX5_tellRatio_16 : decode cX5_tellRatio 16 = .ok (.lload 5, 2) := by decide +kernel
theorem dX5_tellRatio_18 : decode cX5_tellRatio 18 = .ok (.ldiv, 1) := by decide +kernel
theorem dX5_tellRatio_19 : decode cX5_tellRatio 19 = .ok (.goto 4, 3) := by decide +kernel
theorem dX5_tellRatio_22 : decode cX5_tellRatio 22 = .ok (.lload_n 1, 1) := by decide +kernel
theorem dX5_tellRatio_23 : decode cX5_tellRatio 23 = .ok (.putfield 277, 3) := by decide +kernel
theorem dX5_tellRatio_26 : decode cX5_tellRatio 26 = .ok (.aload_n 0, 1) := by decide +kernel
theorem dX5_tellRatio_27 : decode cX5_tellRatio 27 = .ok (.lload 5, 2) := by decide +kernel
theorem dX5_tellRatio_29 : decode cX5_tellRatio 29 = .ok (.lconst 0, 1) := by decide +kernel
theorem dX5_tellRatio_30 : decode cX5_tellRatio 30 = .ok (.lcmp, 1) := by decide +kernel
theorem dX5_tellRatio_31 : decode cX5_tellRatio 31 = .ok (.ifCond .le 10, 3) := by decide +kernel
theorem dX5_tellRatio_34 : decode cX5_tellRatio 34 = .ok (.lload_n 3, 1) := by decide +kernel
theorem dX5_tellRatio_35 : decode cX5_tellRatio 35 = .ok (.lload 5, 2) := by decide +kernel
theorem dX5_tellRatio_37 : decode cX5_tellRatio 37 = .ok (.ldiv, 1) := by decide +kernel
theorem dX5_tellRatio_38 : decode cX5_tellRatio 38 = .ok (.goto 4, 3) := by decide +kernel
theorem dX5_tellRatio_41 : decode cX5_tellRatio 41 = .ok (.lload_n 3, 1) := by decide +kernel
theorem dX5_tellRatio_42 : decode cX5_tellRatio 42 = .ok (.putfield 56, 3) := by decide +kernel
theorem dX5_tellRatio_45 : decode cX5_tellRatio 45 = .ok (.return_, 1) := by decide +kernel
theorem dX5_isTry_0 : decode cX5_isTry 0 = .ok (.aload_n 0, 1) := by decide +kernel
theorem dX5_isTry_1 : decode cX5_isTry 1 = .ok (.getfield 49, 3) := by decide +kernel
theorem dX5_isTry_4 : decode cX5_isTry 4 = .ok (.iload_n 1, 1) := by decide +kernel
theorem dX5_isTry_5 : decode cX5_isTry 5 = .ok (.invokevirtual 132, 3) := by decide +kernel
theorem dX5_isTry_8 : decode cX5_isTry 8 = .ok (.ifCond .eq 27, 3) := by decide +kernel
theorem dX5_isTry_11 : decode cX5_isTry 11 = .ok (.iload_n 2, 1) := by decide +kernel
theorem dX5_isTry_12 : decode cX5_isTry 12 = .ok (.iconst 0, 1) := by decide +kernel
theorem dX5_isTry_13 : decode cX5_isTry 13 = .ok (.bipush 8, 2) := by decide +kernel
theorem dX5_isTry_15 : decode cX5_isTry 15 = .ok (.invokestatic 75, 3) := by decide +kernel
theorem dX5_isTry_18 : decode cX5_isTry 18 = .ok (.ifCond .eq 17, 3) := by decide +kernel
theorem dX5_isTry_21 : decode cX5_isTry 21 = .ok (.iload_n 3, 1) := by decide +kernel
theorem dX5_isTry_22 : decode cX5_isTry 22 = .ok (.iconst 0, 1) := by decide +kernel
theorem dX5_isTry_23 : decode cX5_isTry 23 = .ok (.bipush 12, 2) := by decide +kernel
theorem dX5_isTry_25 : decode cX5_isTry 25 = .ok (.invokestatic 75, 3) := by decide +kernel
theorem dX5_isTry_28 : decode cX5_isTry 28 = .ok (.ifCond .eq 7, 3) := by decide +kernel
theorem dX5_isTry_31 : decode cX5_isTry 31 = .ok (.iconst 1, 1) := by decide +kernel
theorem dX5_isTry_32 : decode cX5_isTry 32 = .ok (.goto 4, 3) := by decide +kernel
theorem dX5_isTry_35 : decode cX5_isTry 35 = .ok (.iconst 0, 1) := by decide +kernel
theorem dX5_isTry_36 : decode cX5_isTry 36 = .ok (.ireturn, 1) := by decide +kernel
theorem dX5_odds_0 : decode cX5_odds 0 = .ok (.aload_n 0, 1) := by decide +kernel
theorem dX5_odds_1 : decode cX5_odds 1 = .ok (.iload_n 1, 1) := by decide +kernel
theorem dX5_odds_2 : decode cX5_odds 2 = .ok (.iload_n 2, 1) := by decide +kernel
theorem dX5_odds_3 : decode cX5_odds 3 = .ok (.iload_n 3, 1) := by decide +kernel
theorem dX5_odds_4 : decode cX5_odds 4 = .ok (.invokevirtual 280, 3) := by decide +kernel
theorem dX5_odds_7 : decode cX5_odds 7 = .ok (.ifCond .ne 5, 3) := by decide +kernel
theorem dX5_odds_10 : decode cX5_odds 10 = .ok (.iconst (-1), 1) := by decide +kernel
theorem dX5_odds_11 : decode cX5_odds 11 = .ok (.ireturn, 1) := by decide +kernel
theorem dX5_odds_12 : decode cX5_odds 12 = .ok (.aload_n 0, 1) := by decide +kernel
theorem dX5_odds_13 : decode cX5_odds 13 = .ok (.getfield 49, 3) := by decide +kernel
theorem dX5_odds_16 : decode cX5_odds 16 = .ok (.iload_n 1, 1) := by decide +kernel
theorem dX5_odds_17 : decode cX5_odds 17 = .ok (.invokevirtual 283, 3) := by decide +kernel
theorem dX5_odds_20 : decode cX5_odds 20 = .ok (.istore 4, 2) := by decide +kernel
theorem dX5_odds_22 : decode cX5_odds 22 = .ok (.lconst 0, 1) := by decide +kernel
theorem dX5_odds_23 : decode cX5_odds 23 = .ok (.lstore 5, 2) := by decide +kernel
theorem dX5_odds_25 : decode cX5_odds 25 = .ok (.iconst 0, 1) := by decide +kernel
theorem dX5_odds_26 : decode cX5_odds 26 = .ok (.istore 7, 2) := by decide +kernel
theorem dX5_odds_28 : decode cX5_odds 28 = .ok (.iload 7, 2) := by decide +kernel
theorem dX5_odds_30 : decode cX5_odds 30 = .ok (.iload_n 2, 1) := by decide +kernel
theorem dX5_odds_31 : decode cX5_odds 31 = .ok (.if_icmp .gt 39, 3) := by decide +kernel
theorem dX5_odds_34 : decode cX5_odds 34 = .ok (.iload 4, 2) := by decide +kernel
theorem dX5_odds_36 : decode cX5_odds 36 = .ok (.bipush (-9), 2) := by decide +kernel
theorem dX5_odds_38 : decode cX5_odds 38 = .ok (.if_icmp .eq 32, 3) := by decide +kernel
theorem dX5_odds_41 : decode cX5_odds 41 = .ok (.lload 5, 2) := by decide +kernel
theorem dX5_odds_43 : decode cX5_odds 43 = .ok (.iload 7, 2) := by decide +kernel
theorem dX5_odds_45 : decode cX5_odds 45 = .ok (.iload 4, 2) := by decide +kernel
theorem dX5_odds_47 : decode cX5_odds 47 = .ok (.if_icmp .lt 13, 3) := by decide +kernel
theorem dX5_odds_50 : decode cX5_odds 50 = .ok (.iload_n 2, 1) := by decide +kernel
theorem dX5_odds_51 : decode cX5_odds 51 = .ok (.iload 7, 2) := by decide +kernel
theorem dX5_odds_53 : decode cX5_odds 53 = .ok (.iload_n 3, 1) := by decide +kernel
theorem dX5_odds_54 : decode cX5_odds 54 = .ok (.invokestatic 286, 3) := by decide +kernel
theorem dX5_odds_57 : decode cX5_odds 57 = .ok (.goto 4, 3) := by decide +kernel
theorem dX5_odds_60 : decode cX5_odds 60 = .ok (.lconst 0, 1) := by decide +kernel
theorem dX5_odds_61 : decode cX5_odds 61 = .ok (.ladd, 1) := by decide +kernel
theorem dX5_odds_62 : decode cX5_odds 62 = .ok (.lstore 5, 2) := by decide +kernel
theorem dX5_odds_64 : decode cX5_odds 64 = .ok (.iinc 7 1, 3) := by decide +kernel
theorem dX5_odds_67 : decode cX5_odds 67 = .ok (.goto (-39), 3) := by decide +kernel
theorem dX5_odds_70 : decode cX5_odds 70 = .ok (.aload_n 0, 1) := by decide +kernel
theorem dX5_odds_71 : decode cX5_odds 71 = .ok (.lload 5, 2) := by decide +kernel
theorem dX5_odds_73 : decode cX5_odds 73 = .ok (.ldc2_w 290, 3) := by decide +kernel
theorem dX5_odds_76 : decode cX5_odds 76 = .ok (.iload_n 2, 1) := by decide +kernel
theorem dX5_odds_77 : decode cX5_odds 77 = .ok (.invokestatic 269, 3) := by decide +kernel
theorem dX5_odds_80 : decode cX5_odds 80 = .ok (.invokevirtual 258, 3) := by decide +kernel
theorem dX5_odds_83 : decode cX5_odds 83 = .ok (.iconst 1, 1) := by decide +kernel
theorem dX5_odds_84 : decode cX5_odds 84 = .ok (.ireturn, 1) := by decide +kernel
theorem dX5_mid_0 : decode cX5_mid 0 = .ok (.aload_n 0, 1) := by decide +kernel
theorem dX5_mid_1 : decode cX5_mid 1 = .ok (.iload_n 1, 1) := by decide +kernel
theorem dX5_mid_2 : decode cX5_mid 2 = .ok (.iload_n 2, 1) := by decide +kernel
theorem dX5_mid_3 : decode cX5_mid 3 = .ok (.iload_n 3, 1) := by decide +kernel
theorem dX5_mid_4 : decode cX5_mid 4 = .ok (.invokevirtual 280, 3) := by decide +kernel
theorem dX5_mid_7 : decode cX5_mid 7 = .ok (.ifCond .ne 5, 3) := by decide +kernel
theorem dX5_mid_10 : decode cX5_mid 10 = .ok (.iconst (-1), 1) := by decide +kernel
theorem dX5_mid_11 : decode cX5_mid 11 = .ok (.ireturn, 1) := by decide +kernel
theorem dX5_mid_12 : decode cX5_mid 12 = .ok (.aload_n 0, 1) := by decide +kernel
theorem dX5_mid_13 : decode cX5_mid 13 = .ok (.getfield 49, 3) := by decide +kernel
theorem dX5_mid_16 : decode cX5_mid 16 = .ok (.iload_n 1, 1) := by decide +kernel
theorem dX5_mid_17 : decode cX5_mid 17 = .ok (.invokevirtual 283, 3) := by decide +kernel
theorem dX5_mid_20 : decode cX5_mid 20 = .ok (.istore 4, 2) := by decide +kernel
theorem dX5_mid_22 : decode cX5_mid 22 = .ok (.iload 4, 2) := by decide +kernel
theorem dX5_mid_24 : decode cX5_mid 24 = .ok (.bipush (-9), 2) := by decide +kernel
theorem dX5_mid_26 : decode cX5_mid 26 = .ok (.if_icmp .ne 9, 3) := by decide +kernel
theorem dX5_mid_29 : decode cX5_mid 29 = .ok (.aload_n 0, 1) := by decide +kernel
theorem dX5_mid_30 : decode cX5_mid 30 = .ok (.iconst 4, 1) := by decide +kernel
theorem dX5_mid_31 : decode cX5_mid 31 = .ok (.invokevirtual 88, 3) := by decide +kernel
theorem dX5_mid_34 : decode cX5_mid 34 = .ok (.ireturn, 1) := by decide +kernel
theorem dX5_mid_35 : decode cX5_mid 35 = .ok (.lconst 0, 1) := by decide +kernel
theorem dX5_mid_36 : decode cX5_mid 36 = .ok (.lstore 5, 2) := by decide +kernel
theorem dX5_mid_38 : decode cX5_mid 38 = .ok (.iconst 0, 1) := by decide +kernel
theorem dX5_mid_39 : decode cX5_mid 39 = .ok (.istore 7, 2) := by decide +kernel
theorem dX5_mid_41 : decode cX5_mid 41 = .ok (.iload 7, 2) := by decide +kernel
theorem dX5_mid_43 : decode cX5_mid 43 = .ok (.iload_n 2, 1) := by decide +kernel
theorem dX5_mid_44 : decode cX5_mid 44 = .ok (.if_icmp .gt 32, 3) := by decide +kernel
theorem dX5_mid_47 : decode cX5_mid 47 = .ok (.lload 5, 2) := by decide +kernel
theorem dX5_mid_49 : decode cX5_mid 49 = .ok (.iload_n 2, 1) := by decide +kernel
theorem dX5_mid_50 : decode cX5_mid 50 = .ok (.iload 7, 2) := by decide +kernel
theorem dX5_mid_52 : decode cX5_mid 52 = .ok (.iload_n 3, 1) := by decide +kernel
theorem dX5_mid_53 : decode cX5_mid 53 = .ok (.invokestatic 286, 3) := by decide +kernel
theorem dX5_mid_56 : decode cX5_mid 56 = .ok (.iconst 0, 1) := by decide +kernel
theorem dX5_mid_57 : decode cX5_mid 57 = .ok (.iload 4, 2) := by decide +kernel
theorem dX5_mid_59 : decode cX5_mid 59 = .ok (.iload 7, 2) := by decide +kernel
theorem dX5_mid_61 : decode cX5_mid 61 = .ok (.isub, 1) := by decide +kernel
theorem dX5_mid_62 : decode cX5_mid 62 = .ok (.invokestatic 79, 3) := by decide +kernel
theorem dX5_mid_65 : decode cX5_mid 65 = .ok (.i2l, 1) := by decide +kernel
theorem dX5_mid_66 : decode cX5_mid 66 = .ok (.lmul, 1) := by decide +kernel
theorem dX5_mid_67 : decode cX5_mid 67 = .ok (.ladd, 1) := by decide +kernel
theorem dX5_mid_68 : decode cX5_mid 68 = .ok (.lstore 5, 2) := by decide +kernel
theorem dX5_mid_70 : decode cX5_mid 70 = .ok (.iinc 7 1, 3) := by decide +kernel
theorem dX5_mid_73 : decode cX5_mid 73 = .ok (.goto (-32), 3) := by decide +kernel
theorem dX5_mid_76 : decode cX5_mid 76 = .ok (.aload_n 0, 1) := by decide +kernel
theorem dX5_mid_77 : decode cX5_mid 77 = .ok (.lload 5, 2) := by decide +kernel
theorem dX5_mid_79 : decode cX5_mid 79 = .ok (.ldc2_w 290, 3) := by decide +kernel
theorem dX5_mid_82 : decode cX5_mid 82 = .ok (.iload_n 2, 1) := by decide +kernel
theorem dX5_mid_83 : decode cX5_mid 83 = .ok (.invokestatic 269, 3) := by decide +kernel
theorem dX5_mid_86 : decode cX5_mid 86 = .ok (.invokevirtual 258, 3) := by decide +kernel
theorem dX5_mid_89 : decode cX5_mid 89 = .ok (.iconst 1, 1) := by decide +kernel
theorem dX5_mid_90 : decode cX5_mid 90 = .ok (.ireturn, 1) := by decide +kernel
theorem dX5_lots_0 : decode cX5_lots 0 = .ok (.iload_n 1, 1) := by decide +kernel
theorem dX5_lots_1 : decode cX5_lots 1 = .ok (.iconst 1, 1) := by decide +kernel
theorem dX5_lots_2 : decode cX5_lots 2 = .ok (.bipush 20, 2) := by decide +kernel
theorem dX5_lots_4 : decode cX5_lots 4 = .ok (.invokestatic 75, 3) := by decide +kernel
theorem dX5_lots_7 : decode cX5_lots 7 = .ok (.ifCond .eq 17, 3) := by decide +kernel
theorem dX5_lots_10 : decode cX5_lots 10 = .ok (.iload_n 2, 1) := by decide +kernel
theorem dX5_lots_11 : decode cX5_lots 11 = .ok (.iconst 1, 1) := by decide +kernel
theorem dX5_lots_12 : decode cX5_lots 12 = .ok (.if_icmp .lt 12, 3) := by decide +kernel
theorem dX5_lots_15 : decode cX5_lots 15 = .ok (.iload_n 2, 1) := by decide +kernel
theorem dX5_lots_16 : decode cX5_lots 16 = .ok (.i2l, 1) := by decide +kernel
theorem dX5_lots_17 : decode cX5_lots 17 = .ok (.ldc2_w 292, 3) := by decide +kernel
theorem dX5_lots_20 : decode cX5_lots 20 = .ok (.lcmp, 1) := by decide +kernel
theorem dX5_lots_21 : decode cX5_lots 21 = .ok (.ifCond .lt 5, 3) := by decide +kernel
theorem dX5_lots_24 : decode cX5_lots 24 = .ok (.iconst (-1), 1) := by decide +kernel
theorem dX5_lots_25 : decode cX5_lots 25 = .ok (.ireturn, 1) := by decide +kernel
theorem dX5_lots_26 : decode cX5_lots 26 = .ok (.aload_n 0, 1) := by decide +kernel
theorem dX5_lots_27 : decode cX5_lots 27 = .ok (.getfield 49, 3) := by decide +kernel
theorem dX5_lots_30 : decode cX5_lots 30 = .ok (.getfield 131, 3) := by decide +kernel
theorem dX5_lots_33 : decode cX5_lots 33 = .ok (.ifCond .ne 6, 3) := by decide +kernel
theorem dX5_lots_36 : decode cX5_lots 36 = .ok (.bipush (-4), 2) := by decide +kernel
theorem dX5_lots_38 : decode cX5_lots 38 = .ok (.ireturn, 1) := by decide +kernel
theorem dX5_lots_39 : decode cX5_lots 39 = .ok (.aload_n 0, 1) := by decide +kernel
theorem dX5_lots_40 : decode cX5_lots 40 = .ok (.iload_n 1, 1) := by decide +kernel
theorem dX5_lots_41 : decode cX5_lots 41 = .ok (.invokevirtual 172, 3) := by decide +kernel
theorem dX5_lots_44 : decode cX5_lots 44 = .ok (.ifCond .eq 6, 3) := by decide +kernel
theorem dX5_lots_47 : decode cX5_lots 47 = .ok (.bipush (-2), 2) := by decide +kernel
theorem dX5_lots_49 : decode cX5_lots 49 = .ok (.ireturn, 1) := by decide +kernel
theorem dX5_lots_50 : decode cX5_lots 50 = .ok (.iload_n 2, 1) := by decide +kernel
theorem dX5_lots_51 : decode cX5_lots 51 = .ok (.i2l, 1) := by decide +kernel
theorem dX5_lots_52 : decode cX5_lots 52 = .ok (.lstore_n 3, 1) := by decide +kernel
theorem dX5_lots_53 : decode cX5_lots 53 = .ok (.iconst 0, 1) := by decide +kernel
theorem dX5_lots_54 : decode cX5_lots 54 = .ok (.istore 5, 2) := by decide +kernel
theorem dX5_lots_56 : decode cX5_lots 56 = .ok (.iload 5, 2) := by decide +kernel
theorem dX5_lots_58 : decode cX5_lots 58 = .ok (.iload_n 1, 1) := by decide +kernel
theorem dX5_lots_59 : decode cX5_lots 59 = .ok (.if_icmp .ge 28, 3) := by decide +kernel
theorem dX5_lots_62 : decode cX5_lots 62 = .ok (.lload_n 3, 1) := by decide +kernel
theorem dX5_lots_63 : decode cX5_lots 63 = .ok (.ldc2_w 294, 3) := by decide +kernel
theorem dX5_lots_66 : decode cX5_lots 66 = .ok (.lmul, 1) := by decide +kernel
theorem dX5_lots_67 : decode cX5_lots 67 = .ok (.ldc2_w 292, 3) := by decide +kernel
theorem dX5_lots_70 : decode cX5_lots 70 = .ok (.lrem, 1) := by decide +kernel
theorem dX5_lots_71 : decode cX5_lots 71 = .ok (.lstore_n 3, 1) := by decide +kernel
theorem dX5_lots_72 : decode cX5_lots 72 = .ok (.aload_n 0, 1) := by decide +kernel
theorem dX5_lots_73 : decode cX5_lots 73 = .ok (.getfield 49, 3) := by decide +kernel
theorem dX5_lots_76 : decode cX5_lots 76 = .ok (.lload_n 3, 1) := by decide +kernel
theorem dX5_lots_77 : decode cX5_lots 77 = .ok (.l2i, 1) := by decide +kernel
theorem dX5_lots_78 : decode cX5_lots 78 = .ok (.invokevirtual 296, 3) := by decide +kernel
theorem dX5_lots_81 : decode cX5_lots 81 = .ok (.iinc 5 1, 3) := by decide +kernel
theorem dX5_lots_84 : decode cX5_lots 84 = .ok (.goto (-28), 3) := by decide +kernel
theorem dX5_lots_87 : decode cX5_lots 87 = .ok (.aload_n 0, 1) := by decide +kernel
theorem dX5_lots_88 : decode cX5_lots 88 = .ok (.getfield 49, 3) := by decide +kernel
theorem dX5_lots_91 : decode cX5_lots 91 = .ok (.invokevirtual 188, 3) := by decide +kernel
theorem dX5_lots_94 : decode cX5_lots 94 = .ok (.invokestatic 192, 3) := by decide +kernel
theorem dX5_lots_97 : decode cX5_lots 97 = .ok (.ireturn, 1) := by decide +kernel
theorem dX5_asked_0 : decode cX5_asked 0 = .ok (.aload_n 0, 1) := by decide +kernel
theorem dX5_asked_1 : decode cX5_asked 1 = .ok (.getfield 107, 3) := by decide +kernel
theorem dX5_asked_4 : decode cX5_asked 4 = .ok (.ireturn, 1) := by decide +kernel
theorem dX5_upper_0 : decode cX5_upper 0 = .ok (.aload_n 0, 1) := by decide +kernel
theorem dX5_upper_1 : decode cX5_upper 1 = .ok (.getfield 277, 3) := by decide +kernel
theorem dX5_upper_4 : decode cX5_upper 4 = .ok (.lreturn, 1) := by decide +kernel
theorem dX5_lower_0 : decode cX5_lower 0 = .ok (.aload_n 0, 1) := by decide +kernel
theorem dX5_lower_1 : decode cX5_lower 1 = .ok (.getfield 56, 3) := by decide +kernel
theorem dX5_lower_4 : decode cX5_lower 4 = .ok (.lreturn, 1) := by decide +kernel
theorem dX5_count_0 : decode cX5_count 0 = .ok (.iload_n 1, 1) := by decide +kernel
theorem dX5_count_1 : decode cX5_count 1 = .ok (.tableswitch 188 0 13 #[71, 79, 87, 95, 106, 114, 122, 130, 138, 147, 156, 164, 172, 180], 71) := by decide +kernel
theorem dX5_count_72 : decode cX5_count 72 = .ok (.aload_n 0, 1) := by decide +kernel
theorem dX5_count_73 : decode cX5_count 73 = .ok (.getfield 49, 3) := by decide +kernel
theorem dX5_count_76 : decode cX5_count 76 = .ok (.getfield 131, 3) := by decide +kernel
theorem dX5_count_79 : decode cX5_count 79 = .ok (.ireturn, 1) := by decide +kernel
theorem dX5_count_80 : decode cX5_count 80 = .ok (.aload_n 0, 1) := by decide +kernel
theorem dX5_count_81 : decode cX5_count 81 = .ok (.getfield 49, 3) := by decide +kernel
theorem dX5_count_84 : decode cX5_count 84 = .ok (.getfield 179, 3) := by decide +kernel
theorem dX5_count_87 : decode cX5_count 87 = .ok (.ireturn, 1) := by decide +kernel
theorem dX5_count_88 : decode cX5_count 88 = .ok (.aload_n 0, 1) := by decide +kernel
theorem dX5_count_89 : decode cX5_count 89 = .ok (.getfield 49, 3) := by decide +kernel
theorem dX5_count_92 : decode cX5_count 92 = .ok (.getfield 299, 3) := by decide +kernel
theorem dX5_count_95 : decode cX5_count 95 = .ok (.ireturn, 1) := by decide +kernel
theorem dX5_count_96 : decode cX5_count 96 = .ok (.aload_n 0, 1) := by decide +kernel
theorem dX5_count_97 : decode cX5_count 97 = .ok (.getfield 49, 3) := by decide +kernel
theorem dX5_count_100 : decode cX5_count 100 = .ok (.getfield 125, 3) := by decide +kernel
theorem dX5_count_103 : decode cX5_count 103 = .ok (.getfield 85, 3) := by decide +kernel
theorem dX5_count_106 : decode cX5_count 106 = .ok (.ireturn, 1) := by decide +kernel
theorem dX5_count_107 : decode cX5_count 107 = .ok (.aload_n 0, 1) := by decide +kernel
theorem dX5_count_108 : decode cX5_count 108 = .ok (.getfield 49, 3) := by decide +kernel
theorem dX5_count_111 : decode cX5_count 111 = .ok (.getfield 169, 3) := by decide +kernel
theorem dX5_count_114 : decode cX5_count 114 = .ok (.ireturn, 1) := by decide +kernel
theorem dX5_count_115 : decode cX5_count 115 = .ok (.aload_n 0, 1) := by decide +kernel
theorem dX5_count_116 : decode cX5_count 116 = .ok (.getfield 49, 3) := by decide +kernel
theorem dX5_count_119 : decode cX5_count 119 = .ok (.getfield 152, 3) := by decide +kernel
theorem dX5_count_122 : decode cX5_count 122 = .ok (.ireturn, 1) := by decide +kernel
theorem dX5_count_123 : decode cX5_count 123 = .ok (.aload_n 0, 1) := by decide +kernel
theorem dX5_count_124 : decode cX5_count 124 = .ok (.getfield 49, 3) := by decide +kernel
theorem dX5_count_127 : decode cX5_count 127 = .ok (.invokevirtual 188, 3) := by decide +kernel
theorem dX5_count_130 : decode cX5_count 130 = .ok (.ireturn, 1) := by decide +kernel
theorem dX5_count_131 : decode cX5_count 131 = .ok (.aload_n 0, 1) := by decide +kernel
theorem dX5_count_132 : decode cX5_count 132 = .ok (.getfield 49, 3) := by decide +kernel
theorem dX5_count_135 : decode cX5_count 135 = .ok (.getfield 302, 3) := by decide +kernel
theorem dX5_count_138 : decode cX5_count 138 = .ok (.ireturn, 1) := by decide +kernel
theorem dX5_count_139 : decode cX5_count 139 = .ok (.aload_n 0, 1) := by decide +kernel
theorem dX5_count_140 : decode cX5_count 140 = .ok (.getfield 49, 3) := by decide +kernel
theorem dX5_count_143 : decode cX5_count 143 = .ok (.iconst 1, 1) := by decide +kernel
theorem dX5_count_144 : decode cX5_count 144 = .ok (.invokevirtual 305, 3) := by decide +kernel
theorem dX5_count_147 : decode cX5_count 147 = .ok (.ireturn, 1) := by decide +kernel
theorem dX5_count_148 : decode cX5_count 148 = .ok (.aload_n 0, 1) := by decide +kernel
theorem dX5_count_149 : decode cX5_count 149 = .ok (.getfield 49, 3) := by decide +kernel
theorem dX5_count_152 : decode cX5_count 152 = .ok (.iconst 2, 1) := by decide +kernel
theorem dX5_count_153 : decode cX5_count 153 = .ok (.invokevirtual 305, 3) := by decide +kernel
theorem dX5_count_156 : decode cX5_count 156 = .ok (.ireturn, 1) := by decide +kernel
theorem dX5_count_157 : decode cX5_count 157 = .ok (.aload_n 0, 1) := by decide +kernel
theorem dX5_count_158 : decode cX5_count 158 = .ok (.getfield 13, 3) := by decide +kernel
theorem dX5_count_161 : decode cX5_count 161 = .ok (.invokestatic 308, 3) := by decide +kernel
theorem dX5_count_164 : decode cX5_count 164 = .ok (.ireturn, 1) := by decide +kernel
theorem dX5_count_165 : decode cX5_count 165 = .ok (.aload_n 0, 1) := by decide +kernel
theorem dX5_count_166 : decode cX5_count 166 = .ok (.getfield 17, 3) := by decide +kernel
theorem dX5_count_169 : decode cX5_count 169 = .ok (.invokestatic 308, 3) := by decide +kernel
theorem dX5_count_172 : decode cX5_count 172 = .ok (.ireturn, 1) := by decide +kernel
theorem dX5_count_173 : decode cX5_count 173 = .ok (.aload_n 0, 1) := by decide +kernel
theorem dX5_count_174 : decode cX5_count 174 = .ok (.getfield 20, 3) := by decide +kernel
theorem dX5_count_177 : decode cX5_count 177 = .ok (.invokestatic 308, 3) := by decide +kernel
theorem dX5_count_180 : decode cX5_count 180 = .ok (.ireturn, 1) := by decide +kernel
theorem dX5_count_181 : decode cX5_count 181 = .ok (.aload_n 0, 1) := by decide +kernel
theorem dX5_count_182 : decode cX5_count 182 = .ok (.getfield 49, 3) := by decide +kernel
theorem dX5_count_185 : decode cX5_count 185 = .ok (.getfield 312, 3) := by decide +kernel
theorem dX5_count_188 : decode cX5_count 188 = .ok (.ireturn, 1) := by decide +kernel
theorem dX5_count_189 : decode cX5_count 189 = .ok (.iconst (-1), 1) := by decide +kernel
theorem dX5_count_190 : decode cX5_count 190 = .ok (.ireturn, 1) := by decide +kernel
theorem dX5_finding_0 : decode cX5_finding 0 = .ok (.aload_n 0, 1) := by decide +kernel
theorem dX5_finding_1 : decode cX5_finding 1 = .ok (.getfield 64, 3) := by decide +kernel
theorem dX5_finding_4 : decode cX5_finding 4 = .ok (.ireturn, 1) := by decide +kernel
theorem dX5_findings_0 : decode cX5_findings 0 = .ok (.iload_n 1, 1) := by decide +kernel
theorem dX5_findings_1 : decode cX5_findings 1 = .ok (.iconst 1, 1) := by decide +kernel
theorem dX5_findings_2 : decode cX5_findings 2 = .ok (.iconst 5, 1) := by decide +kernel
theorem dX5_findings_3 : decode cX5_findings 3 = .ok (.invokestatic 75, 3) := by decide +kernel
theorem dX5_findings_6 : decode cX5_findings 6 = .ok (.ifCond .eq 14, 3) := by decide +kernel
theorem dX5_findings_9 : decode cX5_findings 9 = .ok (.aload_n 0, 1) := by decide +kernel
theorem dX5_findings_10 : decode cX5_findings 10 = .ok (.getfield 42, 3) := by decide +kernel
theorem dX5_findings_13 : decode cX5_findings 13 = .ok (.iload_n 1, 1) := by decide +kernel
theorem dX5_findings_14 : decode cX5_findings 14 = .ok (.invokevirtual 68, 3) := by decide +kernel
theorem dX5_findings_17 : decode cX5_findings 17 = .ok (.goto 4, 3) := by decide +kernel
theorem dX5_findings_20 : decode cX5_findings 20 = .ok (.iconst (-1), 1) := by decide +kernel
theorem dX5_findings_21 : decode cX5_findings 21 = .ok (.ireturn, 1) := by decide +kernel
theorem dX5_digest_0 : decode cX5_digest 0 = .ok (.ldc2_w 315, 3) := by decide +kernel
theorem dX5_digest_3 : decode cX5_digest 3 = .ok (.lstore_n 1, 1) := by decide +kernel
theorem dX5_digest_4 : decode cX5_digest 4 = .ok (.iconst 0, 1) := by decide +kernel
theorem dX5_digest_5 : decode cX5_digest 5 = .ok (.istore_n 3, 1) := by decide +kernel
theorem dX5_digest_6 : decode cX5_digest 6 = .ok (.iload_n 3, 1) := by decide +kernel
theorem dX5_digest_7 : decode cX5_digest 7 = .ok (.bipush 14, 2) := by decide +kernel
theorem dX5_digest_9 : decode cX5_digest 9 = .ok (.if_icmp .ge 22, 3) := by decide +kernel
theorem dX5_digest_12 : decode cX5_digest 12 = .ok (.ldc2_w 317, 3) := by decide +kernel
theorem dX5_digest_15 : decode cX5_digest 15 = .ok (.lload_n 1, 1) := by decide +kernel
theorem dX5_digest_16 : decode cX5_digest 16 = .ok (.lmul, 1) := by decide +kernel
theorem dX5_digest_17 : decode cX5_digest 17 = .ok (.aload_n 0, 1) := by decide +kernel
theorem dX5_digest_18 : decode cX5_digest 18 = .ok (.iload_n 3, 1) := by decide +kernel
theorem dX5_digest_19 : decode cX5_digest 19 = .ok (.invokevirtual 319, 3) := by decide +kernel
theorem dX5_digest_22 : decode cX5_digest 22 = .ok (.i2l, 1) := by decide +kernel
theorem dX5_digest_23 : decode cX5_digest 23 = .ok (.ladd, 1) := by decide +kernel
theorem dX5_digest_24 : decode cX5_digest 24 = .ok (.lstore_n 1, 1) := by decide +kernel
theorem dX5_digest_25 : decode cX5_digest 25 = .ok (.iinc 3 1, 3) := by decide +kernel
theorem dX5_digest_28 : decode cX5_digest 28 = .ok (.goto (-22), 3) := by decide +kernel
theorem dX5_digest_31 : decode cX5_digest 31 = .ok (.iconst 0, 1) := by decide +kernel
theorem dX5_digest_32 : decode cX5_digest 32 = .ok (.istore_n 3, 1) := by decide +kernel
theorem dX5_digest_33 : decode cX5_digest 33 = .ok (.iload_n 3, 1) := by decide +kernel
theorem dX5_digest_34 : decode cX5_digest 34 = .ok (.aload_n 0, 1) := by decide +kernel
theorem dX5_digest_35 : decode cX5_digest 35 = .ok (.getfield 49, 3) := by decide +kernel
theorem dX5_digest_38 : decode cX5_digest 38 = .ok (.getfield 131, 3) := by decide +kernel
theorem dX5_digest_41 : decode cX5_digest 41 = .ok (.if_icmp .ge 43, 3) := by decide +kernel
theorem dX5_digest_44 : decode cX5_digest 44 = .ok (.iconst 0, 1) := by decide +kernel
theorem dX5_digest_45 : decode cX5_digest 45 = .ok (.istore 4, 2) := by decide +kernel
theorem dX5_digest_47 : decode cX5_digest 47 = .ok (.iload 4, 2) := by decide +kernel
theorem dX5_digest_49 : decode cX5_digest 49 = .ok (.bipush 6, 2) := by decide +kernel
theorem dX5_digest_51 : decode cX5_digest 51 = .ok (.if_icmp .ge 27, 3) := by decide +kernel
theorem dX5_digest_54 : decode cX5_digest 54 = .ok (.ldc2_w 317, 3) := by decide +kernel
theorem dX5_digest_57 : decode cX5_digest 57 = .ok (.lload_n 1, 1) := by decide +kernel
theorem dX5_digest_58 : decode cX5_digest 58 = .ok (.lmul, 1) := by decide +kernel
theorem dX5_digest_59 : decode cX5_digest 59 = .ok (.aload_n 0, 1) := by decide +kernel
theorem dX5_digest_60 : decode cX5_digest 60 = .ok (.getfield 49, 3) := by decide +kernel
theorem dX5_digest_63 : decode cX5_digest 63 = .ok (.iload_n 3, 1) := by decide +kernel
theorem dX5_digest_64 : decode cX5_digest 64 = .ok (.iload 4, 2) := by decide +kernel
theorem dX5_digest_66 : decode cX5_digest 66 = .ok (.invokevirtual 135, 3) := by decide +kernel
theorem dX5_digest_69 : decode cX5_digest 69 = .ok (.i2l, 1) := by decide +kernel
theorem dX5_digest_70 : decode cX5_digest 70 = .ok (.ladd, 1) := by decide +kernel
theorem dX5_digest_71 : decode cX5_digest 71 = .ok (.lstore_n 1, 1) := by decide +kernel
theorem dX5_digest_72 : decode cX5_digest 72 = .ok (.iinc 4 1, 3) := by decide +kernel
theorem dX5_digest_75 : decode cX5_digest 75 = .ok (.goto (-28), 3) := by decide +kernel
theorem dX5_digest_78 : decode cX5_digest 78 = .ok (.iinc 3 1, 3) := by decide +kernel
theorem dX5_digest_81 : decode cX5_digest 81 = .ok (.goto (-48), 3) := by decide +kernel
theorem dX5_digest_84 : decode cX5_digest 84 = .ok (.iconst 0, 1) := by decide +kernel
theorem dX5_digest_85 : decode cX5_digest 85 = .ok (.istore_n 3, 1) := by decide +kernel
theorem dX5_digest_86 : decode cX5_digest 86 = .ok (.iload_n 3, 1) := by decide +kernel
theorem dX5_digest_87 : decode cX5_digest 87 = .ok (.aload_n 0, 1) := by decide +kernel
theorem dX5_digest_88 : decode cX5_digest 88 = .ok (.getfield 20, 3) := by decide +kernel
theorem dX5_digest_91 : decode cX5_digest 91 = .ok (.arraylength, 1) := by decide +kernel
theorem dX5_digest_92 : decode cX5_digest 92 = .ok (.if_icmp .ge 39, 3) := by decide +kernel
theorem dX5_digest_95 : decode cX5_digest 95 = .ok (.aload_n 0, 1) := by decide +kernel
theorem dX5_digest_96 : decode cX5_digest 96 = .ok (.getfield 20, 3) := by decide +kernel
theorem dX5_digest_99 : decode cX5_digest 99 = .ok (.iload_n 3, 1) := by decide +kernel
theorem dX5_digest_100 : decode cX5_digest 100 = .ok (.aaload, 1) := by decide +kernel
theorem dX5_digest_101 : decode cX5_digest 101 = .ok (.astore 4, 2) := by decide +kernel
theorem dX5_digest_103 : decode cX5_digest 103 = .ok (.ldc2_w 317, 3) := by decide +kernel
theorem dX5_digest_106 : decode cX5_digest 106 = .ok (.lload_n 1, 1) := by decide +kernel
theorem dX5_digest_107 : decode cX5_digest 107 = .ok (.lmul, 1) := by decide +kernel
theorem dX5_digest_108 : decode cX5_digest 108 = .ok (.aload 4, 2) := by decide +kernel
theorem dX5_digest_110 : decode cX5_digest 110 = .ok (.ifnonnull 7, 3) := by decide +kernel
theorem dX5_digest_113 : decode cX5_digest 113 = .ok (.iconst (-1), 1) := by decide +kernel
theorem dX5_digest_114 : decode cX5_digest 114 = .ok (.goto 8, 3) := by decide +kernel
theorem dX5_digest_117 : decode cX5_digest 117 = .ok (.aload 4, 2) := by decide +kernel
theorem dX5_digest_119 : decode cX5_digest 119 = .ok (.getfield 85, 3) := by decide +kernel
theorem dX5_digest_122 : decode cX5_digest 122 = .ok (.i2l, 1) := by decide +kernel
theorem dX5_digest_123 : decode cX5_digest 123 = .ok (.ladd, 1) := by decide +kernel
theorem dX5_digest_124 : decode cX5_digest 124 = .ok (.lstore_n 1, 1) := by decide +kernel
theorem dX5_digest_125 : decode cX5_digest 125 = .ok (.iinc 3 1, 3) := by decide +kernel
theorem dX5_digest_128 : decode cX5_digest 128 = .ok (.goto (-42), 3) := by decide +kernel
theorem dX5_digest_131 : decode cX5_digest 131 = .ok (.aload_n 0, 1) := by decide +kernel
theorem dX5_digest_132 : decode cX5_digest 132 = .ok (.getfield 17, 3) := by decide +kernel
theorem dX5_digest_135 : decode cX5_digest 135 = .ok (.aload_n 0, 1) := by decide +kernel
theorem dX5_digest_136 : decode cX5_digest 136 = .ok (.getfield 13, 3) := by decide +kernel
theorem dX5_digest_139 : decode cX5_digest 139 = .ok (.lload_n 1, 1) := by decide +kernel
theorem dX5_digest_140 : decode cX5_digest 140 = .ok (.invokestatic 322, 3) := by decide +kernel
theorem dX5_digest_143 : decode cX5_digest 143 = .ok (.invokestatic 322, 3) := by decide +kernel
theorem dX5_digest_146 : decode cX5_digest 146 = .ok (.lreturn, 1) := by decide +kernel
theorem dX5_digestOf_0 : decode cX5_digestOf 0 = .ok (.iconst 0, 1) := by decide +kernel
theorem dX5_digestOf_1 : decode cX5_digestOf 1 = .ok (.istore_n 3, 1) := by decide +kernel
theorem dX5_digestOf_2 : decode cX5_digestOf 2 = .ok (.iload_n 3, 1) := by decide +kernel
theorem dX5_digestOf_3 : decode cX5_digestOf 3 = .ok (.aload_n 0, 1) := by decide +kernel
theorem dX5_digestOf_4 : decode cX5_digestOf 4 = .ok (.arraylength, 1) := by decide +kernel
theorem dX5_digestOf_5 : decode cX5_digestOf 5 = .ok (.if_icmp .ge 66, 3) := by decide +kernel
theorem dX5_digestOf_8 : decode cX5_digestOf 8 = .ok (.aload_n 0, 1) := by decide +kernel
theorem dX5_digestOf_9 : decode cX5_digestOf 9 = .ok (.iload_n 3, 1) := by decide +kernel
theorem dX5_digestOf_10 : decode cX5_digestOf 10 = .ok (.aaload, 1) := by decide +kernel
theorem dX5_digestOf_11 : decode cX5_digestOf 11 = .ok (.astore 4, 2) := by decide +kernel
theorem dX5_digestOf_13 : decode cX5_digestOf 13 = .ok (.aload 4, 2) := by decide +kernel
theorem dX5_digestOf_15 : decode cX5_digestOf 15 = .ok (.ifnull 50, 3) := by decide +kernel
theorem dX5_digestOf_18 : decode cX5_digestOf 18 = .ok (.ldc2_w 317, 3) := by decide +kernel
theorem dX5_digestOf_21 : decode cX5_digestOf 21 = .ok (.lload_n 1, 1) := by decide +kernel
theorem dX5_digestOf_22 : decode cX5_digestOf 22 = .ok (.lmul, 1) := by decide +kernel
theorem dX5_digestOf_23 : decode cX5_digestOf 23 = .ok (.aload 4, 2) := by decide +kernel
theorem dX5_digestOf_25 : decode cX5_digestOf 25 = .ok (.getfield 85, 3) := by decide +kernel
theorem dX5_digestOf_28 : decode cX5_digestOf 28 = .ok (.i2l, 1) := by decide +kernel
theorem dX5_digestOf_29 : decode cX5_digestOf 29 = .ok (.ladd, 1) := by decide +kernel
theorem dX5_digestOf_30 : decode cX5_digestOf 30 = .ok (.lstore_n 1, 1) := by decide +kernel
theorem dX5_digestOf_31 : decode cX5_digestOf 31 = .ok (.iconst 0, 1) := by decide +kernel
theorem dX5_digestOf_32 : decode cX5_digestOf 32 = .ok (.istore 5, 2) := by decide +kernel
theorem dX5_digestOf_34 : decode cX5_digestOf 34 = .ok (.iload 5, 2) := by decide +kernel
theorem dX5_digestOf_36 : decode cX5_digestOf 36 = .ok (.aload 4, 2) := by decide +kernel
theorem dX5_digestOf_38 : decode cX5_digestOf 38 = .ok (.getfield 85, 3) := by decide +kernel
theorem dX5_digestOf_41 : decode cX5_digestOf 41 = .ok (.if_icmp .ge 24, 3) := by decide +kernel
theorem dX5_digestOf_44 : decode cX5_digestOf 44 = .ok (.ldc2_w 317, 3) := by decide +kernel
theorem dX5_digestOf_47 : decode cX5_digestOf 47 = .ok (.lload_n 1, 1) := by decide +kernel
theorem dX5_digestOf_48 : decode cX5_digestOf 48 = .ok (.lmul, 1) := by decide +kernel
theorem dX5_digestOf_49 : decode cX5_digestOf 49 = .ok (.aload 4, 2) := by decide +kernel
theorem dX5_digestOf_51 : decode cX5_digestOf 51 = .ok (.iload 5, 2) := by decide +kernel
theorem dX5_digestOf_53 : decode cX5_digestOf 53 = .ok (.invokevirtual 68, 3) := by decide +kernel
theorem dX5_digestOf_56 : decode cX5_digestOf 56 = .ok (.i2l, 1) := by decide +kernel
theorem dX5_digestOf_57 : decode cX5_digestOf 57 = .ok (.ladd, 1) := by decide +kernel
theorem dX5_digestOf_58 : decode cX5_digestOf 58 = .ok (.lstore_n 1, 1) := by decide +kernel
theorem dX5_digestOf_59 : decode cX5_digestOf 59 = .ok (.iinc 5 1, 3) := by decide +kernel
theorem dX5_digestOf_62 : decode cX5_digestOf 62 = .ok (.goto (-28), 3) := by decide +kernel
theorem dX5_digestOf_65 : decode cX5_digestOf 65 = .ok (.iinc 3 1, 3) := by decide +kernel
theorem dX5_digestOf_68 : decode cX5_digestOf 68 = .ok (.goto (-66), 3) := by decide +kernel
theorem dX5_digestOf_71 : decode cX5_digestOf 71 = .ok (.lload_n 1, 1) := by decide +kernel
theorem dX5_digestOf_72 : decode cX5_digestOf 72 = .ok (.lreturn, 1) := by decide +kernel
end
section
theorem dX6_init_0 : decode cX6_init 0 = .ok (.aload_n 0, 1) := by decide +kernel
theorem dX6_init_1 : decode cX6_init 1 = .ok (.invokespecial 1, 3) := by decide +kernel
theorem dX6_init_4 : decode cX6_init 4 = .ok (.aload_n 0, 1) := by decide +kernel
theorem dX6_init_5 : decode cX6_init 5 = .ok (.bipush 6, 2) := by decide +kernel
theorem dX6_init_7 : decode cX6_init 7 = .ok (.newarray .int, 2) := by decide +kernel
theorem dX6_init_9 : decode cX6_init 9 = .ok (.putfield 7, 3) := by decide +kernel
theorem dX6_init_12 : decode cX6_init 12 = .ok (.aload_n 0, 1) := by decide +kernel
theorem dX6_init_13 : decode cX6_init 13 = .ok (.sipush 240, 3) := by decide +kernel
theorem dX6_init_16 : decode cX6_init 16 = .ok (.newarray .int, 2) := by decide +kernel
theorem dX6_init_18 : decode cX6_init 18 = .ok (.putfield 13, 3) := by decide +kernel
theorem dX6_init_21 : decode cX6_init 21 = .ok (.aload_n 0, 1) := by decide +kernel
theorem dX6_init_22 : decode cX6_init 22 = .ok (.iconst 4, 1) := by decide +kernel
theorem dX6_init_23 : decode cX6_init 23 = .ok (.newarray .int, 2) := by decide +kernel
theorem dX6_init_25 : decode cX6_init 25 = .ok (.putfield 16, 3) := by decide +kernel
theorem dX6_init_28 : decode cX6_init 28 = .ok (.aload_n 0, 1) := by decide +kernel
theorem dX6_init_29 : decode cX6_init 29 = .ok (.sipush 240, 3) := by decide +kernel
theorem dX6_init_32 : decode cX6_init 32 = .ok (.newarray .int, 2) := by decide +kernel
theorem dX6_init_34 : decode cX6_init 34 = .ok (.putfield 19, 3) := by decide +kernel
theorem dX6_init_37 : decode cX6_init 37 = .ok (.aload_n 0, 1) := by decide +kernel
theorem dX6_init_38 : decode cX6_init 38 = .ok (.bipush 6, 2) := by decide +kernel
theorem dX6_init_40 : decode cX6_init 40 = .ok (.newarray .int, 2) := by decide +kernel
theorem dX6_init_42 : decode cX6_init 42 = .ok (.putfield 22, 3) := by decide +kernel
theorem dX6_init_45 : decode cX6_init 45 = .ok (.aload_n 0, 1) := by decide +kernel
theorem dX6_init_46 : decode cX6_init 46 = .ok (.lconst 1, 1) := by decide +kernel
theorem dX6_init_47 : decode cX6_init 47 = .ok (.putfield 25, 3) := by decide +kernel
theorem dX6_init_50 : decode cX6_init 50 = .ok (.aload_n 0, 1) := by decide +kernel
theorem dX6_init_51 : decode cX6_init 51 = .ok (.bipush 18, 2) := by decide +kernel
theorem dX6_init_53 : decode cX6_init 53 = .ok (.newarray .int, 2) := by decide +kernel
theorem dX6_init_55 : decode cX6_init 55 = .ok (.putfield 29, 3) := by decide +kernel
theorem dX6_init_58 : decode cX6_init 58 = .ok (.aload_n 0, 1) := by decide +kernel
theorem dX6_init_59 : decode cX6_init 59 = .ok (.bipush 6, 2) := by decide +kernel
theorem dX6_init_61 : decode cX6_init 61 = .ok (.newarray .int, 2) := by decide +kernel
theorem dX6_init_63 : decode cX6_init 63 = .ok (.putfield 32, 3) := by decide +kernel
theorem dX6_init_66 : decode cX6_init 66 = .ok (.aload_n 0, 1) := by decide +kernel
theorem dX6_init_67 : decode cX6_init 67 = .ok (.bipush 6, 2) := by decide +kernel
theorem dX6_init_69 : decode cX6_init 69 = .ok (.newarray .int, 2) := by decide +kernel
theorem dX6_init_71 : decode cX6_init 71 = .ok (.putfield 35, 3) := by decide +kernel
theorem dX6_init_74 : decode cX6_init 74 = .ok (.aload_n 0, 1) := by decide +kernel
theorem dX6_init_75 : decode cX6_init 75 = .ok (.bipush 23, 2) := by decide +kernel
theorem dX6_init_77 : decode cX6_init 77 = .ok (.newarray .int, 2) := by decide +kernel
theorem dX6_init_79 : decode cX6_init 79 = .ok (.putfield 38, 3) := by decide +kernel
theorem dX6_init_82 : decode cX6_init 82 = .ok (.aload_n 0, 1) := by decide +kernel
theorem dX6_init_83 : decode cX6_init 83 = .ok (.sipush 920, 3) := by decide +kernel
theorem dX6_init_86 : decode cX6_init 86 = .ok (.newarray .int, 2) := by decide +kernel
theorem dX6_init_88 : decode cX6_init 88 = .ok (.putfield 41, 3) := by decide +kernel
theorem dX6_init_91 : decode cX6_init 91 = .ok (.aload_n 0, 1) := by decide +kernel
theorem dX6_init_92 : decode cX6_init 92 = .ok (.bipush 69, 2) := by decide +kernel
theorem dX6_init_94 : decode cX6_init 94 = .ok (.newarray .int, 2) := by decide +kernel
theorem dX6_init_96 : decode cX6_init 96 = .ok (.putfield 44, 3) := by decide +kernel
theorem dX6_init_99 : decode cX6_init 99 = .ok (.aload_n 0, 1) := by decide +kernel
theorem dX6_init_100 : decode cX6_init 100 = .ok (.sipush 2760, 3) := by decide +kernel
theorem dX6_init_103 : decode cX6_init 103 = .ok (.newarray .int, 2) := by decide +kernel
theorem dX6_init_105 : decode cX6_init 105 = .ok (.putfield 47, 3) := by decide +kernel
theorem dX6_init_108 : decode cX6_init 108 = .ok (.aload_n 0, 1) := by decide +kernel
theorem dX6_init_109 : decode cX6_init 109 = .ok (.iconst 3, 1) := by decide +kernel
theorem dX6_init_110 : decode cX6_init 110 = .ok (.newarray .int, 2) := by decide +kernel
theorem dX6_init_112 : decode cX6_init 112 = .ok (.putfield 50, 3) := by decide +kernel
theorem dX6_init_115 : decode cX6_init 115 = .ok (.aload_n 0, 1) := by decide +kernel
theorem dX6_init_116 : decode cX6_init 116 = .ok (.bipush 6, 2) := by decide +kernel
theorem dX6_init_118 : decode cX6_init 118 = .ok (.newarray .int, 2) := by decide +kernel
theorem dX6_init_120 : decode cX6_init 120 = .ok (.putfield 53, 3) := by decide +kernel
theorem dX6_init_123 : decode cX6_init 123 = .ok (.aload_n 0, 1) := by decide +kernel
theorem dX6_init_124 : decode cX6_init 124 = .ok (.bipush 6, 2) := by decide +kernel
theorem dX6_init_126 : decode cX6_init 126 = .ok (.newarray .int, 2) := by decide +kernel
theorem dX6_init_128 : decode cX6_init 128 = .ok (.putfield 56, 3) := by decide +kernel
theorem dX6_init_131 : decode cX6_init 131 = .ok (.iconst 0, 1) := by decide +kernel
theorem dX6_init_132 : decode cX6_init 132 = .ok (.istore_n 1, 1) := by decide +kernel
theorem dX6_init_133 : decode cX6_init 133 = .ok (.iload_n 1, 1) := by decide +kernel
theorem dX6_init_134 : decode cX6_init 134 = .ok (.bipush 6, 2) := by decide +kernel
theorem dX6_init_136 : decode cX6_init 136 = .ok (.if_icmp .ge 16, 3) := by decide +kernel
theorem dX6_init_139 : decode cX6_init 139 = .ok (.aload_n 0, 1) := by decide +kernel
theorem dX6_init_140 : decode cX6_init 140 = .ok (.getfield 7, 3) := by decide +kernel
theorem dX6_init_143 : decode cX6_init 143 = .ok (.iload_n 1, 1) := by decide +kernel
theorem dX6_init_144 : decode cX6_init 144 = .ok (.iconst (-1), 1) := by decide +kernel
theorem dX6_init_145 : decode cX6_init 145 = .ok (.iastore, 1) := by decide +kernel
theorem dX6_init_146 : decode cX6_init 146 = .ok (.iinc 1 1, 3) := by decide +kernel
theorem dX6_init_149 : decode cX6_init 149 = .ok (.goto (-16), 3) := by decide +kernel
theorem dX6_init_152 : decode cX6_init 152 = .ok (.iconst 0, 1) := by decide +kernel
theorem dX6_init_153 : decode cX6_init 153 = .ok (.istore_n 1, 1) := by decide +kernel
theorem dX6_init_154 : decode cX6_init 154 = .ok (.iload_n 1, 1) := by decide +kernel
theorem dX6_init_155 : decode cX6_init 155 = .ok (.iconst 4, 1) := by decide +kernel
theorem dX6_init_156 : decode cX6_init 156 = .ok (.if_icmp .ge 16, 3) := by decide +kernel
theorem dX6_init_159 : decode cX6_init 159 = .ok (.aload_n 0, 1) := by decide +kernel
theorem dX6_init_160 : decode cX6_init 160 = .ok (.getfield 16, 3) := by decide +kernel
theorem dX6_init_163 : decode cX6_init 163 = .ok (.iload_n 1, 1) := by decide +kernel
theorem dX6_init_164 : decode cX6_init 164 = .ok (.iconst (-1), 1) := by decide +kernel
theorem dX6_init_165 : decode cX6_init 165 = .ok (.iastore, 1) := by decide +kernel
theorem dX6_init_166 : decode cX6_init 166 = .ok (.iinc 1 1, 3) := by decide +kernel
theorem dX6_init_169 : decode cX6_init 169 = .ok (.goto (-15), 3) := by decide +kernel
theorem dX6_init_172 : decode cX6_init 172 = .ok (.iconst 0, 1) := by decide +kernel
theorem dX6_init_173 : decode cX6_init 173 = .ok (.istore_n 1, 1) := by decide +kernel
theorem dX6_init_174 : decode cX6_init 174 = .ok (.iload_n 1, 1) := by decide +kernel
theorem dX6_init_175 : decode cX6_init 175 = .ok (.iconst 3, 1) := by decide +kernel
theorem dX6_init_176 : decode cX6_init 176 = .ok (.if_icmp .ge 16, 3) := by decide +kernel
theorem dX6_init_179 : decode cX6_init 179 = .ok (.aload_n 0, 1) := by decide +kernel
theorem dX6_init_180 : decode cX6_init 180 = .ok (.getfield 50, 3) := by decide +kernel
theorem dX6_init_183 : decode cX6_init 183 = .ok (.iload_n 1, 1) := by decide +kernel
theorem dX6_init_184 : decode cX6_init 184 = .ok (.iconst (-1), 1) := by decide +kernel
theorem dX6_init_185 : decode cX6_init 185 = .ok (.iastore, 1) := by decide +kernel
theorem dX6_init_186 : decode cX6_init 186 = .ok (.iinc 1 1, 3) := by decide +kernel
theorem dX6_init_189 : decode cX6_init 189 = .ok (.goto (-15), 3) := by decide +kernel
theorem dX6_init_192 : decode cX6_init 192 = .ok (.return_, 1) := by decide +kernel
theorem dX6_in_0 : decode cX6_in 0 = .ok (.iload_n 0, 1) := by decide +kernel
theorem dX6_in_1 : decode cX6_in 1 = .ok (.iload_n 1, 1) := by decide +kernel
theorem dX6_in_2 : decode cX6_in 2 = .ok (.if_icmp .lt 12, 3) := by decide +kernel
theorem dX6_in_5 : decode cX6_in 5 = .ok (.iload_n 0, 1) := by decide +kernel
theorem dX6_in_6 : decode cX6_in 6 = .ok (.iload_n 2, 1) := by decide +kernel
theorem dX6_in_7 : decode cX6_in 7 = .ok (.if_icmp .gt 7, 3) := by decide +kernel
theorem dX6_in_10 : decode cX6_in 10 = .ok (.iconst 1, 1) := by decide +kernel
theorem dX6_in_11 : decode cX6_in 11 = .ok (.goto 4, 3) := by decide +kernel
theorem dX6_in_14 : decode cX6_in 14 = .ok (.iconst 0, 1) := by decide +kernel
theorem dX6_in_15 : decode cX6_in 15 = .ok (.ireturn, 1) := by decide +kernel
theorem dX6_has_0 : decode cX6_has 0 = .ok (.iload_n 0, 1) := by decide +kernel
theorem dX6_has_1 : decode cX6_has 1 = .ok (.iload_n 1, 1) := by decide +kernel
theorem dX6_has_2 : decode cX6_has 2 = .ok (.ishr, 1) := by decide +kernel
theorem dX6_has_3 : decode cX6_has 3 = .ok (.iconst 1, 1) := by decide +kernel
theorem dX6_has_4 : decode cX6_has 4 = .ok (.iand, 1) := by decide +kernel
theorem dX6_has_5 : decode cX6_has 5 = .ok (.iconst 1, 1) := by decide +kernel
theorem dX6_has_6 : decode cX6_has 6 = .ok (.if_icmp .ne 7, 3) := by decide +kernel
theorem dX6_has_9 : decode cX6_has 9 = .ok (.iconst 1, 1) := by decide +kernel
theorem dX6_has_10 : decode cX6_has 10 = .ok (.goto 4, 3) := by decide +kernel
theorem dX6_has_13 : decode cX6_has 13 = .ok (.iconst 0, 1) := by decide +kernel
theorem dX6_has_14 : decode cX6_has 14 = .ok (.ireturn, 1) := by decide +kernel
theorem dX6_bits_0 : decode cX6_bits 0 = .ok (.iconst 0, 1) := by decide +kernel
theorem dX6_bits_1 : decode cX6_bits 1 = .ok (.istore_n 1, 1) := by decide +kernel
theorem dX6_bits_2 : decode cX6_bits 2 = .ok (.iconst 0, 1) := by decide +kernel
theorem dX6_bits_3 : decode cX6_bits 3 = .ok (.istore_n 2, 1) := by decide +kernel
theorem dX6_bits_4 : decode cX6_bits 4 = .ok (.iload_n 2, 1) := by decide +kernel
theorem dX6_bits_5 : decode cX6_bits 5 = .ok (.bipush 6, 2) := by decide +kernel
theorem dX6_bits_7 : decode cX6_bits 7 = .ok (.if_icmp .ge 17, 3) := by decide +kernel
theorem dX6_bits_10 : decode cX6_bits 10 = .ok (.iload_n 1, 1) := by decide +kernel
theorem dX6_bits_11 : decode cX6_bits 11 = .ok (.iload_n 0, 1) := by decide +kernel
theorem dX6_bits_12 : decode cX6_bits 12 = .ok (.iload_n 2, 1) := by decide +kernel
theorem dX6_bits_13 : decode cX6_bits 13 = .ok (.ishr, 1) := by decide +kernel
theorem dX6_bits_14 : decode cX6_bits 14 = .ok (.iconst 1, 1) := by decide +kernel
theorem dX6_bits_15 : decode cX6_bits 15 = .ok (.iand, 1) := by decide +kernel
theorem dX6_bits_16 : decode cX6_bits 16 = .ok (.iadd, 1) := by decide +kernel
theorem dX6_bits_17 : decode cX6_bits 17 = .ok (.istore_n 1, 1) := by decide +kernel
theorem dX6_bits_18 : decode cX6_bits 18 = .ok (.iinc 2 1, 3) := by decide +kernel
theorem dX6_bits_21 : decode cX6_bits 21 = .ok (.goto (-17), 3) := by decide +kernel
theorem dX6_bits_24 : decode cX6_bits 24 = .ok (.iload_n 1, 1) := by decide +kernel
theorem dX6_bits_25 : decode cX6_bits 25 = .ok (.ireturn, 1) := by decide +kernel
theorem dX6_finds_0 : decode cX6_finds 0 = .ok (.aload_n 0, 1) := by decide +kernel
theorem dX6_finds_1 : decode cX6_finds 1 = .ok (.iload_n 1, 1) := by decide +kernel
theorem dX6_finds_2 : decode cX6_finds 2 = .ok (.putfield 59, 3) := by decide +kernel
theorem dX6_finds_5 : decode cX6_finds 5 = .ok (.aload_n 0, 1) := by decide +kernel
theorem dX6_finds_6 : decode cX6_finds 6 = .ok (.getfield 22, 3) := by decide +kernel
theorem dX6_finds_9 : decode cX6_finds 9 = .ok (.iload_n 1, 1) := by decide +kernel
theorem dX6_finds_10 : decode cX6_finds 10 = .ok (.dup2, 1) := by decide +kernel
theorem dX6_finds_11 : decode cX6_finds 11 = .ok (.iaload, 1) := by decide +kernel
theorem dX6_finds_12 : decode cX6_finds 12 = .ok (.iconst 1, 1) := by decide +kernel
theorem dX6_finds_13 : decode cX6_finds 13 = .ok (.iadd, 1) := by decide +kernel
theorem dX6_finds_14 : decode cX6_finds 14 = .ok (.iastore, 1) := by decide +kernel
theorem dX6_finds_15 : decode cX6_finds 15 = .ok (.bipush (-3), 2) := by decide +kernel
theorem dX6_finds_17 : decode cX6_finds 17 = .ok (.ireturn, 1) := by decide +kernel
theorem dX6_tells_0 : decode cX6_tells 0 = .ok (.aload_n 0, 1) := by decide +kernel
theorem dX6_tells_1 : decode cX6_tells 1 = .ok (.iload_n 1, 1) := by decide +kernel
theorem dX6_tells_2 : decode cX6_tells 2 = .ok (.putfield 63, 3) := by decide +kernel
theorem dX6_tells_5 : decode cX6_tells 5 = .ok (.iconst 1, 1) := by decide +kernel
theorem dX6_tells_6 : decode cX6_tells 6 = .ok (.ireturn, 1) := by decide +kernel
theorem dX6_bring_0 : decode cX6_bring 0 = .ok (.iconst 0, 1) := by decide +kernel
theorem dX6_bring_1 : decode cX6_bring 1 = .ok (.istore 5, 2) := by decide +kernel
theorem dX6_bring_3 : decode cX6_bring 3 = .ok (.iload 5, 2) := by decide +kernel
theorem dX6_bring_5 : decode cX6_bring 5 = .ok (.iload 4, 2) := by decide +kernel
theorem dX6_bring_7 : decode cX6_bring 7 = .ok (.if_icmp .ge 21, 3) := by decide +kernel
theorem dX6_bring_10 : decode cX6_bring 10 = .ok (.aload_n 2, 1) := by decide +kernel
theorem dX6_bring_11 : decode cX6_bring 11 = .ok (.iload_n 3, 1) := by decide +kernel
theorem dX6_bring_12 : decode cX6_bring 12 = .ok (.iload 5, 2) := by decide +kernel
theorem dX6_bring_14 : decode cX6_bring 14 = .ok (.iadd, 1) := by decide +kernel
theorem dX6_bring_15 : decode cX6_bring 15 = .ok (.aload_n 0, 1) := by decide +kernel
theorem dX6_bring_16 : decode cX6_bring 16 = .ok (.iload_n 1, 1) := by decide +kernel
theorem dX6_bring_17 : decode cX6_bring 17 = .ok (.iload 5, 2) := by decide +kernel
theorem dX6_bring_19 : decode cX6_bring 19 = .ok (.iadd, 1) := by decide +kernel
theorem dX6_bring_20 : decode cX6_bring 20 = .ok (.iaload, 1) := by decide +kernel
theorem dX6_bring_21 : decode cX6_bring 21 = .ok (.iastore, 1) := by decide +kernel
theorem dX6_bring_22 : decode cX6_bring 22 = .ok (.iinc 5 1, 3) := by decide +kernel
theorem dX6_bring_25 : decode cX6_bring 25 = .ok (.goto (-22), 3) := by decide +kernel
theorem dX6_bring_28 : decode cX6_bring 28 = .ok (.return_, 1) := by decide +kernel
theorem dX6_isOne_0 : decode cX6_isOne 0 = .ok (.iload_n 1, 1) := by decide +kernel
theorem dX6_isOne_1 : decode cX6_isOne 1 = .ok (.iconst 0, 1) := by decide +kernel
theorem dX6_isOne_2 : decode cX6_isOne 2 = .ok (.aload_n 0, 1) := by decide +kernel
theorem dX6_isOne_3 : decode cX6_isOne 3 = .ok (.getfield 66, 3) := by decide +kernel
theorem dX6_isOne_6 : decode cX6_isOne 6 = .ok (.iconst 1, 1) := by decide +kernel
theorem dX6_isOne_7 : decode cX6_isOne 7 = .ok (.isub, 1) := by decide +kernel
theorem dX6_isOne_8 : decode cX6_isOne 8 = .ok (.invokestatic 69, 3) := by decide +kernel
theorem dX6_isOne_11 : decode cX6_isOne 11 = .ok (.ireturn, 1) := by decide +kernel
theorem dX6_row_0 : decode cX6_row 0 = .ok (.iload_n 1, 1) := by decide +kernel
theorem dX6_row_1 : decode cX6_row 1 = .ok (.iconst 0, 1) := by decide +kernel
theorem dX6_row_2 : decode cX6_row 2 = .ok (.iconst 5, 1) := by decide +kernel
theorem dX6_row_3 : decode cX6_row 3 = .ok (.invokestatic 69, 3) := by decide +kernel
theorem dX6_row_6 : decode cX6_row 6 = .ok (.ifCond .eq 9, 3) := by decide +kernel
theorem dX6_row_9 : decode cX6_row 9 = .ok (.iload_n 2, 1) := by decide +kernel
theorem dX6_row_10 : decode cX6_row 10 = .ok (.bipush 40, 2) := by decide +kernel
theorem dX6_row_12 : decode cX6_row 12 = .ok (.if_icmp .le 5, 3) := by decide +kernel
theorem dX6_row_15 : decode cX6_row 15 = .ok (.iconst (-1), 1) := by decide +kernel
theorem dX6_row_16 : decode cX6_row 16 = .ok (.ireturn, 1) := by decide +kernel
theorem dX6_row_17 : decode cX6_row 17 = .ok (.iload_n 2, 1) := by decide +kernel
theorem dX6_row_18 : decode cX6_row 18 = .ok (.ifCond .ge 9, 3) := by decide +kernel
theorem dX6_row_21 : decode cX6_row 21 = .ok (.aload_n 0, 1) := by decide +kernel
theorem dX6_row_22 : decode cX6_row 22 = .ok (.iconst 5, 1) := by decide +kernel
theorem dX6_row_23 : decode cX6_row 23 = .ok (.invokevirtual 73, 3) := by decide +kernel
theorem dX6_row_26 : decode cX6_row 26 = .ok (.ireturn, 1) := by decide +kernel
theorem dX6_row_27 : decode cX6_row 27 = .ok (.aload_n 0, 1) := by decide +kernel
theorem dX6_row_28 : decode cX6_row 28 = .ok (.getfield 7, 3) := by decide +kernel
theorem dX6_row_31 : decode cX6_row 31 = .ok (.iload_n 1, 1) := by decide +kernel
theorem dX6_row_32 : decode cX6_row 32 = .ok (.iload_n 2, 1) := by decide +kernel
theorem dX6_row_33 : decode cX6_row 33 = .ok (.iastore, 1) := by decide +kernel
theorem dX6_row_34 : decode cX6_row 34 = .ok (.iconst 0, 1) := by decide +kernel
theorem dX6_row_35 : decode cX6_row 35 = .ok (.istore_n 3, 1) := by decide +kernel
theorem dX6_row_36 : decode cX6_row 36 = .ok (.iload_n 3, 1) := by decide +kernel
theorem dX6_row_37 : decode cX6_row 37 = .ok (.bipush 40, 2) := by decide +kernel
theorem dX6_row_39 : decode cX6_row 39 = .ok (.if_icmp .ge 21, 3) := by decide +kernel
theorem dX6_row_42 : decode cX6_row 42 = .ok (.aload_n 0, 1) := by decide +kernel
theorem dX6_row_43 : decode cX6_row 43 = .ok (.getfield 13, 3) := by decide +kernel
theorem dX6_row_46 : decode cX6_row 46 = .ok (.bipush 40, 2) := by decide +kernel
theorem dX6_row_48 : decode cX6_row 48 = .ok (.iload_n 1, 1) := by decide +kernel
theorem dX6_row_49 : decode cX6_row 49 = .ok (.imul, 1) := by decide +kernel
theorem dX6_row_50 : decode cX6_row 50 = .ok (.iload_n 3, 1) := by decide +kernel
theorem dX6_row_51 : decode cX6_row 51 = .ok (.iadd, 1) := by decide +kernel
theorem dX6_row_52 : decode cX6_row 52 = .ok (.iconst 0, 1) := by decide +kernel
theorem dX6_row_53 : decode cX6_row 53 = .ok (.iastore, 1) := by decide +kernel
theorem dX6_row_54 : decode cX6_row 54 = .ok (.iinc 3 1, 3) := by decide +kernel
theorem dX6_row_57 : decode cX6_row 57 = .ok (.goto (-21), 3) := by decide +kernel
theorem dX6_row_60 : decode cX6_row 60 = .ok (.iload_n 2, 1) := by decide +kernel
theorem dX6_row_61 : decode cX6_row 61 = .ok (.ireturn, 1) := by decide +kernel
theorem dX6_wrongAt_0 : decode cX6_wrongAt 0 = .ok (.iload_n 1, 1) := by decide +kernel
theorem dX6_wrongAt_1 : decode cX6_wrongAt 1 = .ok (.iconst 0, 1) := by decide +kernel
theorem dX6_wrongAt_2 : decode cX6_wrongAt 2 = .ok (.iconst 5, 1) := by decide +kernel
theorem dX6_wrongAt_3 : decode cX6_wrongAt 3 = .ok (.invokestatic 69, 3) := by decide +kernel
theorem dX6_wrongAt_6 : decode cX6_wrongAt 6 = .ok (.ifCond .ne 5, 3) := by decide +kernel
theorem dX6_wrongAt_9 : decode cX6_wrongAt 9 = .ok (.iconst (-1), 1) := by decide +kernel
theorem dX6_wrongAt_10 : decode cX6_wrongAt 10 = .ok (.ireturn, 1) := by decide +kernel
theorem dX6_wrongAt_11 : decode cX6_wrongAt 11 = .ok (.aload_n 0, 1) := by decide +kernel
theorem dX6_wrongAt_12 : decode cX6_wrongAt 12 = .ok (.getfield 7, 3) := by decide +kernel
theorem dX6_wrongAt_15 : decode cX6_wrongAt 15 = .ok (.iload_n 1, 1) := by decide +kernel
theorem dX6_wrongAt_16 : decode cX6_wrongAt 16 = .ok (.iaload, 1) := by decide +kernel
theorem dX6_wrongAt_17 : decode cX6_wrongAt 17 = .ok (.ifCond .ge 9, 3) := by decide +kernel
theorem dX6_wrongAt_20 : decode cX6_wrongAt 20 = .ok (.aload_n 0, 1) := by decide +kernel
theorem dX6_wrongAt_21 : decode cX6_wrongAt 21 = .ok (.iconst 1, 1) := by decide +kernel
theorem dX6_wrongAt_22 : decode cX6_wrongAt 22 = .ok (.invokevirtual 73, 3) := by decide +kernel
theorem dX6_wrongAt_25 : decode cX6_wrongAt 25 = .ok (.ireturn, 1) := by decide +kernel
theorem dX6_wrongAt_26 : decode cX6_wrongAt 26 = .ok (.iload_n 2, 1) := by decide +kernel
theorem dX6_wrongAt_27 : decode cX6_wrongAt 27 = .ok (.iconst 0, 1) := by decide +kernel
theorem dX6_wrongAt_28 : decode cX6_wrongAt 28 = .ok (.aload_n 0, 1) := by decide +kernel
theorem dX6_wrongAt_29 : decode cX6_wrongAt 29 = .ok (.getfield 7, 3) := by decide +kernel
theorem dX6_wrongAt_32 : decode cX6_wrongAt 32 = .ok (.iload_n 1, 1) := by decide +kernel
theorem dX6_wrongAt_33 : decode cX6_wrongAt 33 = .ok (.iaload, 1) := by decide +kernel
theorem dX6_wrongAt_34 : decode cX6_wrongAt 34 = .ok (.iconst 1, 1) := by decide +kernel
theorem dX6_wrongAt_35 : decode cX6_wrongAt 35 = .ok (.isub, 1) := by decide +kernel
theorem dX6_wrongAt_36 : decode cX6_wrongAt 36 = .ok (.invokestatic 69, 3) := by decide +kernel
theorem dX6_wrongAt_39 : decode cX6_wrongAt 39 = .ok (.ifCond .eq 7, 3) := by decide +kernel
theorem dX6_wrongAt_42 : decode cX6_wrongAt 42 = .ok (.iconst 0, 1) := by decide +kernel
theorem dX6_wrongAt_43 : decode cX6_wrongAt 43 = .ok (.goto 8, 3) := by decide +kernel
theorem dX6_wrongAt_46 : decode cX6_wrongAt 46 = .ok (.aload_n 0, 1) := by decide +kernel
theorem dX6_wrongAt_47 : decode cX6_wrongAt 47 = .ok (.iconst 2, 1) := by decide +kernel
theorem dX6_wrongAt_48 : decode cX6_wrongAt 48 = .ok (.invokevirtual 73, 3) := by decide +kernel
theorem dX6_wrongAt_51 : decode cX6_wrongAt 51 = .ok (.ireturn, 1) := by decide +kernel
theorem dX6_lay_0 : decode cX6_lay 0 = .ok (.aload_n 0, 1) := by decide +kernel
theorem dX6_lay_1 : decode cX6_lay 1 = .ok (.iload_n 1, 1) := by decide +kernel
theorem dX6_lay_2 : decode cX6_lay 2 = .ok (.iload_n 2, 1) := by decide +kernel
theorem dX6_lay_3 : decode cX6_lay 3 = .ok (.invokevirtual 77, 3) := by decide +kernel
theorem dX6_lay_6 : decode cX6_lay 6 = .ok (.istore 4, 2) := by decide +kernel
theorem dX6_lay_8 : decode cX6_lay 8 = .ok (.iload 4, 2) := by decide +kernel
theorem dX6_lay_10 : decode cX6_lay 10 = .ok (.ifCond .eq 6, 3) := by decide +kernel
theorem dX6_lay_13 : decode cX6_lay 13 = .ok (.iload 4, 2) := by decide +kernel
theorem dX6_lay_15 : decode cX6_lay 15 = .ok (.ireturn, 1) := by decide +kernel
theorem dX6_lay_16 : decode cX6_lay 16 = .ok (.aload_n 0, 1) := by decide +kernel
theorem dX6_lay_17 : decode cX6_lay 17 = .ok (.getfield 13, 3) := by decide +kernel
theorem dX6_lay_20 : decode cX6_lay 20 = .ok (.bipush 40, 2) := by decide +kernel
theorem dX6_lay_22 : decode cX6_lay 22 = .ok (.iload_n 1, 1) := by decide +kernel
theorem dX6_lay_23 : decode cX6_lay 23 = .ok (.imul, 1) := by decide +kernel
theorem dX6_lay_24 : decode cX6_lay 24 = .ok (.iload_n 2, 1) := by decide +kernel
theorem dX6_lay_25 : decode cX6_lay 25 = .ok (.iadd, 1) := by decide +kernel
theorem dX6_lay_26 : decode cX6_lay 26 = .ok (.iaload, 1) := by decide +kernel
theorem dX6_lay_27 : decode cX6_lay 27 = .ok (.istore 5, 2) := by decide +kernel
theorem dX6_lay_29 : decode cX6_lay 29 = .ok (.aload_n 0, 1) := by decide +kernel
theorem dX6_lay_30 : decode cX6_lay 30 = .ok (.getfield 13, 3) := by decide +kernel
theorem dX6_lay_33 : decode cX6_lay 33 = .ok (.bipush 40, 2) := by decide +kernel
theorem dX6_lay_35 : decode cX6_lay 35 = .ok (.iload_n 1, 1) := by decide +kernel
theorem dX6_lay_36 : decode cX6_lay 36 = .ok (.imul, 1) := by decide +kernel
theorem dX6_lay_37 : decode cX6_lay 37 = .ok (.iload_n 2, 1) := by decide +kernel
theorem dX6_lay_38 : decode cX6_lay 38 = .ok (.iadd, 1) := by decide +kernel
theorem dX6_lay_39 : decode cX6_lay 39 = .ok (.iload_n 3, 1) := by decide +kernel
theorem dX6_lay_40 : decode cX6_lay 40 = .ok (.iastore, 1) := by decide +kernel
theorem dX6_lay_41 : decode cX6_lay 41 = .ok (.aload_n 0, 1) := by decide +kernel
theorem dX6_lay_42 : decode cX6_lay 42 = .ok (.iload 5, 2) := by decide +kernel
theorem dX6_lay_44 : decode cX6_lay 44 = .ok (.invokevirtual 81, 3) := by decide +kernel
theorem dX6_lay_47 : decode cX6_lay 47 = .ok (.ireturn, 1) := by decide +kernel
theorem dX6_at_0 : decode cX6_at 0 = .ok (.aload_n 0, 1) := by decide +kernel
theorem dX6_at_1 : decode cX6_at 1 = .ok (.iload_n 1, 1) := by decide +kernel
theorem dX6_at_2 : decode cX6_at 2 = .ok (.iload_n 2, 1) := by decide +kernel
theorem dX6_at_3 : decode cX6_at 3 = .ok (.invokevirtual 77, 3) := by decide +kernel
theorem dX6_at_6 : decode cX6_at 6 = .ok (.istore_n 3, 1) := by decide +kernel
theorem dX6_at_7 : decode cX6_at 7 = .ok (.iload_n 3, 1) := by decide +kernel
theorem dX6_at_8 : decode cX6_at 8 = .ok (.ifCond .eq 7, 3) := by decide +kernel
theorem dX6_at_11 : decode cX6_at 11 = .ok (.iload_n 3, 1) := by decide +kernel
theorem dX6_at_12 : decode cX6_at 12 = .ok (.goto 18, 3) := by decide +kernel
theorem dX6_at_15 : decode cX6_at 15 = .ok (.aload_n 0, 1) := by decide +kernel
theorem dX6_at_16 : decode cX6_at 16 = .ok (.aload_n 0, 1) := by decide +kernel
theorem dX6_at_17 : decode cX6_at 17 = .ok (.getfield 13, 3) := by decide +kernel
theorem dX6_at_20 : decode cX6_at 20 = .ok (.bipush 40, 2) := by decide +kernel
theorem dX6_at_22 : decode cX6_at 22 = .ok (.iload_n 1, 1) := by decide +kernel
theorem dX6_at_23 : decode cX6_at 23 = .ok (.imul, 1) := by decide +kernel
theorem dX6_at_24 : decode cX6_at 24 = .ok (.iload_n 2, 1) := by decide +kernel
theorem dX6_at_25 : decode cX6_at 25 = .ok (.iadd, 1) := by decide +kernel
theorem dX6_at_26 : decode cX6_at 26 = .ok (.iaload, 1) := by decide +kernel
theorem dX6_at_27 : decode cX6_at 27 = .ok (.invokevirtual 81, 3) := by decide +kernel
theorem dX6_at_30 : decode cX6_at 30 = .ok (.ireturn, 1) := by decide +kernel
theorem dX6_tear_0 : decode cX6_tear 0 = .ok (.iload_n 1, 1) := by decide +kernel
theorem dX6_tear_1 : decode cX6_tear 1 = .ok (.iconst 0, 1) := by decide +kernel
theorem dX6_tear_2 : decode cX6_tear 2 = .ok (.iconst 5, 1) := by decide +kernel
theorem dX6_tear_3 : decode cX6_tear 3 = .ok (.invokestatic 69, 3) := by decide +kernel
theorem dX6_tear_6 : decode cX6_tear 6 = .ok (.ifCond .ne 5, 3) := by decide +kernel
theorem dX6_tear_9 : decode cX6_tear 9 = .ok (.iconst (-1), 1) := by decide +kernel
theorem dX6_tear_10 : decode cX6_tear 10 = .ok (.ireturn, 1) := by decide +kernel
theorem dX6_tear_11 : decode cX6_tear 11 = .ok (.aload_n 0, 1) := by decide +kernel
theorem dX6_tear_12 : decode cX6_tear 12 = .ok (.getfield 7, 3) := by decide +kernel
theorem dX6_tear_15 : decode cX6_tear 15 = .ok (.iload_n 1, 1) := by decide +kernel
theorem dX6_tear_16 : decode cX6_tear 16 = .ok (.iaload, 1) := by decide +kernel
theorem dX6_tear_17 : decode cX6_tear 17 = .ok (.ifCond .ge 9, 3) := by decide +kernel
theorem dX6_tear_20 : decode cX6_tear 20 = .ok (.aload_n 0, 1) := by decide +kernel
theorem dX6_tear_21 : decode cX6_tear 21 = .ok (.iconst 1, 1) := by decide +kernel
theorem dX6_tear_22 : decode cX6_tear 22 = .ok (.invokevirtual 73, 3) := by decide +kernel
theorem dX6_tear_25 : decode cX6_tear 25 = .ok (.ireturn, 1) := by decide +kernel
theorem dX6_tear_26 : decode cX6_tear 26 = .ok (.aload_n 0, 1) := by decide +kernel
theorem dX6_tear_27 : decode cX6_tear 27 = .ok (.getfield 7, 3) := by decide +kernel
theorem dX6_tear_30 : decode cX6_tear 30 = .ok (.iload_n 1, 1) := by decide +kernel
theorem dX6_tear_31 : decode cX6_tear 31 = .ok (.iconst (-1), 1) := by decide +kernel
theorem dX6_tear_32 : decode cX6_tear 32 = .ok (.iastore, 1) := by decide +kernel
theorem dX6_tear_33 : decode cX6_tear 33 = .ok (.iconst 1, 1) := by decide +kernel
theorem dX6_tear_34 : decode cX6_tear 34 = .ok (.ireturn, 1) := by decide +kernel
theorem dX6_isPart_0 : decode cX6_isPart 0 = .ok (.iload_n 0, 1) := by decide +kernel
theorem dX6_isPart_1 : decode cX6_isPart 1 = .ok (.ifCond .lt 19, 3) := by decide +kernel
theorem dX6_isPart_4 : decode cX6_isPart 4 = .ok (.iload_n 1, 1) := by decide +kernel
theorem dX6_isPart_5 : decode cX6_isPart 5 = .ok (.iload_n 2, 1) := by decide +kernel
theorem dX6_isPart_6 : decode cX6_isPart 6 = .ok (.if_icmp .gt 14, 3) := by decide +kernel
theorem dX6_isPart_9 : decode cX6_isPart 9 = .ok (.iload_n 0, 1) := by decide +kernel
theorem dX6_isPart_10 : decode cX6_isPart 10 = .ok (.iload_n 2, 1) := by decide +kernel
theorem dX6_isPart_11 : decode cX6_isPart 11 = .ok (.iload_n 1, 1) := by decide +kernel
theorem dX6_isPart_12 : decode cX6_isPart 12 = .ok (.isub, 1) := by decide +kernel
theorem dX6_isPart_13 : decode cX6_isPart 13 = .ok (.if_icmp .gt 7, 3) := by decide +kernel
theorem dX6_isPart_16 : decode cX6_isPart 16 = .ok (.iconst 1, 1) := by decide +kernel
theorem dX6_isPart_17 : decode cX6_isPart 17 = .ok (.goto 4, 3) := by decide +kernel
theorem dX6_isPart_20 : decode cX6_isPart 20 = .ok (.iconst 0, 1) := by decide +kernel
theorem dX6_isPart_21 : decode cX6_isPart 21 = .ok (.ireturn, 1) := by decide +kernel
theorem dX6_copy_0 : decode cX6_copy 0 = .ok (.iload_n 1, 1) := by decide +kernel
theorem dX6_copy_1 : decode cX6_copy 1 = .ok (.iconst 0, 1) := by decide +kernel
theorem dX6_copy_2 : decode cX6_copy 2 = .ok (.iconst 5, 1) := by decide +kernel
theorem dX6_copy_3 : decode cX6_copy 3 = .ok (.invokestatic 69, 3) := by decide +kernel
theorem dX6_copy_6 : decode cX6_copy 6 = .ok (.ifCond .eq 12, 3) := by decide +kernel
theorem dX6_copy_9 : decode cX6_copy 9 = .ok (.iload_n 3, 1) := by decide +kernel
theorem dX6_copy_10 : decode cX6_copy 10 = .ok (.iconst 0, 1) := by decide +kernel
theorem dX6_copy_11 : decode cX6_copy 11 = .ok (.iconst 5, 1) := by decide +kernel
theorem dX6_copy_12 : decode cX6_copy 12 = .ok (.invokestatic 69, 3) := by decide +kernel
theorem dX6_copy_15 : decode cX6_copy 15 = .ok (.ifCond .ne 5, 3) := by decide +kernel
theorem dX6_copy_18 : decode cX6_copy 18 = .ok (.iconst (-1), 1) := by decide +kernel
theorem dX6_copy_19 : decode cX6_copy 19 = .ok (.ireturn, 1) := by decide +kernel
theorem dX6_copy_20 : decode cX6_copy 20 = .ok (.iload 5, 2) := by decide +kernel
theorem dX6_copy_22 : decode cX6_copy 22 = .ok (.ifCond .ge 9, 3) := by decide +kernel
theorem dX6_copy_25 : decode cX6_copy 25 = .ok (.aload_n 0, 1) := by decide +kernel
theorem dX6_copy_26 : decode cX6_copy 26 = .ok (.iconst 5, 1) := by decide +kernel
theorem dX6_copy_27 : decode cX6_copy 27 = .ok (.invokevirtual 73, 3) := by decide +kernel
theorem dX6_copy_30 : decode cX6_copy 30 = .ok (.ireturn, 1) := by decide +kernel
theorem dX6_copy_31 : decode cX6_copy 31 = .ok (.aload_n 0, 1) := by decide +kernel
theorem dX6_copy_32 : decode cX6_copy 32 = .ok (.getfield 7, 3) := by decide +kernel
theorem dX6_copy_35 : decode cX6_copy 35 = .ok (.iload_n 1, 1) := by decide +kernel
theorem dX6_copy_36 : decode cX6_copy 36 = .ok (.iaload, 1) := by decide +kernel
theorem dX6_copy_37 : decode cX6_copy 37 = .ok (.ifCond .lt 12, 3) := by decide +kernel
theorem dX6_copy_40 : decode cX6_copy 40 = .ok (.aload_n 0, 1) := by decide +kernel
theorem dX6_copy_41 : decode cX6_copy 41 = .ok (.getfield 7, 3) := by decide +kernel
theorem dX6_copy_44 : decode cX6_copy 44 = .ok (.iload_n 3, 1) := by decide +kernel
theorem dX6_copy_45 : decode cX6_copy 45 = .ok (.iaload, 1) := by decide +kernel
theorem dX6_copy_46 : decode cX6_copy 46 = .ok (.ifCond .ge 9, 3) := by decide +kernel
theorem dX6_copy_49 : decode cX6_copy 49 = .ok (.aload_n 0, 1) := by decide +kernel
theorem dX6_copy_50 : decode cX6_copy 50 = .ok (.iconst 1, 1) := by decide +kernel
theorem dX6_copy_51 : decode cX6_copy 51 = .ok (.invokevirtual 73, 3) := by decide +kernel
theorem dX6_copy_54 : decode cX6_copy 54 = .ok (.ireturn, 1) := by decide +kernel
theorem dX6_copy_55 : decode cX6_copy 55 = .ok (.iload_n 2, 1) := by decide +kernel
theorem dX6_copy_56 : decode cX6_copy 56 = .ok (.iload 5, 2) := by decide +kernel
theorem dX6_copy_58 : decode cX6_copy 58 = .ok (.aload_n 0, 1) := by decide +kernel
theorem dX6_copy_59 : decode cX6_copy 59 = .ok (.getfield 7, 3) := by decide +kernel
theorem dX6_copy_62 : decode cX6_copy 62 = .ok (.iload_n 1, 1) := by decide +kernel
theorem dX6_copy_63 : decode cX6_copy 63 = .ok (.iaload, 1) := by decide +kernel
theorem dX6_copy_64 : decode cX6_copy 64 = .ok (.invokestatic 84, 3) := by decide +kernel
theorem dX6_copy_67 : decode cX6_copy 67 = .ok (.ifCond .eq 19, 3) := by decide +kernel
theorem dX6_copy_70 : decode cX6_copy 70 = .ok (.iload 4, 2) := by decide +kernel
theorem dX6_copy_72 : decode cX6_copy 72 = .ok (.iload 5, 2) := by decide +kernel
theorem dX6_copy_74 : decode cX6_copy 74 = .ok (.aload_n 0, 1) := by decide +kernel
theorem dX6_copy_75 : decode cX6_copy 75 = .ok (.getfield 7, 3) := by decide +kernel
theorem dX6_copy_78 : decode cX6_copy 78 = .ok (.iload_n 3, 1) := by decide +kernel
theorem dX6_copy_79 : decode cX6_copy 79 = .ok (.iaload, 1) := by decide +kernel
theorem dX6_copy_80 : decode cX6_copy 80 = .ok (.invokestatic 84, 3) := by decide +kernel
theorem dX6_copy_83 : decode cX6_copy 83 = .ok (.ifCond .ne 9, 3) := by decide +kernel
theorem dX6_copy_86 : decode cX6_copy 86 = .ok (.aload_n 0, 1) := by decide +kernel
theorem dX6_copy_87 : decode cX6_copy 87 = .ok (.iconst 2, 1) := by decide +kernel
theorem dX6_copy_88 : decode cX6_copy 88 = .ok (.invokevirtual 73, 3) := by decide +kernel
theorem dX6_copy_91 : decode cX6_copy 91 = .ok (.ireturn, 1) := by decide +kernel
theorem dX6_copy_92 : decode cX6_copy 92 = .ok (.iload_n 1, 1) := by decide +kernel
theorem dX6_copy_93 : decode cX6_copy 93 = .ok (.iload_n 3, 1) := by decide +kernel
theorem dX6_copy_94 : decode cX6_copy 94 = .ok (.if_icmp .ne 13, 3) := by decide +kernel
theorem dX6_copy_97 : decode cX6_copy 97 = .ok (.iload 4, 2) := by decide +kernel
theorem dX6_copy_99 : decode cX6_copy 99 = .ok (.iload_n 2, 1) := by decide +kernel
theorem dX6_copy_100 : decode cX6_copy 100 = .ok (.if_icmp .le 7, 3) := by decide +kernel
theorem dX6_copy_103 : decode cX6_copy 103 = .ok (.iconst 1, 1) := by decide +kernel
theorem dX6_copy_104 : decode cX6_copy 104 = .ok (.goto 4, 3) := by decide +kernel
theorem dX6_copy_107 : decode cX6_copy 107 = .ok (.iconst 0, 1) := by decide +kernel
theorem dX6_copy_108 : decode cX6_copy 108 = .ok (.istore 6, 2) := by decide +kernel
theorem dX6_copy_110 : decode cX6_copy 110 = .ok (.iconst 0, 1) := by decide +kernel
theorem dX6_copy_111 : decode cX6_copy 111 = .ok (.istore 7, 2) := by decide +kernel
theorem dX6_copy_113 : decode cX6_copy 113 = .ok (.iload 7, 2) := by decide +kernel
theorem dX6_copy_115 : decode cX6_copy 115 = .ok (.iload 5, 2) := by decide +kernel
theorem dX6_copy_117 : decode cX6_copy 117 = .ok (.if_icmp .ge 57, 3) := by decide +kernel
theorem dX6_copy_120 : decode cX6_copy 120 = .ok (.iload 6, 2) := by decide +kernel
theorem dX6_copy_122 : decode cX6_copy 122 = .ok (.ifCond .eq 13, 3) := by decide +kernel
theorem dX6_copy_125 : decode cX6_copy 125 = .ok (.iload 5, 2) := by decide +kernel
theorem dX6_copy_127 : decode cX6_copy 127 = .ok (.iconst 1, 1) := by decide +kernel
theorem dX6_copy_128 : decode cX6_copy 128 = .ok (.isub, 1) := by decide +kernel
theorem dX6_copy_129 : decode cX6_copy 129 = .ok (.iload 7, 2) := by decide +kernel
theorem dX6_copy_131 : decode cX6_copy 131 = .ok (.isub, 1) := by decide +kernel
theorem dX6_copy_132 : decode cX6_copy 132 = .ok (.goto 5, 3) := by decide +kernel
theorem dX6_copy_135 : decode cX6_copy 135 = .ok (.iload 7, 2) := by decide +kernel
theorem dX6_copy_137 : decode cX6_copy 137 = .ok (.istore 8, 2) := by decide +kernel
theorem dX6_copy_139 : decode cX6_copy 139 = .ok (.aload_n 0, 1) := by decide +kernel
theorem dX6_copy_140 : decode cX6_copy 140 = .ok (.getfield 13, 3) := by decide +kernel
theorem dX6_copy_143 : decode cX6_copy 143 = .ok (.bipush 40, 2) := by decide +kernel
theorem dX6_copy_145 : decode cX6_copy 145 = .ok (.iload_n 3, 1) := by decide +kernel
theorem dX6_copy_146 : decode cX6_copy 146 = .ok (.imul, 1) := by decide +kernel
theorem dX6_copy_147 : decode cX6_copy 147 = .ok (.iload 4, 2) := by decide +kernel
theorem dX6_copy_149 : decode cX6_copy 149 = .ok (.iadd, 1) := by decide +kernel
theorem dX6_copy_150 : decode cX6_copy 150 = .ok (.iload 8, 2) := by decide +kernel
theorem dX6_copy_152 : decode cX6_copy 152 = .ok (.iadd, 1) := by decide +kernel
theorem dX6_copy_153 : decode cX6_copy 153 = .ok (.aload_n 0, 1) := by decide +kernel
theorem dX6_copy_154 : decode cX6_copy 154 = .ok (.getfield 13, 3) := by decide +kernel
theorem dX6_copy_157 : decode cX6_copy 157 = .ok (.bipush 40, 2) := by decide +kernel
theorem dX6_copy_159 : decode cX6_copy 159 = .ok (.iload_n 1, 1) := by decide +kernel
theorem dX6_copy_160 : decode cX6_copy 160 = .ok (.imul, 1) := by decide +kernel
theorem dX6_copy_161 : decode cX6_copy 161 = .ok (.iload_n 2, 1) := by decide +kernel
theorem dX6_copy_162 : decode cX6_copy 162 = .ok (.iadd, 1) := by decide +kernel
theorem dX6_copy_163 : decode cX6_copy 163 = .ok (.iload 8, 2) := by decide +kernel
theorem dX6_copy_165 : decode cX6_copy 165 = .ok (.iadd, 1) := by decide +kernel
theorem dX6_copy_166 : decode cX6_copy 166 = .ok (.iaload, 1) := by decide +kernel
theorem dX6_copy_167 : decode cX6_copy 167 = .ok (.iastore, 1) := by decide +kernel
theorem dX6_copy_168 : decode cX6_copy 168 = .ok (.iinc 7 1, 3) := by decide +kernel
theorem dX6_copy_171 : decode cX6_copy 171 = .ok (.goto (-58), 3) := by decide +kernel
theorem dX6_copy_174 : decode cX6_copy 174 = .ok (.iconst 1, 1) := by decide +kernel
theorem dX6_copy_175 : decode cX6_copy 175 = .ok (.ireturn, 1) := by decide +kernel
theorem dX6_mean_0 : decode cX6_mean 0 = .ok (.iload_n 1, 1) := by decide +kernel
theorem dX6_mean_1 : decode cX6_mean 1 = .ok (.iconst 0, 1) := by decide +kernel
theorem dX6_mean_2 : decode cX6_mean 2 = .ok (.iconst 5, 1) := by decide +kernel
theorem dX6_mean_3 : decode cX6_mean 3 = .ok (.invokestatic 69, 3) := by decide +kernel
theorem dX6_mean_6 : decode cX6_mean 6 = .ok (.ifCond .ne 5, 3) := by decide +kernel
theorem dX6_mean_9 : decode cX6_mean 9 = .ok (.iconst (-1), 1) := by decide +kernel
theorem dX6_mean_10 : decode cX6_mean 10 = .ok (.ireturn, 1) := by decide +kernel
theorem dX6_mean_11 : decode cX6_mean 11 = .ok (.aload_n 0, 1) := by decide +kernel
theorem dX6_mean_12 : decode cX6_mean 12 = .ok (.getfield 7, 3) := by decide +kernel
theorem dX6_mean_15 : decode cX6_mean 15 = .ok (.iload_n 1, 1) := by decide +kernel
theorem dX6_mean_16 : decode cX6_mean 16 = .ok (.iaload, 1) := by decide +kernel
theorem dX6_mean_17 : decode cX6_mean 17 = .ok (.ifCond .ge 9, 3) := by decide +kernel
theorem dX6_mean_20 : decode cX6_mean 20 = .ok (.aload_n 0, 1) := by decide +kernel
theorem dX6_mean_21 : decode cX6_mean 21 = .ok (.iconst 1, 1) := by decide +kernel
theorem dX6_mean_22 : decode cX6_mean 22 = .ok (.invokevirtual 73, 3) := by decide +kernel
theorem dX6_mean_25 : decode cX6_mean 25 = .ok (.ireturn, 1) := by decide +kernel
theorem dX6_mean_26 : decode cX6_mean 26 = .ok (.aload_n 0, 1) := by decide +kernel
theorem dX6_mean_27 : decode cX6_mean 27 = .ok (.getfield 7, 3) := by decide +kernel
theorem dX6_mean_30 : decode cX6_mean 30 = .ok (.iload_n 1, 1) := by decide +kernel
theorem dX6_mean_31 : decode cX6_mean 31 = .ok (.iaload, 1) := by decide +kernel
theorem dX6_mean_32 : decode cX6_mean 32 = .ok (.ifCond .ne 9, 3) := by decide +kernel
theorem dX6_mean_35 : decode cX6_mean 35 = .ok (.aload_n 0, 1) := by decide +kernel
theorem dX6_mean_36 : decode cX6_mean 36 = .ok (.iconst 4, 1) := by decide +kernel
theorem dX6_mean_37 : decode cX6_mean 37 = .ok (.invokevirtual 73, 3) := by decide +kernel
theorem dX6_mean_40 : decode cX6_mean 40 = .ok (.ireturn, 1) := by decide +kernel
theorem dX6_mean_41 : decode cX6_mean 41 = .ok (.lconst 0, 1) := by decide +kernel
theorem dX6_mean_42 : decode cX6_mean 42 = .ok (.lstore_n 2, 1) := by decide +kernel
theorem dX6_mean_43 : decode cX6_mean 43 = .ok (.iconst 0, 1) := by decide +kernel
theorem dX6_mean_44 : decode cX6_mean 44 = .ok (.istore 4, 2) := by decide +kernel
theorem dX6_mean_46 : decode cX6_mean 46 = .ok (.iload 4, 2) := by decide +kernel
theorem dX6_mean_48 : decode cX6_mean 48 = .ok (.aload_n 0, 1) := by decide +kernel
theorem dX6_mean_49 : decode cX6_mean 49 = .ok (.getfield 7, 3) := by decide +kernel
theorem dX6_mean_52 : decode cX6_mean 52 = .ok (.iload_n 1, 1) := by decide +kernel
theorem dX6_mean_53 : decode cX6_mean 53 = .ok (.iaload, 1) := by decide +kernel
theorem dX6_mean_54 : decode cX6_mean 54 = .ok (.if_icmp .ge 25, 3) := by decide +kernel
theorem dX6_mean_57 : decode cX6_mean 57 = .ok (.lload_n 2, 1) := by decide +kernel
theorem dX6_mean_58 : decode cX6_mean 58 = .ok (.aload_n 0, 1) := by decide +kernel
theorem dX6_mean_59 : decode cX6_mean 59 = .ok (.getfield 13, 3) := by decide +kernel
theorem dX6_mean_62 : decode cX6_mean 62 = .ok (.bipush 40, 2) := by decide +kernel
theorem dX6_mean_64 : decode cX6_mean 64 = .ok (.iload_n 1, 1) := by decide +kernel
theorem dX6_mean_65 : decode cX6_mean 65 = .ok (.imul, 1) := by decide +kernel
theorem dX6_mean_66 : decode cX6_mean 66 = .ok (.iload 4, 2) := by decide +kernel
theorem dX6_mean_68 : decode cX6_mean 68 = .ok (.iadd, 1) := by decide +kernel
theorem dX6_mean_69 : decode cX6_mean 69 = .ok (.iaload, 1) := by decide +kernel
theorem dX6_mean_70 : decode cX6_mean 70 = .ok (.i2l, 1) := by decide +kernel
theorem dX6_mean_71 : decode cX6_mean 71 = .ok (.ladd, 1) := by decide +kernel
theorem dX6_mean_72 : decode cX6_mean 72 = .ok (.lstore_n 2, 1) := by decide +kernel
theorem dX6_mean_73 : decode cX6_mean 73 = .ok (.iinc 4 1, 3) := by decide +kernel
theorem dX6_mean_76 : decode cX6_mean 76 = .ok (.goto (-30), 3) := by decide +kernel
theorem dX6_mean_79 : decode cX6_mean 79 = .ok (.aload_n 0, 1) := by decide +kernel
theorem dX6_mean_80 : decode cX6_mean 80 = .ok (.lload_n 2, 1) := by decide +kernel
theorem dX6_mean_81 : decode cX6_mean 81 = .ok (.aload_n 0, 1) := by decide +kernel
theorem dX6_mean_82 : decode cX6_mean 82 = .ok (.getfield 7, 3) := by decide +kernel
theorem dX6_mean_85 : decode cX6_mean 85 = .ok (.iload_n 1, 1) := by decide +kernel
theorem dX6_mean_86 : decode cX6_mean 86 = .ok (.iaload, 1) := by decide +kernel
theorem dX6_mean_87 : decode cX6_mean 87 = .ok (.i2l, 1) := by decide +kernel
theorem dX6_mean_88 : decode cX6_mean 88 = .ok (.ldiv, 1) := by decide +kernel
theorem dX6_mean_89 : decode cX6_mean 89 = .ok (.l2i, 1) := by decide +kernel
theorem dX6_mean_90 : decode cX6_mean 90 = .ok (.invokevirtual 81, 3) := by decide +kernel
theorem dX6_mean_93 : decode cX6_mean 93 = .ok (.ireturn, 1) := by decide +kernel
theorem dX6_text_0 : decode cX6_text 0 = .ok (.iload_n 1, 1) := by decide +kernel
theorem dX6_text_1 : decode cX6_text 1 = .ok (.iconst 0, 1) := by decide +kernel
theorem dX6_text_2 : decode cX6_text 2 = .ok (.iconst 3, 1) := by decide +kernel
theorem dX6_text_3 : decode cX6_text 3 = .ok (.invokestatic 69, 3) := by decide +kernel
theorem dX6_text_6 : decode cX6_text 6 = .ok (.ifCond .eq 9, 3) := by decide +kernel
theorem dX6_text_9 : decode cX6_text 9 = .ok (.iload_n 2, 1) := by decide +kernel
theorem dX6_text_10 : decode cX6_text 10 = .ok (.bipush 60, 2) := by decide +kernel
theorem dX6_text_12 : decode cX6_text 12 = .ok (.if_icmp .le 5, 3) := by decide +kernel
theorem dX6_text_15 : decode cX6_text 15 = .ok (.iconst (-1), 1) := by decide +kernel
theorem dX6_text_16 : decode cX6_text 16 = .ok (.ireturn, 1) := by decide +kernel
theorem dX6_text_17 : decode cX6_text 17 = .ok (.iload_n 2, 1) := by decide +kernel
theorem dX6_text_18 : decode cX6_text 18 = .ok (.ifCond .ge 9, 3) := by decide +kernel
theorem dX6_text_21 : decode cX6_text 21 = .ok (.aload_n 0, 1) := by decide +kernel
theorem dX6_text_22 : decode cX6_text 22 = .ok (.iconst 5, 1) := by decide +kernel
theorem dX6_text_23 : decode cX6_text 23 = .ok (.invokevirtual 73, 3) := by decide +kernel
theorem dX6_text_26 : decode cX6_text 26 = .ok (.ireturn, 1) := by decide +kernel
theorem dX6_text_27 : decode cX6_text 27 = .ok (.aload_n 0, 1) := by decide +kernel
theorem dX6_text_28 : decode cX6_text 28 = .ok (.getfield 16, 3) := by decide +kernel
theorem dX6_text_31 : decode cX6_text 31 = .ok (.iload_n 1, 1) := by decide +kernel
theorem dX6_text_32 : decode cX6_text 32 = .ok (.iload_n 2, 1) := by decide +kernel
theorem dX6_text_33 : decode cX6_text 33 = .ok (.iastore, 1) := by decide +kernel
theorem dX6_text_34 : decode cX6_text 34 = .ok (.iconst 0, 1) := by decide +kernel
theorem dX6_text_35 : decode cX6_text 35 = .ok (.istore_n 3, 1) := by decide +kernel
theorem dX6_text_36 : decode cX6_text 36 = .ok (.iload_n 3, 1) := by decide +kernel
theorem dX6_text_37 : decode cX6_text 37 = .ok (.bipush 60, 2) := by decide +kernel
theorem dX6_text_39 : decode cX6_text 39 = .ok (.if_icmp .ge 22, 3) := by decide +kernel
theorem dX6_text_42 : decode cX6_text 42 = .ok (.aload_n 0, 1) := by decide +kernel
theorem dX6_text_43 : decode cX6_text 43 = .ok (.getfield 19, 3) := by decide +kernel
theorem dX6_text_46 : decode cX6_text 46 = .ok (.bipush 60, 2) := by decide +kernel
theorem dX6_text_48 : decode cX6_text 48 = .ok (.iload_n 1, 1) := by decide +kernel
theorem dX6_text_49 : decode cX6_text 49 = .ok (.imul, 1) := by decide +kernel
theorem dX6_text_50 : decode cX6_text 50 = .ok (.iload_n 3, 1) := by decide +kernel
theorem dX6_text_51 : decode cX6_text 51 = .ok (.iadd, 1) := by decide +kernel
theorem dX6_text_52 : decode cX6_text 52 = .ok (.bipush 32, 2) := by decide +kernel
theorem dX6_text_54 : decode cX6_text 54 = .ok (.iastore, 1) := by decide +kernel
theorem dX6_text_55 : decode cX6_text 55 = .ok (.iinc 3 1, 3) := by decide +kernel
theorem dX6_text_58 : decode cX6_text 58 = .ok (.goto (-22), 3) := by decide +kernel
theorem dX6_text_61 : decode cX6_text 61 = .ok (.iload_n 2, 1) := by decide +kernel
theorem dX6_text_62 : decode cX6_text 62 = .ok (.ireturn, 1) := by decide +kernel
theorem dX6_put_0 : decode cX6_put 0 = .ok (.iload_n 1, 1) := by decide +kernel
theorem dX6_put_1 : decode cX6_put 1 = .ok (.iconst 0, 1) := by decide +kernel
theorem dX6_put_2 : decode cX6_put 2 = .ok (.iconst 3, 1) := by decide +kernel
theorem dX6_put_3 : decode cX6_put 3 = .ok (.invokestatic 69, 3) := by decide +kernel
theorem dX6_put_6 : decode cX6_put 6 = .ok (.ifCond .ne 5, 3) := by decide +kernel
theorem dX6_put_9 : decode cX6_put 9 = .ok (.iconst (-1), 1) := by decide +kernel
theorem dX6_put_10 : decode cX6_put 10 = .ok (.ireturn, 1) := by decide +kernel
theorem dX6_put_11 : decode cX6_put 11 = .ok (.aload_n 0, 1) := by decide +kernel
theorem dX6_put_12 : decode cX6_put 12 = .ok (.getfield 16, 3) := by decide +kernel
theorem dX6_put_15 : decode cX6_put 15 = .ok (.iload_n 1, 1) := by decide +kernel
theorem dX6_put_16 : decode cX6_put 16 = .ok (.iaload, 1) := by decide +kernel
theorem dX6_put_17 : decode cX6_put 17 = .ok (.ifCond .ge 9, 3) := by decide +kernel
theorem dX6_put_20 : decode cX6_put 20 = .ok (.aload_n 0, 1) := by decide +kernel
theorem dX6_put_21 : decode cX6_put 21 = .ok (.iconst 1, 1) := by decide +kernel
theorem dX6_put_22 : decode cX6_put 22 = .ok (.invokevirtual 73, 3) := by decide +kernel
theorem dX6_put_25 : decode cX6_put 25 = .ok (.ireturn, 1) := by decide +kernel
theorem dX6_put_26 : decode cX6_put 26 = .ok (.iload_n 2, 1) := by decide +kernel
theorem dX6_put_27 : decode cX6_put 27 = .ok (.iconst 0, 1) := by decide +kernel
theorem dX6_put_28 : decode cX6_put 28 = .ok (.aload_n 0, 1) := by decide +kernel
theorem dX6_put_29 : decode cX6_put 29 = .ok (.getfield 16, 3) := by decide +kernel
theorem dX6_put_32 : decode cX6_put 32 = .ok (.iload_n 1, 1) := by decide +kernel
theorem dX6_put_33 : decode cX6_put 33 = .ok (.iaload, 1) := by decide +kernel
theorem dX6_put_34 : decode cX6_put 34 = .ok (.iconst 1, 1) := by decide +kernel
theorem dX6_put_35 : decode cX6_put 35 = .ok (.isub, 1) := by decide +kernel
theorem dX6_put_36 : decode cX6_put 36 = .ok (.invokestatic 69, 3) := by decide +kernel
theorem dX6_put_39 : decode cX6_put 39 = .ok (.ifCond .ne 9, 3) := by decide +kernel
theorem dX6_put_42 : decode cX6_put 42 = .ok (.aload_n 0, 1) := by decide +kernel
theorem dX6_put_43 : decode cX6_put 43 = .ok (.iconst 2, 1) := by decide +kernel
theorem dX6_put_44 : decode cX6_put 44 = .ok (.invokevirtual 73, 3) := by decide +kernel
theorem dX6_put_47 : decode cX6_put 47 = .ok (.ireturn, 1) := by decide +kernel
theorem dX6_put_48 : decode cX6_put 48 = .ok (.aload_n 0, 1) := by decide +kernel
theorem dX6_put_49 : decode cX6_put 49 = .ok (.getfield 19, 3) := by decide +kernel
theorem dX6_put_52 : decode cX6_put 52 = .ok (.bipush 60, 2) := by decide +kernel
theorem dX6_put_54 : decode cX6_put 54 = .ok (.iload_n 1, 1) := by decide +kernel
theorem dX6_put_55 : decode cX6_put 55 = .ok (.imul, 1) := by decide +kernel
theorem dX6_put_56 : decode cX6_put 56 = .ok (.iload_n 2, 1) := by decide +kernel
theorem dX6_put_57 : decode cX6_put 57 = .ok (.iadd, 1) := by decide +kernel
theorem dX6_put_58 : decode cX6_put 58 = .ok (.iaload, 1) := by decide +kernel
theorem dX6_put_59 : decode cX6_put 59 = .ok (.istore 4, 2) := by decide +kernel
theorem dX6_put_61 : decode cX6_put 61 = .ok (.aload_n 0, 1) := by decide +kernel
theorem dX6_put_62 : decode cX6_put 62 = .ok (.getfield 19, 3) := by decide +kernel
theorem dX6_put_65 : decode cX6_put 65 = .ok (.bipush 60, 2) := by decide +kernel
theorem dX6_put_67 : decode cX6_put 67 = .ok (.iload_n 1, 1) := by decide +kernel
theorem dX6_put_68 : decode cX6_put 68 = .ok (.imul, 1) := by decide +kernel
theorem dX6_put_69 : decode cX6_put 69 = .ok (.iload_n 2, 1) := by decide +kernel
theorem dX6_put_70 : decode cX6_put 70 = .ok (.iadd, 1) := by decide +kernel
theorem dX6_put_71 : decode cX6_put 71 = .ok (.iload_n 3, 1) := by decide +kernel
theorem dX6_put_72 : decode cX6_put 72 = .ok (.i2b, 1) := by decide +kernel
theorem dX6_put_73 : decode cX6_put 73 = .ok (.iastore, 1) := by decide +kernel
theorem dX6_put_74 : decode cX6_put 74 = .ok (.iload 4, 2) := by decide +kernel
theorem dX6_put_76 : decode cX6_put 76 = .ok (.sipush 1000, 3) := by decide +kernel
theorem dX6_put_79 : decode cX6_put 79 = .ok (.iadd, 1) := by decide +kernel
theorem dX6_put_80 : decode cX6_put 80 = .ok (.ireturn, 1) := by decide +kernel
theorem dX6_letterAt_0 : decode cX6_letterAt 0 = .ok (.iload_n 1, 1) := by decide +kernel
theorem dX6_letterAt_1 : decode cX6_letterAt 1 = .ok (.aload_n 0, 1) := by decide +kernel
theorem dX6_letterAt_2 : decode cX6_letterAt 2 = .ok (.getfield 87, 3) := by decide +kernel
theorem dX6_letterAt_5 : decode cX6_letterAt 5 = .ok (.if_icmp .ge 17, 3) := by decide +kernel
theorem dX6_letterAt_8 : decode cX6_letterAt 8 = .ok (.aload_n 0, 1) := by decide +kernel
theorem dX6_letterAt_9 : decode cX6_letterAt 9 = .ok (.getfield 19, 3) := by decide +kernel
theorem dX6_letterAt_12 : decode cX6_letterAt 12 = .ok (.aload_n 0, 1) := by decide +kernel
theorem dX6_letterAt_13 : decode cX6_letterAt 13 = .ok (.getfield 90, 3) := by decide +kernel
theorem dX6_letterAt_16 : decode cX6_letterAt 16 = .ok (.iload_n 1, 1) := by decide +kernel
theorem dX6_letterAt_17 : decode cX6_letterAt 17 = .ok (.iadd, 1) := by decide +kernel
theorem dX6_letterAt_18 : decode cX6_letterAt 18 = .ok (.iaload, 1) := by decide +kernel
theorem dX6_letterAt_19 : decode cX6_letterAt 19 = .ok (.goto 6, 3) := by decide +kernel
theorem dX6_letterAt_22 : decode cX6_letterAt 22 = .ok (.sipush (-1000), 3) := by decide +kernel
theorem dX6_letterAt_25 : decode cX6_letterAt 25 = .ok (.ireturn, 1) := by decide +kernel
theorem dX6_figure_0 : decode cX6_figure 0 = .ok (.aload_n 0, 1) := by decide +kernel
theorem dX6_figure_1 : decode cX6_figure 1 = .ok (.aload_n 0, 1) := by decide +kernel
theorem dX6_figure_2 : decode cX6_figure 2 = .ok (.getfield 93, 3) := by decide +kernel
theorem dX6_figure_5 : decode cX6_figure 5 = .ok (.invokevirtual 96, 3) := by decide +kernel
theorem dX6_figure_8 : decode cX6_figure 8 = .ok (.bipush 48, 2) := by decide +kernel
theorem dX6_figure_10 : decode cX6_figure 10 = .ok (.isub, 1) := by decide +kernel
theorem dX6_figure_11 : decode cX6_figure 11 = .ok (.istore_n 3, 1) := by decide +kernel
theorem dX6_figure_12 : decode cX6_figure 12 = .ok (.iload_n 3, 1) := by decide +kernel
theorem dX6_figure_13 : decode cX6_figure 13 = .ok (.iload_n 1, 1) := by decide +kernel
theorem dX6_figure_14 : decode cX6_figure 14 = .ok (.iload_n 2, 1) := by decide +kernel
theorem dX6_figure_15 : decode cX6_figure 15 = .ok (.invokestatic 69, 3) := by decide +kernel
theorem dX6_figure_18 : decode cX6_figure 18 = .ok (.ifCond .ne 5, 3) := by decide +kernel
theorem dX6_figure_21 : decode cX6_figure 21 = .ok (.iconst (-1), 1) := by decide +kernel
theorem dX6_figure_22 : decode cX6_figure 22 = .ok (.ireturn, 1) := by decide +kernel
theorem dX6_figure_23 : decode cX6_figure 23 = .ok (.aload_n 0, 1) := by decide +kernel
theorem dX6_figure_24 : decode cX6_figure 24 = .ok (.dup, 1) := by decide +kernel
theorem dX6_figure_25 : decode cX6_figure 25 = .ok (.getfield 93, 3) := by decide +kernel
theorem dX6_figure_28 : decode cX6_figure 28 = .ok (.iconst 1, 1) := by decide +kernel
theorem dX6_figure_29 : decode cX6_figure 29 = .ok (.iadd, 1) := by decide +kernel
theorem dX6_figure_30 : decode cX6_figure 30 = .ok (.putfield 93, 3) := by decide +kernel
theorem dX6_figure_33 : decode cX6_figure 33 = .ok (.iload_n 3, 1) := by decide +kernel
theorem dX6_figure_34 : decode cX6_figure 34 = .ok (.ireturn, 1) := by decide +kernel
theorem dX6_skip_0 : decode cX6_skip 0 = .ok (.aload_n 0, 1) := by decide +kernel
theorem dX6_skip_1 : decode cX6_skip 1 = .ok (.aload_n 0, 1) := by decide +kernel
theorem dX6_skip_2 : decode cX6_skip 2 = .ok (.getfield 93, 3) := by decide +kernel
theorem dX6_skip_5 : decode cX6_skip 5 = .ok (.invokevirtual 96, 3) := by decide +kernel
theorem dX6_skip_8 : decode cX6_skip 8 = .ok (.bipush 32, 2) := by decide +kernel
theorem dX6_skip_10 : decode cX6_skip 10 = .ok (.if_icmp .ne 16, 3) := by decide +kernel
theorem dX6_skip_13 : decode cX6_skip 13 = .ok (.aload_n 0, 1) := by decide +kernel
theorem dX6_skip_14 : decode cX6_skip 14 = .ok (.dup, 1) := by decide +kernel
theorem dX6_skip_15 : decode cX6_skip 15 = .ok (.getfield 93, 3) := by decide +kernel
theorem dX6_skip_18 : decode cX6_skip 18 = .ok (.iconst 1, 1) := by decide +kernel
theorem dX6_skip_19 : decode cX6_skip 19 = .ok (.iadd, 1) := by decide +kernel
theorem dX6_skip_20 : decode cX6_skip 20 = .ok (.putfield 93, 3) := by decide +kernel
theorem dX6_skip_23 : decode cX6_skip 23 = .ok (.goto (-23), 3) := by decide +kernel
theorem dX6_skip_26 : decode cX6_skip 26 = .ok (.return_, 1) := by decide +kernel
theorem dX6_sortBy_0 : decode cX6_sortBy 0 = .ok (.iload_n 0, 1) := by decide +kernel
theorem dX6_sortBy_1 : decode cX6_sortBy 1 = .ok (.bipush 104, 2) := by decide +kernel
theorem dX6_sortBy_3 : decode cX6_sortBy 3 = .ok (.if_icmp .ne 7, 3) := by decide +kernel
theorem dX6_sortBy_6 : decode cX6_sortBy 6 = .ok (.iconst 0, 1) := by decide +kernel
theorem dX6_sortBy_7 : decode cX6_sortBy 7 = .ok (.goto 54, 3) := by decide +kernel
theorem dX6_sortBy_10 : decode cX6_sortBy 10 = .ok (.iload_n 0, 1) := by decide +kernel
theorem dX6_sortBy_11 : decode cX6_sortBy 11 = .ok (.bipush 118, 2) := by decide +kernel
theorem dX6_sortBy_13 : decode cX6_sortBy 13 = .ok (.if_icmp .ne 7, 3) := by decide +kernel
theorem dX6_sortBy_16 : decode cX6_sortBy 16 = .ok (.iconst 1, 1) := by decide +kernel
theorem dX6_sortBy_17 : decode cX6_sortBy 17 = .ok (.goto 44, 3) := by decide +kernel
theorem dX6_sortBy_20 : decode cX6_sortBy 20 = .ok (.iload_n 0, 1) := by decide +kernel
theorem dX6_sortBy_21 : decode cX6_sortBy 21 = .ok (.bipush 114, 2) := by decide +kernel
theorem dX6_sortBy_23 : decode cX6_sortBy 23 = .ok (.if_icmp .ne 7, 3) := by decide +kernel
theorem dX6_sortBy_26 : decode cX6_sortBy 26 = .ok (.iconst 2, 1) := by decide +kernel
theorem dX6_sortBy_27 : decode cX6_sortBy 27 = .ok (.goto 34, 3) := by decide +kernel
theorem dX6_sortBy_30 : decode cX6_sortBy 30 = .ok (.iload_n 0, 1) := by decide +kernel
theorem dX6_sortBy_31 : decode cX6_sortBy 31 = .ok (.bipush 100, 2) := by decide +kernel
theorem dX6_sortBy_33 : decode cX6_sortBy 33 = .ok (.if_icmp .ne 7, 3) := by decide +kernel
theorem dX6_sortBy_36 : decode cX6_sortBy 36 = .ok (.iconst 3, 1) := by decide +kernel
theorem dX6_sortBy_37 : decode cX6_sortBy 37 = .ok (.goto 24, 3) := by decide +kernel
theorem dX6_sortBy_40 : decode cX6_sortBy 40 = .ok (.iload_n 0, 1) := by decide +kernel
theorem dX6_sortBy_41 : decode cX6_sortBy 41 = .ok (.bipush 105, 2) := by decide +kernel
theorem dX6_sortBy_43 : decode cX6_sortBy 43 = .ok (.if_icmp .ne 7, 3) := by decide +kernel
theorem dX6_sortBy_46 : decode cX6_sortBy 46 = .ok (.iconst 4, 1) := by decide +kernel
theorem dX6_sortBy_47 : decode cX6_sortBy 47 = .ok (.goto 14, 3) := by decide +kernel
theorem dX6_sortBy_50 : decode cX6_sortBy 50 = .ok (.iload_n 0, 1) := by decide +kernel
theorem dX6_sortBy_51 : decode cX6_sortBy 51 = .ok (.bipush 109, 2) := by decide +kernel
theorem dX6_sortBy_53 : decode cX6_sortBy 53 = .ok (.if_icmp .ne 7, 3) := by decide +kernel
theorem dX6_sortBy_56 : decode cX6_sortBy 56 = .ok (.iconst 5, 1) := by decide +kernel
theorem dX6_sortBy_57 : decode cX6_sortBy 57 = .ok (.goto 4, 3) := by decide +kernel
theorem dX6_sortBy_60 : decode cX6_sortBy 60 = .ok (.iconst (-1), 1) := by decide +kernel
theorem dX6_sortBy_61 : decode cX6_sortBy 61 = .ok (.ireturn, 1) := by decide +kernel
theorem dX6_twoFigures_0 : decode cX6_twoFigures 0 = .ok (.aload_n 0, 1) := by decide +kernel
theorem dX6_twoFigures_1 : decode cX6_twoFigures 1 = .ok (.iconst 0, 1) := by decide +kernel
theorem dX6_twoFigures_2 : decode cX6_twoFigures 2 = .ok (.bipush 9, 2) := by decide +kernel
theorem dX6_twoFigures_4 : decode cX6_twoFigures 4 = .ok (.invokevirtual 99, 3) := by decide +kernel
theorem dX6_twoFigures_7 : decode cX6_twoFigures 7 = .ok (.istore_n 1, 1) := by decide +kernel
theorem dX6_twoFigures_8 : decode cX6_twoFigures 8 = .ok (.iload_n 1, 1) := by decide +kernel
theorem dX6_twoFigures_9 : decode cX6_twoFigures 9 = .ok (.ifCond .ge 5, 3) := by decide +kernel
theorem dX6_twoFigures_12 : decode cX6_twoFigures 12 = .ok (.iconst (-1), 1) := by decide +kernel
theorem dX6_twoFigures_13 : decode cX6_twoFigures 13 = .ok (.ireturn, 1) := by decide +kernel
theorem dX6_twoFigures_14 : decode cX6_twoFigures 14 = .ok (.aload_n 0, 1) := by decide +kernel
theorem dX6_twoFigures_15 : decode cX6_twoFigures 15 = .ok (.iconst 0, 1) := by decide +kernel
theorem dX6_twoFigures_16 : decode cX6_twoFigures 16 = .ok (.bipush 9, 2) := by decide +kernel
theorem dX6_twoFigures_18 : decode cX6_twoFigures 18 = .ok (.invokevirtual 99, 3) := by decide +kernel
theorem dX6_twoFigures_21 : decode cX6_twoFigures 21 = .ok (.istore_n 2, 1) := by decide +kernel
theorem dX6_twoFigures_22 : decode cX6_twoFigures 22 = .ok (.iload_n 2, 1) := by decide +kernel
theorem dX6_twoFigures_23 : decode cX6_twoFigures 23 = .ok (.ifCond .ge 7, 3) := by decide +kernel
theorem dX6_twoFigures_26 : decode cX6_twoFigures 26 = .ok (.iconst (-1), 1) := by decide +kernel
theorem dX6_twoFigures_27 : decode cX6_twoFigures 27 = .ok (.goto 9, 3) := by decide +kernel
theorem dX6_twoFigures_30 : decode cX6_twoFigures 30 = .ok (.bipush 10, 2) := by decide +kernel
theorem dX6_twoFigures_32 : decode cX6_twoFigures 32 = .ok (.iload_n 1, 1) := by decide +kernel
theorem dX6_twoFigures_33 : decode cX6_twoFigures 33 = .ok (.imul, 1) := by decide +kernel
theorem dX6_twoFigures_34 : decode cX6_twoFigures 34 = .ok (.iload_n 2, 1) := by decide +kernel
theorem dX6_twoFigures_35 : decode cX6_twoFigures 35 = .ok (.iadd, 1) := by decide +kernel
theorem dX6_twoFigures_36 : decode cX6_twoFigures 36 = .ok (.ireturn, 1) := by decide +kernel
theorem dX6_isStreet_0 : decode cX6_isStreet 0 = .ok (.aload_n 0, 1) := by decide +kernel
theorem dX6_isStreet_1 : decode cX6_isStreet 1 = .ok (.aload_n 0, 1) := by decide +kernel
theorem dX6_isStreet_2 : decode cX6_isStreet 2 = .ok (.getfield 93, 3) := by decide +kernel
theorem dX6_isStreet_5 : decode cX6_isStreet 5 = .ok (.invokevirtual 96, 3) := by decide +kernel
theorem dX6_isStreet_8 : decode cX6_isStreet 8 = .ok (.bipush 115, 2) := by decide +kernel
theorem dX6_isStreet_10 : decode cX6_isStreet 10 = .ok (.if_icmp .eq 5, 3) := by decide +kernel
theorem dX6_isStreet_13 : decode cX6_isStreet 13 = .ok (.iconst 0, 1) := by decide +kernel
theorem dX6_isStreet_14 : decode cX6_isStreet 14 = .ok (.ireturn, 1) := by decide +kernel
theorem dX6_isStreet_15 : decode cX6_isStreet 15 = .ok (.aload_n 0, 1) := by decide +kernel
theorem dX6_isStreet_16 : decode cX6_isStreet 16 = .ok (.dup, 1) := by decide +kernel
theorem dX6_isStreet_17 : decode cX6_isStreet 17 = .ok (.getfield 93, 3) := by decide +kernel
theorem dX6_isStreet_20 : decode cX6_isStreet 20 = .ok (.iconst 1, 1) := by decide +kernel
theorem dX6_isStreet_21 : decode cX6_isStreet 21 = .ok (.iadd, 1) := by decide +kernel
theorem dX6_isStreet_22 : decode cX6_isStreet 22 = .ok (.putfield 93, 3) := by decide +kernel
theorem dX6_isStreet_25 : decode cX6_isStreet 25 = .ok (.aload_n 0, 1) := by decide +kernel
theorem dX6_isStreet_26 : decode cX6_isStreet 26 = .ok (.aload_n 0, 1) := by decide +kernel
theorem dX6_isStreet_27 : decode cX6_isStreet 27 = .ok (.iconst 0, 1) := by decide +kernel
theorem dX6_isStreet_28 : decode cX6_isStreet 28 = .ok (.iconst 1, 1) := by decide +kernel
theorem dX6_isStreet_29 : decode cX6_isStreet 29 = .ok (.invokevirtual 99, 3) := by decide +kernel
theorem dX6_isStreet_32 : decode cX6_isStreet 32 = .ok (.putfield 102, 3) := by decide +kernel
theorem dX6_isStreet_35 : decode cX6_isStreet 35 = .ok (.aload_n 0, 1) := by decide +kernel
theorem dX6_isStreet_36 : decode cX6_isStreet 36 = .ok (.getfield 102, 3) := by decide +kernel
theorem dX6_isStreet_39 : decode cX6_isStreet 39 = .ok (.ifCond .ge 5, 3) := by decide +kernel
theorem dX6_isStreet_42 : decode cX6_isStreet 42 = .ok (.iconst 0, 1) := by decide +kernel
theorem dX6_isStreet_43 : decode cX6_isStreet 43 = .ok (.ireturn, 1) := by decide +kernel
theorem dX6_isStreet_44 : decode cX6_isStreet 44 = .ok (.aload_n 0, 1) := by decide +kernel
theorem dX6_isStreet_45 : decode cX6_isStreet 45 = .ok (.aload_n 0, 1) := by decide +kernel
theorem dX6_isStreet_46 : decode cX6_isStreet 46 = .ok (.invokevirtual 105, 3) := by decide +kernel
theorem dX6_isStreet_49 : decode cX6_isStreet 49 = .ok (.putfield 109, 3) := by decide +kernel
theorem dX6_isStreet_52 : decode cX6_isStreet 52 = .ok (.aload_n 0, 1) := by decide +kernel
theorem dX6_isStreet_53 : decode cX6_isStreet 53 = .ok (.getfield 109, 3) := by decide +kernel
theorem dX6_isStreet_56 : decode cX6_isStreet 56 = .ok (.ifCond .lt 7, 3) := by decide +kernel
theorem dX6_isStreet_59 : decode cX6_isStreet 59 = .ok (.iconst 1, 1) := by decide +kernel
theorem dX6_isStreet_60 : decode cX6_isStreet 60 = .ok (.goto 4, 3) := by decide +kernel
theorem dX6_isStreet_63 : decode cX6_isStreet 63 = .ok (.iconst 0, 1) := by decide +kernel
theorem dX6_isStreet_64 : decode cX6_isStreet 64 = .ok (.ireturn, 1) := by decide +kernel
theorem dX6_isHouseItem_0 : decode cX6_isHouseItem 0 = .ok (.aload_n 0, 1) := by decide +kernel
theorem dX6_isHouseItem_1 : decode cX6_isHouseItem 1 = .ok (.aload_n 0, 1) := by decide +kernel
theorem dX6_isHouseItem_2 : decode cX6_isHouseItem 2 = .ok (.getfield 93, 3) := by decide +kernel
theorem dX6_isHouseItem_5 : decode cX6_isHouseItem 5 = .ok (.invokevirtual 96, 3) := by decide +kernel
theorem dX6_isHouseItem_8 : decode cX6_isHouseItem 8 = .ok (.invokestatic 112, 3) := by decide +kernel
theorem dX6_isHouseItem_11 : decode cX6_isHouseItem 11 = .ok (.istore_n 1, 1) := by decide +kernel
theorem dX6_isHouseItem_12 : decode cX6_isHouseItem 12 = .ok (.iload_n 1, 1) := by decide +kernel
theorem dX6_isHouseItem_13 : decode cX6_isHouseItem 13 = .ok (.ifCond .lt 12, 3) := by decide +kernel
theorem dX6_isHouseItem_16 : decode cX6_isHouseItem 16 = .ok (.aload_n 0, 1) := by decide +kernel
theorem dX6_isHouseItem_17 : decode cX6_isHouseItem 17 = .ok (.getfield 115, 3) := by decide +kernel
theorem dX6_isHouseItem_20 : decode cX6_isHouseItem 20 = .ok (.bipush 6, 2) := by decide +kernel
theorem dX6_isHouseItem_22 : decode cX6_isHouseItem 22 = .ok (.if_icmp .ne 5, 3) := by decide +kernel
theorem dX6_isHouseItem_25 : decode cX6_isHouseItem 25 = .ok (.iconst 0, 1) := by decide +kernel
theorem dX6_isHouseItem_26 : decode cX6_isHouseItem 26 = .ok (.ireturn, 1) := by decide +kernel
theorem dX6_isHouseItem_27 : decode cX6_isHouseItem 27 = .ok (.aload_n 0, 1) := by decide +kernel
theorem dX6_isHouseItem_28 : decode cX6_isHouseItem 28 = .ok (.dup, 1) := by decide +kernel
theorem dX6_isHouseItem_29 : decode cX6_isHouseItem 29 = .ok (.getfield 93, 3) := by decide +kernel
theorem dX6_isHouseItem_32 : decode cX6_isHouseItem 32 = .ok (.iconst 1, 1) := by decide +kernel
theorem dX6_isHouseItem_33 : decode cX6_isHouseItem 33 = .ok (.iadd, 1) := by decide +kernel
theorem dX6_isHouseItem_34 : decode cX6_isHouseItem 34 = .ok (.putfield 93, 3) := by decide +kernel
theorem dX6_isHouseItem_37 : decode cX6_isHouseItem 37 = .ok (.aload_n 0, 1) := by decide +kernel
theorem dX6_isHouseItem_38 : decode cX6_isHouseItem 38 = .ok (.invokevirtual 105, 3) := by decide +kernel
theorem dX6_isHouseItem_41 : decode cX6_isHouseItem 41 = .ok (.istore_n 2, 1) := by decide +kernel
theorem dX6_isHouseItem_42 : decode cX6_isHouseItem 42 = .ok (.iload_n 2, 1) := by decide +kernel
theorem dX6_isHouseItem_43 : decode cX6_isHouseItem 43 = .ok (.ifCond .ge 5, 3) := by decide +kernel
theorem dX6_isHouseItem_46 : decode cX6_isHouseItem 46 = .ok (.iconst 0, 1) := by decide +kernel
theorem dX6_isHouseItem_47 : decode cX6_isHouseItem 47 = .ok (.ireturn, 1) := by decide +kernel
theorem dX6_isHouseItem_48 : decode cX6_isHouseItem 48 = .ok (.aload_n 0, 1) := by decide +kernel
theorem dX6_isHouseItem_49 : decode cX6_isHouseItem 49 = .ok (.invokevirtual 105, 3) := by decide +kernel
theorem dX6_isHouseItem_52 : decode cX6_isHouseItem 52 = .ok (.istore_n 3, 1) := by decide +kernel
theorem dX6_isHouseItem_53 : decode cX6_isHouseItem 53 = .ok (.iload_n 3, 1) := by decide +kernel
theorem dX6_isHouseItem_54 : decode cX6_isHouseItem 54 = .ok (.ifCond .ge 5, 3) := by decide +kernel
theorem dX6_isHouseItem_57 : decode cX6_isHouseItem 57 = .ok (.iconst 0, 1) := by decide +kernel
theorem dX6_isHouseItem_58 : decode cX6_isHouseItem 58 = .ok (.ireturn, 1) := by decide +kernel
theorem dX6_isHouseItem_59 : decode cX6_isHouseItem 59 = .ok (.aload_n 0, 1) := by decide +kernel
theorem dX6_isHouseItem_60 : decode cX6_isHouseItem 60 = .ok (.getfield 29, 3) := by decide +kernel
theorem dX6_isHouseItem_63 : decode cX6_isHouseItem 63 = .ok (.iconst 3, 1) := by decide +kernel
theorem dX6_isHouseItem_64 : decode cX6_isHouseItem 64 = .ok (.aload_n 0, 1) := by decide +kernel
theorem dX6_isHouseItem_65 : decode cX6_isHouseItem 65 = .ok (.getfield 115, 3) := by decide +kernel
theorem dX6_isHouseItem_68 : decode cX6_isHouseItem 68 = .ok (.imul, 1) := by decide +kernel
theorem dX6_isHouseItem_69 : decode cX6_isHouseItem 69 = .ok (.iload_n 1, 1) := by decide +kernel
theorem dX6_isHouseItem_70 : decode cX6_isHouseItem 70 = .ok (.iastore, 1) := by decide +kernel
theorem dX6_isHouseItem_71 : decode cX6_isHouseItem 71 = .ok (.aload_n 0, 1) := by decide +kernel
theorem dX6_isHouseItem_72 : decode cX6_isHouseItem 72 = .ok (.getfield 29, 3) := by decide +kernel
theorem dX6_isHouseItem_75 : decode cX6_isHouseItem 75 = .ok (.iconst 3, 1) := by decide +kernel
theorem dX6_isHouseItem_76 : decode cX6_isHouseItem 76 = .ok (.aload_n 0, 1) := by decide +kernel
theorem dX6_isHouseItem_77 : decode cX6_isHouseItem 77 = .ok (.getfield 115, 3) := by decide +kernel
theorem dX6_isHouseItem_80 : decode cX6_isHouseItem 80 = .ok (.imul, 1) := by decide +kernel
theorem dX6_isHouseItem_81 : decode cX6_isHouseItem 81 = .ok (.iconst 1, 1) := by decide +kernel
theorem dX6_isHouseItem_82 : decode cX6_isHouseItem 82 = .ok (.iadd, 1) := by decide +kernel
theorem dX6_isHouseItem_83 : decode cX6_isHouseItem 83 = .ok (.iload_n 2, 1) := by decide +kernel
theorem dX6_isHouseItem_84 : decode cX6_isHouseItem 84 = .ok (.iastore, 1) := by decide +kernel
theorem dX6_isHouseItem_85 : decode cX6_isHouseItem 85 = .ok (.aload_n 0, 1) := by decide +kernel
theorem dX6_isHouseItem_86 : decode cX6_isHouseItem 86 = .ok (.getfield 29, 3) := by decide +kernel
theorem dX6_isHouseItem_89 : decode cX6_isHouseItem 89 = .ok (.iconst 3, 1) := by decide +kernel
theorem dX6_isHouseItem_90 : decode cX6_isHouseItem 90 = .ok (.aload_n 0, 1) := by decide +kernel
theorem dX6_isHouseItem_91 : decode cX6_isHouseItem 91 = .ok (.getfield 115, 3) := by decide +kernel
theorem dX6_isHouseItem_94 : decode cX6_isHouseItem 94 = .ok (.imul, 1) := by decide +kernel
theorem dX6_isHouseItem_95 : decode cX6_isHouseItem 95 = .ok (.iconst 2, 1) := by decide +kernel
theorem dX6_isHouseItem_96 : decode cX6_isHouseItem 96 = .ok (.iadd, 1) := by decide +kernel
theorem dX6_isHouseItem_97 : decode cX6_isHouseItem 97 = .ok (.iload_n 3, 1) := by decide +kernel
theorem dX6_isHouseItem_98 : decode cX6_isHouseItem 98 = .ok (.iastore, 1) := by decide +kernel
theorem dX6_isHouseItem_99 : decode cX6_isHouseItem 99 = .ok (.aload_n 0, 1) := by decide +kernel
theorem dX6_isHouseItem_100 : decode cX6_isHouseItem 100 = .ok (.dup, 1) := by decide +kernel
theorem dX6_isHouseItem_101 : decode cX6_isHouseItem 101 = .ok (.getfield 115, 3) := by decide +kernel
theorem dX6_isHouseItem_104 : decode cX6_isHouseItem 104 = .ok (.iconst 1, 1) := by decide +kernel
theorem dX6_isHouseItem_105 : decode cX6_isHouseItem 105 = .ok (.iadd, 1) := by decide +kernel
theorem dX6_isHouseItem_106 : decode cX6_isHouseItem 106 = .ok (.putfield 115, 3) := by decide +kernel
theorem dX6_isHouseItem_109 : decode cX6_isHouseItem 109 = .ok (.iconst 1, 1) := by decide +kernel
theorem dX6_isHouseItem_110 : decode cX6_isHouseItem 110 = .ok (.ireturn, 1) := by decide +kernel
theorem dX6_read_0 : decode cX6_read 0 = .ok (.aload_n 0, 1) := by decide +kernel
theorem dX6_read_1 : decode cX6_read 1 = .ok (.bipush 60, 2) := by decide +kernel
theorem dX6_read_3 : decode cX6_read 3 = .ok (.iload_n 1, 1) := by decide +kernel
theorem dX6_read_4 : decode cX6_read 4 = .ok (.imul, 1) := by decide +kernel
theorem dX6_read_5 : decode cX6_read 5 = .ok (.putfield 90, 3) := by decide +kernel
theorem dX6_read_8 : decode cX6_read 8 = .ok (.aload_n 0, 1) := by decide +kernel
theorem dX6_read_9 : decode cX6_read 9 = .ok (.aload_n 0, 1) := by decide +kernel
theorem dX6_read_10 : decode cX6_read 10 = .ok (.getfield 16, 3) := by decide +kernel
theorem dX6_read_13 : decode cX6_read 13 = .ok (.iload_n 1, 1) := by decide +kernel
theorem dX6_read_14 : decode cX6_read 14 = .ok (.iaload, 1) := by decide +kernel
theorem dX6_read_15 : decode cX6_read 15 = .ok (.putfield 87, 3) := by decide +kernel
theorem dX6_read_18 : decode cX6_read 18 = .ok (.aload_n 0, 1) := by decide +kernel
theorem dX6_read_19 : decode cX6_read 19 = .ok (.iconst 0, 1) := by decide +kernel
theorem dX6_read_20 : decode cX6_read 20 = .ok (.putfield 93, 3) := by decide +kernel
theorem dX6_read_23 : decode cX6_read 23 = .ok (.aload_n 0, 1) := by decide +kernel
theorem dX6_read_24 : decode cX6_read 24 = .ok (.iconst 0, 1) := by decide +kernel
theorem dX6_read_25 : decode cX6_read 25 = .ok (.putfield 115, 3) := by decide +kernel
theorem dX6_read_28 : decode cX6_read 28 = .ok (.aload_n 0, 1) := by decide +kernel
theorem dX6_read_29 : decode cX6_read 29 = .ok (.invokevirtual 118, 3) := by decide +kernel
theorem dX6_read_32 : decode cX6_read 32 = .ok (.aload_n 0, 1) := by decide +kernel
theorem dX6_read_33 : decode cX6_read 33 = .ok (.invokevirtual 121, 3) := by decide +kernel
theorem dX6_read_36 : decode cX6_read 36 = .ok (.ifCond .ne 8, 3) := by decide +kernel
theorem dX6_read_39 : decode cX6_read 39 = .ok (.aload_n 0, 1) := by decide +kernel
theorem dX6_read_40 : decode cX6_read 40 = .ok (.getfield 93, 3) := by decide +kernel
theorem dX6_read_43 : decode cX6_read 43 = .ok (.ireturn, 1) := by decide +kernel
theorem dX6_read_44 : decode cX6_read 44 = .ok (.aload_n 0, 1) := by decide +kernel
theorem dX6_read_45 : decode cX6_read 45 = .ok (.invokevirtual 118, 3) := by decide +kernel
theorem dX6_read_48 : decode cX6_read 48 = .ok (.aload_n 0, 1) := by decide +kernel
theorem dX6_read_49 : decode cX6_read 49 = .ok (.getfield 93, 3) := by decide +kernel
theorem dX6_read_52 : decode cX6_read 52 = .ok (.aload_n 0, 1) := by decide +kernel
theorem dX6_read_53 : decode cX6_read 53 = .ok (.getfield 87, 3) := by decide +kernel
theorem dX6_read_56 : decode cX6_read 56 = .ok (.if_icmp .ge 22, 3) := by decide +kernel
theorem dX6_read_59 : decode cX6_read 59 = .ok (.aload_n 0, 1) := by decide +kernel
theorem dX6_read_60 : decode cX6_read 60 = .ok (.invokevirtual 125, 3) := by decide +kernel
theorem dX6_read_63 : decode cX6_read 63 = .ok (.ifCond .ne 8, 3) := by decide +kernel
theorem dX6_read_66 : decode cX6_read 66 = .ok (.aload_n 0, 1) := by decide +kernel
theorem dX6_read_67 : decode cX6_read 67 = .ok (.getfield 93, 3) := by decide +kernel
theorem dX6_read_70 : decode cX6_read 70 = .ok (.ireturn, 1) := by decide +kernel
theorem dX6_read_71 : decode cX6_read 71 = .ok (.aload_n 0, 1) := by decide +kernel
theorem dX6_read_72 : decode cX6_read 72 = .ok (.invokevirtual 118, 3) := by decide +kernel
theorem dX6_read_75 : decode cX6_read 75 = .ok (.goto (-27), 3) := by decide +kernel
theorem dX6_read_78 : decode cX6_read 78 = .ok (.aload_n 0, 1) := by decide +kernel
theorem dX6_read_79 : decode cX6_read 79 = .ok (.getfield 115, 3) := by decide +kernel
theorem dX6_read_82 : decode cX6_read 82 = .ok (.ifCond .ne 10, 3) := by decide +kernel
theorem dX6_read_85 : decode cX6_read 85 = .ok (.aload_n 0, 1) := by decide +kernel
theorem dX6_read_86 : decode cX6_read 86 = .ok (.getfield 87, 3) := by decide +kernel
theorem dX6_read_89 : decode cX6_read 89 = .ok (.goto 5, 3) := by decide +kernel
theorem dX6_read_92 : decode cX6_read 92 = .ok (.bipush (-9), 2) := by decide +kernel
theorem dX6_read_94 : decode cX6_read 94 = .ok (.ireturn, 1) := by decide +kernel
theorem dX6_fault_0 : decode cX6_fault 0 = .ok (.iload_n 1, 1) := by decide +kernel
theorem dX6_fault_1 : decode cX6_fault 1 = .ok (.iconst 0, 1) := by decide +kernel
theorem dX6_fault_2 : decode cX6_fault 2 = .ok (.iconst 3, 1) := by decide +kernel
theorem dX6_fault_3 : decode cX6_fault 3 = .ok (.invokestatic 69, 3) := by decide +kernel
theorem dX6_fault_6 : decode cX6_fault 6 = .ok (.ifCond .ne 5, 3) := by decide +kernel
theorem dX6_fault_9 : decode cX6_fault 9 = .ok (.iconst (-1), 1) := by decide +kernel
theorem dX6_fault_10 : decode cX6_fault 10 = .ok (.ireturn, 1) := by decide +kernel
theorem dX6_fault_11 : decode cX6_fault 11 = .ok (.aload_n 0, 1) := by decide +kernel
theorem dX6_fault_12 : decode cX6_fault 12 = .ok (.getfield 16, 3) := by decide +kernel
theorem dX6_fault_15 : decode cX6_fault 15 = .ok (.iload_n 1, 1) := by decide +kernel
theorem dX6_fault_16 : decode cX6_fault 16 = .ok (.iaload, 1) := by decide +kernel
theorem dX6_fault_17 : decode cX6_fault 17 = .ok (.ifCond .ge 11, 3) := by decide +kernel
theorem dX6_fault_20 : decode cX6_fault 20 = .ok (.aload_n 0, 1) := by decide +kernel
theorem dX6_fault_21 : decode cX6_fault 21 = .ok (.iconst 1, 1) := by decide +kernel
theorem dX6_fault_22 : decode cX6_fault 22 = .ok (.invokevirtual 73, 3) := by decide +kernel
theorem dX6_fault_25 : decode cX6_fault 25 = .ok (.goto 8, 3) := by decide +kernel
theorem dX6_fault_28 : decode cX6_fault 28 = .ok (.aload_n 0, 1) := by decide +kernel
theorem dX6_fault_29 : decode cX6_fault 29 = .ok (.iload_n 1, 1) := by decide +kernel
theorem dX6_fault_30 : decode cX6_fault 30 = .ok (.invokevirtual 128, 3) := by decide +kernel
theorem dX6_fault_33 : decode cX6_fault 33 = .ok (.ireturn, 1) := by decide +kernel
theorem dX6_town_0 : decode cX6_town 0 = .ok (.iload_n 1, 1) := by decide +kernel
theorem dX6_town_1 : decode cX6_town 1 = .ok (.iconst 0, 1) := by decide +kernel
theorem dX6_town_2 : decode cX6_town 2 = .ok (.iconst 3, 1) := by decide +kernel
theorem dX6_town_3 : decode cX6_town 3 = .ok (.invokestatic 69, 3) := by decide +kernel
theorem dX6_town_6 : decode cX6_town 6 = .ok (.ifCond .ne 5, 3) := by decide +kernel
theorem dX6_town_9 : decode cX6_town 9 = .ok (.iconst (-1), 1) := by decide +kernel
theorem dX6_town_10 : decode cX6_town 10 = .ok (.ireturn, 1) := by decide +kernel
theorem dX6_town_11 : decode cX6_town 11 = .ok (.aload_n 0, 1) := by decide +kernel
theorem dX6_town_12 : decode cX6_town 12 = .ok (.getfield 16, 3) := by decide +kernel
theorem dX6_town_15 : decode cX6_town 15 = .ok (.iload_n 1, 1) := by decide +kernel
theorem dX6_town_16 : decode cX6_town 16 = .ok (.iaload, 1) := by decide +kernel
theorem dX6_town_17 : decode cX6_town 17 = .ok (.ifCond .ge 9, 3) := by decide +kernel
theorem dX6_town_20 : decode cX6_town 20 = .ok (.aload_n 0, 1) := by decide +kernel
theorem dX6_town_21 : decode cX6_town 21 = .ok (.iconst 1, 1) := by decide +kernel
theorem dX6_town_22 : decode cX6_town 22 = .ok (.invokevirtual 73, 3) := by decide +kernel
theorem dX6_town_25 : decode cX6_town 25 = .ok (.ireturn, 1) := by decide +kernel
theorem dX6_town_26 : decode cX6_town 26 = .ok (.aload_n 0, 1) := by decide +kernel
theorem dX6_town_27 : decode cX6_town 27 = .ok (.iload_n 1, 1) := by decide +kernel
theorem dX6_town_28 : decode cX6_town 28 = .ok (.invokevirtual 128, 3) := by decide +kernel
theorem dX6_town_31 : decode cX6_town 31 = .ok (.bipush (-9), 2) := by decide +kernel
theorem dX6_town_33 : decode cX6_town 33 = .ok (.if_icmp .eq 6, 3) := by decide +kernel
theorem dX6_town_36 : decode cX6_town 36 = .ok (.bipush (-4), 2) := by decide +kernel
theorem dX6_town_38 : decode cX6_town 38 = .ok (.ireturn, 1) := by decide +kernel
theorem dX6_town_39 : decode cX6_town 39 = .ok (.aload_n 0, 1) := by decide +kernel
theorem dX6_town_40 : decode cX6_town 40 = .ok (.aload_n 0, 1) := by decide +kernel
theorem dX6_town_41 : decode cX6_town 41 = .ok (.getfield 109, 3) := by decide +kernel
theorem dX6_town_44 : decode cX6_town 44 = .ok (.putfield 131, 3) := by decide +kernel
theorem dX6_town_47 : decode cX6_town 47 = .ok (.aload_n 0, 1) := by decide +kernel
theorem dX6_town_48 : decode cX6_town 48 = .ok (.aload_n 0, 1) := by decide +kernel
theorem dX6_town_49 : decode cX6_town 49 = .ok (.getfield 115, 3) := by decide +kernel
theorem dX6_town_52 : decode cX6_town 52 = .ok (.putfield 66, 3) := by decide +kernel
theorem dX6_town_55 : decode cX6_town 55 = .ok (.iconst 0, 1) := by decide +kernel
theorem dX6_town_56 : decode cX6_town 56 = .ok (.istore_n 2, 1) := by decide +kernel
theorem dX6_town_57 : decode cX6_town 57 = .ok (.iload_n 2, 1) := by decide +kernel
theorem dX6_town_58 : decode cX6_town 58 = .ok (.bipush 23, 2) := by decide +kernel
theorem dX6_town_60 : decode cX6_town 60 = .ok (.if_icmp .ge 27, 3) := by decide +kernel
theorem dX6_town_63 : decode cX6_town 63 = .ok (.aload_n 0, 1) := by decide +kernel
theorem dX6_town_64 : decode cX6_town 64 = .ok (.getfield 38, 3) := by decide +kernel
theorem dX6_town_67 : decode cX6_town 67 = .ok (.iload_n 2, 1) := by decide +kernel
theorem dX6_town_68 : decode cX6_town 68 = .ok (.iload_n 2, 1) := by decide +kernel
theorem dX6_town_69 : decode cX6_town 69 = .ok (.bipush 17, 2) := by decide +kernel
theorem dX6_town_71 : decode cX6_town 71 = .ok (.if_icmp .ge 7, 3) := by decide +kernel
theorem dX6_town_74 : decode cX6_town 74 = .ok (.iconst 0, 1) := by decide +kernel
theorem dX6_town_75 : decode cX6_town 75 = .ok (.goto 5, 3) := by decide +kernel
theorem dX6_town_78 : decode cX6_town 78 = .ok (.bipush (-9), 2) := by decide +kernel
theorem dX6_town_80 : decode cX6_town 80 = .ok (.iastore, 1) := by decide +kernel
theorem dX6_town_81 : decode cX6_town 81 = .ok (.iinc 2 1, 3) := by decide +kernel
theorem dX6_town_84 : decode cX6_town 84 = .ok (.goto (-27), 3) := by decide +kernel
theorem dX6_town_87 : decode cX6_town 87 = .ok (.aload_n 0, 1) := by decide +kernel
theorem dX6_town_88 : decode cX6_town 88 = .ok (.getfield 38, 3) := by decide +kernel
theorem dX6_town_91 : decode cX6_town 91 = .ok (.iconst 3, 1) := by decide +kernel
theorem dX6_town_92 : decode cX6_town 92 = .ok (.aload_n 0, 1) := by decide +kernel
theorem dX6_town_93 : decode cX6_town 93 = .ok (.getfield 102, 3) := by decide +kernel
theorem dX6_town_96 : decode cX6_town 96 = .ok (.iastore, 1) := by decide +kernel
theorem dX6_town_97 : decode cX6_town 97 = .ok (.iconst 0, 1) := by decide +kernel
theorem dX6_town_98 : decode cX6_town 98 = .ok (.istore_n 2, 1) := by decide +kernel
theorem dX6_town_99 : decode cX6_town 99 = .ok (.iload_n 2, 1) := by decide +kernel
theorem dX6_town_100 : decode cX6_town 100 = .ok (.aload_n 0, 1) := by decide +kernel
theorem dX6_town_101 : decode cX6_town 101 = .ok (.getfield 66, 3) := by decide +kernel
theorem dX6_town_104 : decode cX6_town 104 = .ok (.if_icmp .ge 57, 3) := by decide +kernel
theorem dX6_town_107 : decode cX6_town 107 = .ok (.aload_n 0, 1) := by decide +kernel
theorem dX6_town_108 : decode cX6_town 108 = .ok (.getfield 32, 3) := by decide +kernel
theorem dX6_town_111 : decode cX6_town 111 = .ok (.iload_n 2, 1) := by decide +kernel
theorem dX6_town_112 : decode cX6_town 112 = .ok (.aload_n 0, 1) := by decide +kernel
theorem dX6_town_113 : decode cX6_town 113 = .ok (.getfield 29, 3) := by decide +kernel
theorem dX6_town_116 : decode cX6_town 116 = .ok (.iconst 3, 1) := by decide +kernel
theorem dX6_town_117 : decode cX6_town 117 = .ok (.iload_n 2, 1) := by decide +kernel
theorem dX6_town_118 : decode cX6_town 118 = .ok (.imul, 1) := by decide +kernel
theorem dX6_town_119 : decode cX6_town 119 = .ok (.iaload, 1) := by decide +kernel
theorem dX6_town_120 : decode cX6_town 120 = .ok (.iastore, 1) := by decide +kernel
theorem dX6_town_121 : decode cX6_town 121 = .ok (.aload_n 0, 1) := by decide +kernel
theorem dX6_town_122 : decode cX6_town 122 = .ok (.getfield 38, 3) := by decide +kernel
theorem dX6_town_125 : decode cX6_town 125 = .ok (.iconst 5, 1) := by decide +kernel
theorem dX6_town_126 : decode cX6_town 126 = .ok (.iload_n 2, 1) := by decide +kernel
theorem dX6_town_127 : decode cX6_town 127 = .ok (.iadd, 1) := by decide +kernel
theorem dX6_town_128 : decode cX6_town 128 = .ok (.aload_n 0, 1) := by decide +kernel
theorem dX6_town_129 : decode cX6_town 129 = .ok (.getfield 29, 3) := by decide +kernel
theorem dX6_town_132 : decode cX6_town 132 = .ok (.iconst 3, 1) := by decide +kernel
theorem dX6_town_133 : decode cX6_town 133 = .ok (.iload_n 2, 1) := by decide +kernel
theorem dX6_town_134 : decode cX6_town 134 = .ok (.imul, 1) := by decide +kernel
theorem dX6_town_135 : decode cX6_town 135 = .ok (.iconst 1, 1) := by decide +kernel
theorem dX6_town_136 : decode cX6_town 136 = .ok (.iadd, 1) := by decide +kernel
theorem dX6_town_137 : decode cX6_town 137 = .ok (.iaload, 1) := by decide +kernel
theorem dX6_town_138 : decode cX6_town 138 = .ok (.iastore, 1) := by decide +kernel
theorem dX6_town_139 : decode cX6_town 139 = .ok (.aload_n 0, 1) := by decide +kernel
theorem dX6_town_140 : decode cX6_town 140 = .ok (.getfield 35, 3) := by decide +kernel
theorem dX6_town_143 : decode cX6_town 143 = .ok (.iload_n 2, 1) := by decide +kernel
theorem dX6_town_144 : decode cX6_town 144 = .ok (.aload_n 0, 1) := by decide +kernel
theorem dX6_town_145 : decode cX6_town 145 = .ok (.getfield 29, 3) := by decide +kernel
theorem dX6_town_148 : decode cX6_town 148 = .ok (.iconst 3, 1) := by decide +kernel
theorem dX6_town_149 : decode cX6_town 149 = .ok (.iload_n 2, 1) := by decide +kernel
theorem dX6_town_150 : decode cX6_town 150 = .ok (.imul, 1) := by decide +kernel
theorem dX6_town_151 : decode cX6_town 151 = .ok (.iconst 2, 1) := by decide +kernel
theorem dX6_town_152 : decode cX6_town 152 = .ok (.iadd, 1) := by decide +kernel
theorem dX6_town_153 : decode cX6_town 153 = .ok (.iaload, 1) := by decide +kernel
theorem dX6_town_154 : decode cX6_town 154 = .ok (.iastore, 1) := by decide +kernel
theorem dX6_town_155 : decode cX6_town 155 = .ok (.iinc 2 1, 3) := by decide +kernel
theorem dX6_town_158 : decode cX6_town 158 = .ok (.goto (-59), 3) := by decide +kernel
theorem dX6_town_161 : decode cX6_town 161 = .ok (.aload_n 0, 1) := by decide +kernel
theorem dX6_town_162 : decode cX6_town 162 = .ok (.iconst 0, 1) := by decide +kernel
theorem dX6_town_163 : decode cX6_town 163 = .ok (.putfield 134, 3) := by decide +kernel
theorem dX6_town_166 : decode cX6_town 166 = .ok (.iconst 0, 1) := by decide +kernel
theorem dX6_town_167 : decode cX6_town 167 = .ok (.istore_n 2, 1) := by decide +kernel
theorem dX6_town_168 : decode cX6_town 168 = .ok (.iload_n 2, 1) := by decide +kernel
theorem dX6_town_169 : decode cX6_town 169 = .ok (.iconst 3, 1) := by decide +kernel
theorem dX6_town_170 : decode cX6_town 170 = .ok (.if_icmp .ge 16, 3) := by decide +kernel
theorem dX6_town_173 : decode cX6_town 173 = .ok (.aload_n 0, 1) := by decide +kernel
theorem dX6_town_174 : decode cX6_town 174 = .ok (.getfield 50, 3) := by decide +kernel
theorem dX6_town_177 : decode cX6_town 177 = .ok (.iload_n 2, 1) := by decide +kernel
theorem dX6_town_178 : decode cX6_town 178 = .ok (.iconst (-1), 1) := by decide +kernel
theorem dX6_town_179 : decode cX6_town 179 = .ok (.iastore, 1) := by decide +kernel
theorem dX6_town_180 : decode cX6_town 180 = .ok (.iinc 2 1, 3) := by decide +kernel
theorem dX6_town_183 : decode cX6_town 183 = .ok (.goto (-15), 3) := by decide +kernel
theorem dX6_town_186 : decode cX6_town 186 = .ok (.aload_n 0, 1) := by decide +kernel
theorem dX6_town_187 : decode cX6_town 187 = .ok (.getfield 66, 3) := by decide +kernel
theorem dX6_town_190 : decode cX6_town 190 = .ok (.ireturn, 1) := by decide +kernel
theorem dX6_is_0 : decode cX6_is 0 = .ok (.iload_n 0, 1) := by decide +kernel
theorem dX6_is_1 : decode cX6_is 1 = .ok (.iload_n 1, 1) := by decide +kernel
theorem dX6_is_2 : decode cX6_is 2 = .ok (.if_icmp .eq 27, 3) := by decide +kernel
theorem dX6_is_5 : decode cX6_is 5 = .ok (.iload_n 1, 1) := by decide +kernel
theorem dX6_is_6 : decode cX6_is 6 = .ok (.ifCond .eq 23, 3) := by decide +kernel
theorem dX6_is_9 : decode cX6_is 9 = .ok (.iload_n 0, 1) := by decide +kernel
theorem dX6_is_10 : decode cX6_is 10 = .ok (.iconst 4, 1) := by decide +kernel
theorem dX6_is_11 : decode cX6_is 11 = .ok (.if_icmp .ne 8, 3) := by decide +kernel
theorem dX6_is_14 : decode cX6_is 14 = .ok (.iload_n 1, 1) := by decide +kernel
theorem dX6_is_15 : decode cX6_is 15 = .ok (.iconst 1, 1) := by decide +kernel
theorem dX6_is_16 : decode cX6_is 16 = .ok (.if_icmp .eq 13, 3) := by decide +kernel
theorem dX6_is_19 : decode cX6_is 19 = .ok (.iload_n 0, 1) := by decide +kernel
theorem dX6_is_20 : decode cX6_is 20 = .ok (.iconst 5, 1) := by decide +kernel
theorem dX6_is_21 : decode cX6_is 21 = .ok (.if_icmp .ne 12, 3) := by decide +kernel
theorem dX6_is_24 : decode cX6_is 24 = .ok (.iload_n 1, 1) := by decide +kernel
theorem dX6_is_25 : decode cX6_is 25 = .ok (.iconst 2, 1) := by decide +kernel
theorem dX6_is_26 : decode cX6_is 26 = .ok (.if_icmp .ne 7, 3) := by decide +kernel
theorem dX6_is_29 : decode cX6_is 29 = .ok (.iconst 1, 1) := by decide +kernel
theorem dX6_is_30 : decode cX6_is 30 = .ok (.goto 4, 3) := by decide +kernel
theorem dX6_is_33 : decode cX6_is 33 = .ok (.iconst 0, 1) := by decide +kernel
theorem dX6_is_34 : decode cX6_is 34 = .ok (.ireturn, 1) := by decide +kernel
theorem dX6_takesBy_0 : decode cX6_takesBy 0 = .ok (.aload_n 0, 1) := by decide +kernel
theorem dX6_takesBy_1 : decode cX6_takesBy 1 = .ok (.getfield 38, 3) := by decide +kernel
theorem dX6_takesBy_4 : decode cX6_takesBy 4 = .ok (.iconst 3, 1) := by decide +kernel
theorem dX6_takesBy_5 : decode cX6_takesBy 5 = .ok (.iaload, 1) := by decide +kernel
theorem dX6_takesBy_6 : decode cX6_takesBy 6 = .ok (.iconst 1, 1) := by decide +kernel
theorem dX6_takesBy_7 : decode cX6_takesBy 7 = .ok (.if_icmp .ne 23, 3) := by decide +kernel
theorem dX6_takesBy_10 : decode cX6_takesBy 10 = .ok (.iload_n 2, 1) := by decide +kernel
theorem dX6_takesBy_11 : decode cX6_takesBy 11 = .ok (.bipush 40, 2) := by decide +kernel
theorem dX6_takesBy_13 : decode cX6_takesBy 13 = .ok (.bipush 49, 2) := by decide +kernel
theorem dX6_takesBy_15 : decode cX6_takesBy 15 = .ok (.invokestatic 69, 3) := by decide +kernel
theorem dX6_takesBy_18 : decode cX6_takesBy 18 = .ok (.ifCond .eq 12, 3) := by decide +kernel
theorem dX6_takesBy_21 : decode cX6_takesBy 21 = .ok (.iload_n 1, 1) := by decide +kernel
theorem dX6_takesBy_22 : decode cX6_takesBy 22 = .ok (.iconst 5, 1) := by decide +kernel
theorem dX6_takesBy_23 : decode cX6_takesBy 23 = .ok (.if_icmp .eq 7, 3) := by decide +kernel
theorem dX6_takesBy_26 : decode cX6_takesBy 26 = .ok (.iconst 1, 1) := by decide +kernel
theorem dX6_takesBy_27 : decode cX6_takesBy 27 = .ok (.goto 4, 3) := by decide +kernel
theorem dX6_takesBy_30 : decode cX6_takesBy 30 = .ok (.iconst 0, 1) := by decide +kernel
theorem dX6_takesBy_31 : decode cX6_takesBy 31 = .ok (.istore_n 3, 1) := by decide +kernel
theorem dX6_takesBy_32 : decode cX6_takesBy 32 = .ok (.iload_n 2, 1) := by decide +kernel
theorem dX6_takesBy_33 : decode cX6_takesBy 33 = .ok (.bipush 50, 2) := by decide +kernel
theorem dX6_takesBy_35 : decode cX6_takesBy 35 = .ok (.if_icmp .ge 7, 3) := by decide +kernel
theorem dX6_takesBy_38 : decode cX6_takesBy 38 = .ok (.iconst 2, 1) := by decide +kernel
theorem dX6_takesBy_39 : decode cX6_takesBy 39 = .ok (.goto 4, 3) := by decide +kernel
theorem dX6_takesBy_42 : decode cX6_takesBy 42 = .ok (.iconst 1, 1) := by decide +kernel
theorem dX6_takesBy_43 : decode cX6_takesBy 43 = .ok (.istore 4, 2) := by decide +kernel
theorem dX6_takesBy_45 : decode cX6_takesBy 45 = .ok (.iload_n 1, 1) := by decide +kernel
theorem dX6_takesBy_46 : decode cX6_takesBy 46 = .ok (.iconst 3, 1) := by decide +kernel
theorem dX6_takesBy_47 : decode cX6_takesBy 47 = .ok (.if_icmp .eq 7, 3) := by decide +kernel
theorem dX6_takesBy_50 : decode cX6_takesBy 50 = .ok (.iload_n 3, 1) := by decide +kernel
theorem dX6_takesBy_51 : decode cX6_takesBy 51 = .ok (.ifCond .eq 6, 3) := by decide +kernel
theorem dX6_takesBy_54 : decode cX6_takesBy 54 = .ok (.bipush (-9), 2) := by decide +kernel
theorem dX6_takesBy_56 : decode cX6_takesBy 56 = .ok (.ireturn, 1) := by decide +kernel
theorem dX6_takesBy_57 : decode cX6_takesBy 57 = .ok (.iload_n 1, 1) := by decide +kernel
theorem dX6_takesBy_58 : decode cX6_takesBy 58 = .ok (.iconst 1, 1) := by decide +kernel
theorem dX6_takesBy_59 : decode cX6_takesBy 59 = .ok (.if_icmp .ne 10, 3) := by decide +kernel
theorem dX6_takesBy_62 : decode cX6_takesBy 62 = .ok (.iconst 2, 1) := by decide +kernel
theorem dX6_takesBy_63 : decode cX6_takesBy 63 = .ok (.iload 4, 2) := by decide +kernel
theorem dX6_takesBy_65 : decode cX6_takesBy 65 = .ok (.imul, 1) := by decide +kernel
theorem dX6_takesBy_66 : decode cX6_takesBy 66 = .ok (.goto 19, 3) := by decide +kernel
theorem dX6_takesBy_69 : decode cX6_takesBy 69 = .ok (.iload_n 1, 1) := by decide +kernel
theorem dX6_takesBy_70 : decode cX6_takesBy 70 = .ok (.iconst 4, 1) := by decide +kernel
theorem dX6_takesBy_71 : decode cX6_takesBy 71 = .ok (.if_icmp .ne 12, 3) := by decide +kernel
theorem dX6_takesBy_74 : decode cX6_takesBy 74 = .ok (.iconst 2, 1) := by decide +kernel
theorem dX6_takesBy_75 : decode cX6_takesBy 75 = .ok (.iload 4, 2) := by decide +kernel
theorem dX6_takesBy_77 : decode cX6_takesBy 77 = .ok (.imul, 1) := by decide +kernel
theorem dX6_takesBy_78 : decode cX6_takesBy 78 = .ok (.iconst 1, 1) := by decide +kernel
theorem dX6_takesBy_79 : decode cX6_takesBy 79 = .ok (.iadd, 1) := by decide +kernel
theorem dX6_takesBy_80 : decode cX6_takesBy 80 = .ok (.goto 5, 3) := by decide +kernel
theorem dX6_takesBy_83 : decode cX6_takesBy 83 = .ok (.iload 4, 2) := by decide +kernel
theorem dX6_takesBy_85 : decode cX6_takesBy 85 = .ok (.ireturn, 1) := by decide +kernel
theorem dX6_takesOf_0 : decode cX6_takesOf 0 = .ok (.aload_n 0, 1) := by decide +kernel
theorem dX6_takesOf_1 : decode cX6_takesOf 1 = .ok (.aload_n 0, 1) := by decide +kernel
theorem dX6_takesOf_2 : decode cX6_takesOf 2 = .ok (.getfield 32, 3) := by decide +kernel
theorem dX6_takesOf_5 : decode cX6_takesOf 5 = .ok (.iload_n 1, 1) := by decide +kernel
theorem dX6_takesOf_6 : decode cX6_takesOf 6 = .ok (.iaload, 1) := by decide +kernel
theorem dX6_takesOf_7 : decode cX6_takesOf 7 = .ok (.aload_n 0, 1) := by decide +kernel
theorem dX6_takesOf_8 : decode cX6_takesOf 8 = .ok (.getfield 38, 3) := by decide +kernel
theorem dX6_takesOf_11 : decode cX6_takesOf 11 = .ok (.iconst 5, 1) := by decide +kernel
theorem dX6_takesOf_12 : decode cX6_takesOf 12 = .ok (.iload_n 1, 1) := by decide +kernel
theorem dX6_takesOf_13 : decode cX6_takesOf 13 = .ok (.iadd, 1) := by decide +kernel
theorem dX6_takesOf_14 : decode cX6_takesOf 14 = .ok (.iaload, 1) := by decide +kernel
theorem dX6_takesOf_15 : decode cX6_takesOf 15 = .ok (.invokevirtual 137, 3) := by decide +kernel
theorem dX6_takesOf_18 : decode cX6_takesOf 18 = .ok (.ireturn, 1) := by decide +kernel
theorem dX6_paysBy_0 : decode cX6_paysBy 0 = .ok (.iload_n 0, 1) := by decide +kernel
theorem dX6_paysBy_1 : decode cX6_paysBy 1 = .ok (.iconst 3, 1) := by decide +kernel
theorem dX6_paysBy_2 : decode cX6_paysBy 2 = .ok (.if_icmp .ne 7, 3) := by decide +kernel
theorem dX6_paysBy_5 : decode cX6_paysBy 5 = .ok (.iconst 0, 1) := by decide +kernel
theorem dX6_paysBy_6 : decode cX6_paysBy 6 = .ok (.goto 22, 3) := by decide +kernel
theorem dX6_paysBy_9 : decode cX6_paysBy 9 = .ok (.iload_n 0, 1) := by decide +kernel
theorem dX6_paysBy_10 : decode cX6_paysBy 10 = .ok (.iconst 2, 1) := by decide +kernel
theorem dX6_paysBy_11 : decode cX6_paysBy 11 = .ok (.if_icmp .ne 7, 3) := by decide +kernel
theorem dX6_paysBy_14 : decode cX6_paysBy 14 = .ok (.iconst 2, 1) := by decide +kernel
theorem dX6_paysBy_15 : decode cX6_paysBy 15 = .ok (.goto 13, 3) := by decide +kernel
theorem dX6_paysBy_18 : decode cX6_paysBy 18 = .ok (.iload_n 0, 1) := by decide +kernel
theorem dX6_paysBy_19 : decode cX6_paysBy 19 = .ok (.iconst 5, 1) := by decide +kernel
theorem dX6_paysBy_20 : decode cX6_paysBy 20 = .ok (.if_icmp .ne 7, 3) := by decide +kernel
theorem dX6_paysBy_23 : decode cX6_paysBy 23 = .ok (.iconst 5, 1) := by decide +kernel
theorem dX6_paysBy_24 : decode cX6_paysBy 24 = .ok (.goto 4, 3) := by decide +kernel
theorem dX6_paysBy_27 : decode cX6_paysBy 27 = .ok (.iconst 1, 1) := by decide +kernel
theorem dX6_paysBy_28 : decode cX6_paysBy 28 = .ok (.ireturn, 1) := by decide +kernel
theorem dX6_isAwake_0 : decode cX6_isAwake 0 = .ok (.aload_n 0, 1) := by decide +kernel
theorem dX6_isAwake_1 : decode cX6_isAwake 1 = .ok (.getfield 38, 3) := by decide +kernel
theorem dX6_isAwake_4 : decode cX6_isAwake 4 = .ok (.bipush 17, 2) := by decide +kernel
theorem dX6_isAwake_6 : decode cX6_isAwake 6 = .ok (.iload_n 1, 1) := by decide +kernel
theorem dX6_isAwake_7 : decode cX6_isAwake 7 = .ok (.iadd, 1) := by decide +kernel
theorem dX6_isAwake_8 : decode cX6_isAwake 8 = .ok (.iaload, 1) := by decide +kernel
theorem dX6_isAwake_9 : decode cX6_isAwake 9 = .ok (.bipush (-9), 2) := by decide +kernel
theorem dX6_isAwake_11 : decode cX6_isAwake 11 = .ok (.if_icmp .eq 7, 3) := by decide +kernel
theorem dX6_isAwake_14 : decode cX6_isAwake 14 = .ok (.iconst 1, 1) := by decide +kernel
theorem dX6_isAwake_15 : decode cX6_isAwake 15 = .ok (.goto 4, 3) := by decide +kernel
theorem dX6_isAwake_18 : decode cX6_isAwake 18 = .ok (.iconst 0, 1) := by decide +kernel
theorem dX6_isAwake_19 : decode cX6_isAwake 19 = .ok (.ireturn, 1) := by decide +kernel
theorem dX6_moreOf_0 : decode cX6_moreOf 0 = .ok (.aload_n 0, 1) := by decide +kernel
theorem dX6_moreOf_1 : decode cX6_moreOf 1 = .ok (.iload_n 1, 1) := by decide +kernel
theorem dX6_moreOf_2 : decode cX6_moreOf 2 = .ok (.invokevirtual 140, 3) := by decide +kernel
theorem dX6_moreOf_5 : decode cX6_moreOf 5 = .ok (.ifCond .eq 5, 3) := by decide +kernel
theorem dX6_moreOf_8 : decode cX6_moreOf 8 = .ok (.iconst 0, 1) := by decide +kernel
theorem dX6_moreOf_9 : decode cX6_moreOf 9 = .ok (.ireturn, 1) := by decide +kernel
theorem dX6_moreOf_10 : decode cX6_moreOf 10 = .ok (.aload_n 0, 1) := by decide +kernel
theorem dX6_moreOf_11 : decode cX6_moreOf 11 = .ok (.iload_n 1, 1) := by decide +kernel
theorem dX6_moreOf_12 : decode cX6_moreOf 12 = .ok (.invokevirtual 144, 3) := by decide +kernel
theorem dX6_moreOf_15 : decode cX6_moreOf 15 = .ok (.istore_n 2, 1) := by decide +kernel
theorem dX6_moreOf_16 : decode cX6_moreOf 16 = .ok (.iload_n 2, 1) := by decide +kernel
theorem dX6_moreOf_17 : decode cX6_moreOf 17 = .ok (.bipush (-9), 2) := by decide +kernel
theorem dX6_moreOf_19 : decode cX6_moreOf 19 = .ok (.if_icmp .ne 6, 3) := by decide +kernel
theorem dX6_moreOf_22 : decode cX6_moreOf 22 = .ok (.bipush (-9), 2) := by decide +kernel
theorem dX6_moreOf_24 : decode cX6_moreOf 24 = .ok (.ireturn, 1) := by decide +kernel
theorem dX6_moreOf_25 : decode cX6_moreOf 25 = .ok (.iload_n 2, 1) := by decide +kernel
theorem dX6_moreOf_26 : decode cX6_moreOf 26 = .ok (.aload_n 0, 1) := by decide +kernel
theorem dX6_moreOf_27 : decode cX6_moreOf 27 = .ok (.getfield 38, 3) := by decide +kernel
theorem dX6_moreOf_30 : decode cX6_moreOf 30 = .ok (.bipush 11, 2) := by decide +kernel
theorem dX6_moreOf_32 : decode cX6_moreOf 32 = .ok (.iload_n 1, 1) := by decide +kernel
theorem dX6_moreOf_33 : decode cX6_moreOf 33 = .ok (.iadd, 1) := by decide +kernel
theorem dX6_moreOf_34 : decode cX6_moreOf 34 = .ok (.iaload, 1) := by decide +kernel
theorem dX6_moreOf_35 : decode cX6_moreOf 35 = .ok (.if_icmp .le 17, 3) := by decide +kernel
theorem dX6_moreOf_38 : decode cX6_moreOf 38 = .ok (.iload_n 2, 1) := by decide +kernel
theorem dX6_moreOf_39 : decode cX6_moreOf 39 = .ok (.aload_n 0, 1) := by decide +kernel
theorem dX6_moreOf_40 : decode cX6_moreOf 40 = .ok (.getfield 38, 3) := by decide +kernel
theorem dX6_moreOf_43 : decode cX6_moreOf 43 = .ok (.bipush 11, 2) := by decide +kernel
theorem dX6_moreOf_45 : decode cX6_moreOf 45 = .ok (.iload_n 1, 1) := by decide +kernel
theorem dX6_moreOf_46 : decode cX6_moreOf 46 = .ok (.iadd, 1) := by decide +kernel
theorem dX6_moreOf_47 : decode cX6_moreOf 47 = .ok (.iaload, 1) := by decide +kernel
theorem dX6_moreOf_48 : decode cX6_moreOf 48 = .ok (.isub, 1) := by decide +kernel
theorem dX6_moreOf_49 : decode cX6_moreOf 49 = .ok (.goto 4, 3) := by decide +kernel
theorem dX6_moreOf_52 : decode cX6_moreOf 52 = .ok (.iconst 1, 1) := by decide +kernel
theorem dX6_moreOf_53 : decode cX6_moreOf 53 = .ok (.ireturn, 1) := by decide +kernel
theorem dX6_houseTells_0 : decode cX6_houseTells 0 = .ok (.iload_n 2, 1) := by decide +kernel
theorem dX6_houseTells_1 : decode cX6_houseTells 1 = .ok (.tableswitch 78 0 4 #[35, 42, 51, 58, 68], 35) := by decide +kernel
theorem dX6_houseTells_36 : decode cX6_houseTells 36 = .ok (.aload_n 0, 1) := by decide +kernel
theorem dX6_houseTells_37 : decode cX6_houseTells 37 = .ok (.getfield 32, 3) := by decide +kernel
theorem dX6_houseTells_40 : decode cX6_houseTells 40 = .ok (.iload_n 1, 1) := by decide +kernel
theorem dX6_houseTells_41 : decode cX6_houseTells 41 = .ok (.iaload, 1) := by decide +kernel
theorem dX6_houseTells_42 : decode cX6_houseTells 42 = .ok (.ireturn, 1) := by decide +kernel
theorem dX6_houseTells_43 : decode cX6_houseTells 43 = .ok (.aload_n 0, 1) := by decide +kernel
theorem dX6_houseTells_44 : decode cX6_houseTells 44 = .ok (.getfield 38, 3) := by decide +kernel
theorem dX6_houseTells_47 : decode cX6_houseTells 47 = .ok (.iconst 5, 1) := by decide +kernel
theorem dX6_houseTells_48 : decode cX6_houseTells 48 = .ok (.iload_n 1, 1) := by decide +kernel
theorem dX6_houseTells_49 : decode cX6_houseTells 49 = .ok (.iadd, 1) := by decide +kernel
theorem dX6_houseTells_50 : decode cX6_houseTells 50 = .ok (.iaload, 1) := by decide +kernel
theorem dX6_houseTells_51 : decode cX6_houseTells 51 = .ok (.ireturn, 1) := by decide +kernel
theorem dX6_houseTells_52 : decode cX6_houseTells 52 = .ok (.aload_n 0, 1) := by decide +kernel
theorem dX6_houseTells_53 : decode cX6_houseTells 53 = .ok (.getfield 35, 3) := by decide +kernel
theorem dX6_houseTells_56 : decode cX6_houseTells 56 = .ok (.iload_n 1, 1) := by decide +kernel
theorem dX6_houseTells_57 : decode cX6_houseTells 57 = .ok (.iaload, 1) := by decide +kernel
theorem dX6_houseTells_58 : decode cX6_houseTells 58 = .ok (.ireturn, 1) := by decide +kernel
theorem dX6_houseTells_59 : decode cX6_houseTells 59 = .ok (.aload_n 0, 1) := by decide +kernel
theorem dX6_houseTells_60 : decode cX6_houseTells 60 = .ok (.getfield 38, 3) := by decide +kernel
theorem dX6_houseTells_63 : decode cX6_houseTells 63 = .ok (.bipush 11, 2) := by decide +kernel
theorem dX6_houseTells_65 : decode cX6_houseTells 65 = .ok (.iload_n 1, 1) := by decide +kernel
theorem dX6_houseTells_66 : decode cX6_houseTells 66 = .ok (.iadd, 1) := by decide +kernel
theorem dX6_houseTells_67 : decode cX6_houseTells 67 = .ok (.iaload, 1) := by decide +kernel
theorem dX6_houseTells_68 : decode cX6_houseTells 68 = .ok (.ireturn, 1) := by decide +kernel
theorem dX6_houseTells_69 : decode cX6_houseTells 69 = .ok (.aload_n 0, 1) := by decide +kernel
theorem dX6_houseTells_70 : decode cX6_houseTells 70 = .ok (.getfield 38, 3) := by decide +kernel
theorem dX6_houseTells_73 : decode cX6_houseTells 73 = .ok (.bipush 17, 2) := by decide +kernel
theorem dX6_houseTells_75 : decode cX6_houseTells 75 = .ok (.iload_n 1, 1) := by decide +kernel
theorem dX6_houseTells_76 : decode cX6_houseTells 76 = .ok (.iadd, 1) := by decide +kernel
theorem dX6_houseTells_77 : decode cX6_houseTells 77 = .ok (.iaload, 1) := by decide +kernel
theorem dX6_houseTells_78 : decode cX6_houseTells 78 = .ok (.ireturn, 1) := by decide +kernel
theorem dX6_houseTells_79 : decode cX6_houseTells 79 = .ok (.aload_n 0, 1) := by decide +kernel
theorem dX6_houseTells_80 : decode cX6_houseTells 80 = .ok (.iload_n 1, 1) := by decide +kernel
theorem dX6_houseTells_81 : decode cX6_houseTells 81 = .ok (.invokevirtual 147, 3) := by decide +kernel
theorem dX6_houseTells_84 : decode cX6_houseTells 84 = .ok (.ireturn, 1) := by decide +kernel
theorem dX6_house_0 : decode cX6_house 0 = .ok (.aload_n 0, 1) := by decide +kernel
theorem dX6_house_1 : decode cX6_house 1 = .ok (.iload_n 1, 1) := by decide +kernel
theorem dX6_house_2 : decode cX6_house 2 = .ok (.invokevirtual 150, 3) := by decide +kernel
theorem dX6_house_5 : decode cX6_house 5 = .ok (.ifCond .eq 25, 3) := by decide +kernel
theorem dX6_house_8 : decode cX6_house 8 = .ok (.iload_n 2, 1) := by decide +kernel
theorem dX6_house_9 : decode cX6_house 9 = .ok (.iconst 0, 1) := by decide +kernel
theorem dX6_house_10 : decode cX6_house 10 = .ok (.iconst 5, 1) := by decide +kernel
theorem dX6_house_11 : decode cX6_house 11 = .ok (.invokestatic 69, 3) := by decide +kernel
theorem dX6_house_14 : decode cX6_house 14 = .ok (.ifCond .eq 16, 3) := by decide +kernel
theorem dX6_house_17 : decode cX6_house 17 = .ok (.aload_n 0, 1) := by decide +kernel
theorem dX6_house_18 : decode cX6_house 18 = .ok (.aload_n 0, 1) := by decide +kernel
theorem dX6_house_19 : decode cX6_house 19 = .ok (.iload_n 1, 1) := by decide +kernel
theorem dX6_house_20 : decode cX6_house 20 = .ok (.iload_n 2, 1) := by decide +kernel
theorem dX6_house_21 : decode cX6_house 21 = .ok (.invokevirtual 153, 3) := by decide +kernel
theorem dX6_house_24 : decode cX6_house 24 = .ok (.invokevirtual 81, 3) := by decide +kernel
theorem dX6_house_27 : decode cX6_house 27 = .ok (.goto 4, 3) := by decide +kernel
theorem dX6_house_30 : decode cX6_house 30 = .ok (.iconst (-1), 1) := by decide +kernel
theorem dX6_house_31 : decode cX6_house 31 = .ok (.ireturn, 1) := by decide +kernel
theorem dX6_awakeOnes_0 : decode cX6_awakeOnes 0 = .ok (.iconst 0, 1) := by decide +kernel
theorem dX6_awakeOnes_1 : decode cX6_awakeOnes 1 = .ok (.istore_n 1, 1) := by decide +kernel
theorem dX6_awakeOnes_2 : decode cX6_awakeOnes 2 = .ok (.iconst 0, 1) := by decide +kernel
theorem dX6_awakeOnes_3 : decode cX6_awakeOnes 3 = .ok (.istore_n 2, 1) := by decide +kernel
theorem dX6_awakeOnes_4 : decode cX6_awakeOnes 4 = .ok (.iload_n 2, 1) := by decide +kernel
theorem dX6_awakeOnes_5 : decode cX6_awakeOnes 5 = .ok (.aload_n 0, 1) := by decide +kernel
theorem dX6_awakeOnes_6 : decode cX6_awakeOnes 6 = .ok (.getfield 66, 3) := by decide +kernel
theorem dX6_awakeOnes_9 : decode cX6_awakeOnes 9 = .ok (.if_icmp .ge 27, 3) := by decide +kernel
theorem dX6_awakeOnes_12 : decode cX6_awakeOnes 12 = .ok (.iload_n 1, 1) := by decide +kernel
theorem dX6_awakeOnes_13 : decode cX6_awakeOnes 13 = .ok (.aload_n 0, 1) := by decide +kernel
theorem dX6_awakeOnes_14 : decode cX6_awakeOnes 14 = .ok (.iload_n 2, 1) := by decide +kernel
theorem dX6_awakeOnes_15 : decode cX6_awakeOnes 15 = .ok (.invokevirtual 140, 3) := by decide +kernel
theorem dX6_awakeOnes_18 : decode cX6_awakeOnes 18 = .ok (.ifCond .eq 9, 3) := by decide +kernel
theorem dX6_awakeOnes_21 : decode cX6_awakeOnes 21 = .ok (.iconst 1, 1) := by decide +kernel
theorem dX6_awakeOnes_22 : decode cX6_awakeOnes 22 = .ok (.iload_n 2, 1) := by decide +kernel
theorem dX6_awakeOnes_23 : decode cX6_awakeOnes 23 = .ok (.ishl, 1) := by decide +kernel
theorem dX6_awakeOnes_24 : decode cX6_awakeOnes 24 = .ok (.goto 4, 3) := by decide +kernel
theorem dX6_awakeOnes_27 : decode cX6_awakeOnes 27 = .ok (.iconst 0, 1) := by decide +kernel
theorem dX6_awakeOnes_28 : decode cX6_awakeOnes 28 = .ok (.ior, 1) := by decide +kernel
theorem dX6_awakeOnes_29 : decode cX6_awakeOnes 29 = .ok (.istore_n 1, 1) := by decide +kernel
theorem dX6_awakeOnes_30 : decode cX6_awakeOnes 30 = .ok (.iinc 2 1, 3) := by decide +kernel
theorem dX6_awakeOnes_33 : decode cX6_awakeOnes 33 = .ok (.goto (-29), 3) := by decide +kernel
theorem dX6_awakeOnes_36 : decode cX6_awakeOnes 36 = .ok (.iload_n 1, 1) := by decide +kernel
theorem dX6_awakeOnes_37 : decode cX6_awakeOnes 37 = .ok (.ireturn, 1) := by decide +kernel
theorem dX6_earlier_0 : decode cX6_earlier 0 = .ok (.iconst 0, 1) := by decide +kernel
theorem dX6_earlier_1 : decode cX6_earlier 1 = .ok (.istore_n 2, 1) := by decide +kernel
theorem dX6_earlier_2 : decode cX6_earlier 2 = .ok (.iconst 0, 1) := by decide +kernel
theorem dX6_earlier_3 : decode cX6_earlier 3 = .ok (.istore_n 3, 1) := by decide +kernel
theorem dX6_earlier_4 : decode cX6_earlier 4 = .ok (.iload_n 3, 1) := by decide +kernel
theorem dX6_earlier_5 : decode cX6_earlier 5 = .ok (.aload_n 0, 1) := by decide +kernel
theorem dX6_earlier_6 : decode cX6_earlier 6 = .ok (.getfield 66, 3) := by decide +kernel
theorem dX6_earlier_9 : decode cX6_earlier 9 = .ok (.if_icmp .ge 36, 3) := by decide +kernel
theorem dX6_earlier_12 : decode cX6_earlier 12 = .ok (.iload_n 2, 1) := by decide +kernel
theorem dX6_earlier_13 : decode cX6_earlier 13 = .ok (.aload_n 0, 1) := by decide +kernel
theorem dX6_earlier_14 : decode cX6_earlier 14 = .ok (.getfield 38, 3) := by decide +kernel
theorem dX6_earlier_17 : decode cX6_earlier 17 = .ok (.iconst 5, 1) := by decide +kernel
theorem dX6_earlier_18 : decode cX6_earlier 18 = .ok (.iload_n 3, 1) := by decide +kernel
theorem dX6_earlier_19 : decode cX6_earlier 19 = .ok (.iadd, 1) := by decide +kernel
theorem dX6_earlier_20 : decode cX6_earlier 20 = .ok (.iaload, 1) := by decide +kernel
theorem dX6_earlier_21 : decode cX6_earlier 21 = .ok (.aload_n 0, 1) := by decide +kernel
theorem dX6_earlier_22 : decode cX6_earlier 22 = .ok (.getfield 38, 3) := by decide +kernel
theorem dX6_earlier_25 : decode cX6_earlier 25 = .ok (.iconst 5, 1) := by decide +kernel
theorem dX6_earlier_26 : decode cX6_earlier 26 = .ok (.iload_n 1, 1) := by decide +kernel
theorem dX6_earlier_27 : decode cX6_earlier 27 = .ok (.iadd, 1) := by decide +kernel
theorem dX6_earlier_28 : decode cX6_earlier 28 = .ok (.iaload, 1) := by decide +kernel
theorem dX6_earlier_29 : decode cX6_earlier 29 = .ok (.if_icmp .ge 7, 3) := by decide +kernel
theorem dX6_earlier_32 : decode cX6_earlier 32 = .ok (.iconst 1, 1) := by decide +kernel
theorem dX6_earlier_33 : decode cX6_earlier 33 = .ok (.goto 4, 3) := by decide +kernel
theorem dX6_earlier_36 : decode cX6_earlier 36 = .ok (.iconst 0, 1) := by decide +kernel
theorem dX6_earlier_37 : decode cX6_earlier 37 = .ok (.iadd, 1) := by decide +kernel
theorem dX6_earlier_38 : decode cX6_earlier 38 = .ok (.istore_n 2, 1) := by decide +kernel
theorem dX6_earlier_39 : decode cX6_earlier 39 = .ok (.iinc 3 1, 3) := by decide +kernel
theorem dX6_earlier_42 : decode cX6_earlier 42 = .ok (.goto (-38), 3) := by decide +kernel
theorem dX6_earlier_45 : decode cX6_earlier 45 = .ok (.iload_n 2, 1) := by decide +kernel
theorem dX6_earlier_46 : decode cX6_earlier 46 = .ok (.ireturn, 1) := by decide +kernel
theorem dX6_mark_0 : decode cX6_mark 0 = .ok (.aload_n 0, 1) := by decide +kernel
theorem dX6_mark_1 : decode cX6_mark 1 = .ok (.iload_n 1, 1) := by decide +kernel
theorem dX6_mark_2 : decode cX6_mark 2 = .ok (.invokevirtual 150, 3) := by decide +kernel
theorem dX6_mark_5 : decode cX6_mark 5 = .ok (.ifCond .eq 12, 3) := by decide +kernel
theorem dX6_mark_8 : decode cX6_mark 8 = .ok (.iload_n 2, 1) := by decide +kernel
theorem dX6_mark_9 : decode cX6_mark 9 = .ok (.iconst 1, 1) := by decide +kernel
theorem dX6_mark_10 : decode cX6_mark 10 = .ok (.iconst 5, 1) := by decide +kernel
theorem dX6_mark_11 : decode cX6_mark 11 = .ok (.invokestatic 69, 3) := by decide +kernel
theorem dX6_mark_14 : decode cX6_mark 14 = .ok (.ifCond .ne 5, 3) := by decide +kernel
theorem dX6_mark_17 : decode cX6_mark 17 = .ok (.iconst (-1), 1) := by decide +kernel
theorem dX6_mark_18 : decode cX6_mark 18 = .ok (.ireturn, 1) := by decide +kernel
theorem dX6_mark_19 : decode cX6_mark 19 = .ok (.aload_n 0, 1) := by decide +kernel
theorem dX6_mark_20 : decode cX6_mark 20 = .ok (.getfield 32, 3) := by decide +kernel
theorem dX6_mark_23 : decode cX6_mark 23 = .ok (.iload_n 1, 1) := by decide +kernel
theorem dX6_mark_24 : decode cX6_mark 24 = .ok (.iaload, 1) := by decide +kernel
theorem dX6_mark_25 : decode cX6_mark 25 = .ok (.iload_n 2, 1) := by decide +kernel
theorem dX6_mark_26 : decode cX6_mark 26 = .ok (.invokestatic 156, 3) := by decide +kernel
theorem dX6_mark_29 : decode cX6_mark 29 = .ok (.ifCond .ne 9, 3) := by decide +kernel
theorem dX6_mark_32 : decode cX6_mark 32 = .ok (.aload_n 0, 1) := by decide +kernel
theorem dX6_mark_33 : decode cX6_mark 33 = .ok (.iconst 3, 1) := by decide +kernel
theorem dX6_mark_34 : decode cX6_mark 34 = .ok (.invokevirtual 73, 3) := by decide +kernel
theorem dX6_mark_37 : decode cX6_mark 37 = .ok (.ireturn, 1) := by decide +kernel
theorem dX6_mark_38 : decode cX6_mark 38 = .ok (.aload_n 0, 1) := by decide +kernel
theorem dX6_mark_39 : decode cX6_mark 39 = .ok (.iload_n 1, 1) := by decide +kernel
theorem dX6_mark_40 : decode cX6_mark 40 = .ok (.invokevirtual 144, 3) := by decide +kernel
theorem dX6_mark_43 : decode cX6_mark 43 = .ok (.istore_n 3, 1) := by decide +kernel
theorem dX6_mark_44 : decode cX6_mark 44 = .ok (.iload_n 2, 1) := by decide +kernel
theorem dX6_mark_45 : decode cX6_mark 45 = .ok (.tableswitch 89 1 4 #[31, 58, 73, 87], 31) := by decide +kernel
theorem dX6_mark_76 : decode cX6_mark 76 = .ok (.iload_n 3, 1) := by decide +kernel
theorem dX6_mark_77 : decode cX6_mark 77 = .ok (.bipush (-9), 2) := by decide +kernel
theorem dX6_mark_79 : decode cX6_mark 79 = .ok (.if_icmp .ne 8, 3) := by decide +kernel
theorem dX6_mark_82 : decode cX6_mark 82 = .ok (.bipush (-9), 2) := by decide +kernel
theorem dX6_mark_84 : decode cX6_mark 84 = .ok (.goto 18, 3) := by decide +kernel
theorem dX6_mark_87 : decode cX6_mark 87 = .ok (.iload_n 3, 1) := by decide +kernel
theorem dX6_mark_88 : decode cX6_mark 88 = .ok (.aload_n 0, 1) := by decide +kernel
theorem dX6_mark_89 : decode cX6_mark 89 = .ok (.iconst 0, 1) := by decide +kernel
theorem dX6_mark_90 : decode cX6_mark 90 = .ok (.aload_n 0, 1) := by decide +kernel
theorem dX6_mark_91 : decode cX6_mark 91 = .ok (.getfield 38, 3) := by decide +kernel
theorem dX6_mark_94 : decode cX6_mark 94 = .ok (.iconst 5, 1) := by decide +kernel
theorem dX6_mark_95 : decode cX6_mark 95 = .ok (.iload_n 1, 1) := by decide +kernel
theorem dX6_mark_96 : decode cX6_mark 96 = .ok (.iadd, 1) := by decide +kernel
theorem dX6_mark_97 : decode cX6_mark 97 = .ok (.iaload, 1) := by decide +kernel
theorem dX6_mark_98 : decode cX6_mark 98 = .ok (.invokevirtual 137, 3) := by decide +kernel
theorem dX6_mark_101 : decode cX6_mark 101 = .ok (.isub, 1) := by decide +kernel
theorem dX6_mark_102 : decode cX6_mark 102 = .ok (.ireturn, 1) := by decide +kernel
theorem dX6_mark_103 : decode cX6_mark 103 = .ok (.aload_n 0, 1) := by decide +kernel
theorem dX6_mark_104 : decode cX6_mark 104 = .ok (.getfield 32, 3) := by decide +kernel
theorem dX6_mark_107 : decode cX6_mark 107 = .ok (.iload_n 1, 1) := by decide +kernel
theorem dX6_mark_108 : decode cX6_mark 108 = .ok (.iaload, 1) := by decide +kernel
theorem dX6_mark_109 : decode cX6_mark 109 = .ok (.invokestatic 160, 3) := by decide +kernel
theorem dX6_mark_112 : decode cX6_mark 112 = .ok (.iconst 0, 1) := by decide +kernel
theorem dX6_mark_113 : decode cX6_mark 113 = .ok (.invokestatic 160, 3) := by decide +kernel
theorem dX6_mark_116 : decode cX6_mark 116 = .ok (.isub, 1) := by decide +kernel
theorem dX6_mark_117 : decode cX6_mark 117 = .ok (.ireturn, 1) := by decide +kernel
theorem dX6_mark_118 : decode cX6_mark 118 = .ok (.aload_n 0, 1) := by decide +kernel
theorem dX6_mark_119 : decode cX6_mark 119 = .ok (.invokevirtual 163, 3) := by decide +kernel
theorem dX6_mark_122 : decode cX6_mark 122 = .ok (.iconst 1, 1) := by decide +kernel
theorem dX6_mark_123 : decode cX6_mark 123 = .ok (.iload_n 1, 1) := by decide +kernel
theorem dX6_mark_124 : decode cX6_mark 124 = .ok (.ishl, 1) := by decide +kernel
theorem dX6_mark_125 : decode cX6_mark 125 = .ok (.iconst (-1), 1) := by decide +kernel
theorem dX6_mark_126 : decode cX6_mark 126 = .ok (.ixor, 1) := by decide +kernel
theorem dX6_mark_127 : decode cX6_mark 127 = .ok (.iand, 1) := by decide +kernel
theorem dX6_mark_128 : decode cX6_mark 128 = .ok (.invokestatic 166, 3) := by decide +kernel
theorem dX6_mark_131 : decode cX6_mark 131 = .ok (.ireturn, 1) := by decide +kernel
theorem dX6_mark_132 : decode cX6_mark 132 = .ok (.iload_n 3, 1) := by decide +kernel
theorem dX6_mark_133 : decode cX6_mark 133 = .ok (.ireturn, 1) := by decide +kernel
theorem dX6_mark_134 : decode cX6_mark 134 = .ok (.aload_n 0, 1) := by decide +kernel
theorem dX6_mark_135 : decode cX6_mark 135 = .ok (.iload_n 1, 1) := by decide +kernel
theorem dX6_mark_136 : decode cX6_mark 136 = .ok (.invokevirtual 169, 3) := by decide +kernel
theorem dX6_mark_139 : decode cX6_mark 139 = .ok (.ireturn, 1) := by decide +kernel
theorem dX6_note_0 : decode cX6_note 0 = .ok (.aload_n 0, 1) := by decide +kernel
theorem dX6_note_1 : decode cX6_note 1 = .ok (.getfield 38, 3) := by decide +kernel
theorem dX6_note_4 : decode cX6_note 4 = .ok (.iconst 0, 1) := by decide +kernel
theorem dX6_note_5 : decode cX6_note 5 = .ok (.aload_n 0, 1) := by decide +kernel
theorem dX6_note_6 : decode cX6_note 6 = .ok (.getfield 41, 3) := by decide +kernel
theorem dX6_note_9 : decode cX6_note 9 = .ok (.bipush 23, 2) := by decide +kernel
theorem dX6_note_11 : decode cX6_note 11 = .ok (.aload_n 0, 1) := by decide +kernel
theorem dX6_note_12 : decode cX6_note 12 = .ok (.getfield 134, 3) := by decide +kernel
theorem dX6_note_15 : decode cX6_note 15 = .ok (.imul, 1) := by decide +kernel
theorem dX6_note_16 : decode cX6_note 16 = .ok (.bipush 23, 2) := by decide +kernel
theorem dX6_note_18 : decode cX6_note 18 = .ok (.invokestatic 172, 3) := by decide +kernel
theorem dX6_note_21 : decode cX6_note 21 = .ok (.aload_n 0, 1) := by decide +kernel
theorem dX6_note_22 : decode cX6_note 22 = .ok (.dup, 1) := by decide +kernel
theorem dX6_note_23 : decode cX6_note 23 = .ok (.getfield 134, 3) := by decide +kernel
theorem dX6_note_26 : decode cX6_note 26 = .ok (.iconst 1, 1) := by decide +kernel
theorem dX6_note_27 : decode cX6_note 27 = .ok (.iadd, 1) := by decide +kernel
theorem dX6_note_28 : decode cX6_note 28 = .ok (.putfield 134, 3) := by decide +kernel
theorem dX6_note_31 : decode cX6_note 31 = .ok (.return_, 1) := by decide +kernel
theorem dX6_far_0 : decode cX6_far 0 = .ok (.iload_n 0, 1) := by decide +kernel
theorem dX6_far_1 : decode cX6_far 1 = .ok (.iload_n 1, 1) := by decide +kernel
theorem dX6_far_2 : decode cX6_far 2 = .ok (.if_icmp .le 9, 3) := by decide +kernel
theorem dX6_far_5 : decode cX6_far 5 = .ok (.iload_n 0, 1) := by decide +kernel
theorem dX6_far_6 : decode cX6_far 6 = .ok (.iload_n 1, 1) := by decide +kernel
theorem dX6_far_7 : decode cX6_far 7 = .ok (.isub, 1) := by decide +kernel
theorem dX6_far_8 : decode cX6_far 8 = .ok (.goto 6, 3) := by decide +kernel
theorem dX6_far_11 : decode cX6_far 11 = .ok (.iload_n 1, 1) := by decide +kernel
theorem dX6_far_12 : decode cX6_far 12 = .ok (.iload_n 0, 1) := by decide +kernel
theorem dX6_far_13 : decode cX6_far 13 = .ok (.isub, 1) := by decide +kernel
theorem dX6_far_14 : decode cX6_far 14 = .ok (.ireturn, 1) := by decide +kernel
theorem dX6_goes_0 : decode cX6_goes 0 = .ok (.aload_n 0, 1) := by decide +kernel
theorem dX6_goes_1 : decode cX6_goes 1 = .ok (.getfield 38, 3) := by decide +kernel
theorem dX6_goes_4 : decode cX6_goes 4 = .ok (.iconst 0, 1) := by decide +kernel
theorem dX6_goes_5 : decode cX6_goes 5 = .ok (.dup2, 1) := by decide +kernel
theorem dX6_goes_6 : decode cX6_goes 6 = .ok (.iaload, 1) := by decide +kernel
theorem dX6_goes_7 : decode cX6_goes 7 = .ok (.iload_n 1, 1) := by decide +kernel
theorem dX6_goes_8 : decode cX6_goes 8 = .ok (.aload_n 0, 1) := by decide +kernel
theorem dX6_goes_9 : decode cX6_goes 9 = .ok (.getfield 38, 3) := by decide +kernel
theorem dX6_goes_12 : decode cX6_goes 12 = .ok (.iconst 2, 1) := by decide +kernel
theorem dX6_goes_13 : decode cX6_goes 13 = .ok (.iaload, 1) := by decide +kernel
theorem dX6_goes_14 : decode cX6_goes 14 = .ok (.invokestatic 176, 3) := by decide +kernel
theorem dX6_goes_17 : decode cX6_goes 17 = .ok (.iadd, 1) := by decide +kernel
theorem dX6_goes_18 : decode cX6_goes 18 = .ok (.iastore, 1) := by decide +kernel
theorem dX6_goes_19 : decode cX6_goes 19 = .ok (.aload_n 0, 1) := by decide +kernel
theorem dX6_goes_20 : decode cX6_goes 20 = .ok (.getfield 38, 3) := by decide +kernel
theorem dX6_goes_23 : decode cX6_goes 23 = .ok (.iconst 2, 1) := by decide +kernel
theorem dX6_goes_24 : decode cX6_goes 24 = .ok (.iload_n 1, 1) := by decide +kernel
theorem dX6_goes_25 : decode cX6_goes 25 = .ok (.iastore, 1) := by decide +kernel
theorem dX6_goes_26 : decode cX6_goes 26 = .ok (.return_, 1) := by decide +kernel
theorem dX6_taps_0 : decode cX6_taps 0 = .ok (.aload_n 0, 1) := by decide +kernel
theorem dX6_taps_1 : decode cX6_taps 1 = .ok (.getfield 38, 3) := by decide +kernel
theorem dX6_taps_4 : decode cX6_taps 4 = .ok (.iconst 2, 1) := by decide +kernel
theorem dX6_taps_5 : decode cX6_taps 5 = .ok (.iaload, 1) := by decide +kernel
theorem dX6_taps_6 : decode cX6_taps 6 = .ok (.istore_n 1, 1) := by decide +kernel
theorem dX6_taps_7 : decode cX6_taps 7 = .ok (.aload_n 0, 1) := by decide +kernel
theorem dX6_taps_8 : decode cX6_taps 8 = .ok (.iload_n 1, 1) := by decide +kernel
theorem dX6_taps_9 : decode cX6_taps 9 = .ok (.invokevirtual 144, 3) := by decide +kernel
theorem dX6_taps_12 : decode cX6_taps 12 = .ok (.istore_n 2, 1) := by decide +kernel
theorem dX6_taps_13 : decode cX6_taps 13 = .ok (.aload_n 0, 1) := by decide +kernel
theorem dX6_taps_14 : decode cX6_taps 14 = .ok (.getfield 38, 3) := by decide +kernel
theorem dX6_taps_17 : decode cX6_taps 17 = .ok (.iconst 0, 1) := by decide +kernel
theorem dX6_taps_18 : decode cX6_taps 18 = .ok (.dup2, 1) := by decide +kernel
theorem dX6_taps_19 : decode cX6_taps 19 = .ok (.iaload, 1) := by decide +kernel
theorem dX6_taps_20 : decode cX6_taps 20 = .ok (.iconst 1, 1) := by decide +kernel
theorem dX6_taps_21 : decode cX6_taps 21 = .ok (.iadd, 1) := by decide +kernel
theorem dX6_taps_22 : decode cX6_taps 22 = .ok (.iastore, 1) := by decide +kernel
theorem dX6_taps_23 : decode cX6_taps 23 = .ok (.aload_n 0, 1) := by decide +kernel
theorem dX6_taps_24 : decode cX6_taps 24 = .ok (.getfield 38, 3) := by decide +kernel
theorem dX6_taps_27 : decode cX6_taps 27 = .ok (.bipush 11, 2) := by decide +kernel
theorem dX6_taps_29 : decode cX6_taps 29 = .ok (.iload_n 1, 1) := by decide +kernel
theorem dX6_taps_30 : decode cX6_taps 30 = .ok (.iadd, 1) := by decide +kernel
theorem dX6_taps_31 : decode cX6_taps 31 = .ok (.dup2, 1) := by decide +kernel
theorem dX6_taps_32 : decode cX6_taps 32 = .ok (.iaload, 1) := by decide +kernel
theorem dX6_taps_33 : decode cX6_taps 33 = .ok (.iconst 1, 1) := by decide +kernel
theorem dX6_taps_34 : decode cX6_taps 34 = .ok (.iadd, 1) := by decide +kernel
theorem dX6_taps_35 : decode cX6_taps 35 = .ok (.iastore, 1) := by decide +kernel
theorem dX6_taps_36 : decode cX6_taps 36 = .ok (.aload_n 0, 1) := by decide +kernel
theorem dX6_taps_37 : decode cX6_taps 37 = .ok (.iload_n 1, 1) := by decide +kernel
theorem dX6_taps_38 : decode cX6_taps 38 = .ok (.invokevirtual 140, 3) := by decide +kernel
theorem dX6_taps_41 : decode cX6_taps 41 = .ok (.ifCond .ne 76, 3) := by decide +kernel
theorem dX6_taps_44 : decode cX6_taps 44 = .ok (.iload_n 2, 1) := by decide +kernel
theorem dX6_taps_45 : decode cX6_taps 45 = .ok (.bipush (-9), 2) := by decide +kernel
theorem dX6_taps_47 : decode cX6_taps 47 = .ok (.if_icmp .eq 70, 3) := by decide +kernel
theorem dX6_taps_50 : decode cX6_taps 50 = .ok (.aload_n 0, 1) := by decide +kernel
theorem dX6_taps_51 : decode cX6_taps 51 = .ok (.getfield 38, 3) := by decide +kernel
theorem dX6_taps_54 : decode cX6_taps 54 = .ok (.bipush 11, 2) := by decide +kernel
theorem dX6_taps_56 : decode cX6_taps 56 = .ok (.iload_n 1, 1) := by decide +kernel
theorem dX6_taps_57 : decode cX6_taps 57 = .ok (.iadd, 1) := by decide +kernel
theorem dX6_taps_58 : decode cX6_taps 58 = .ok (.iaload, 1) := by decide +kernel
theorem dX6_taps_59 : decode cX6_taps 59 = .ok (.iload_n 2, 1) := by decide +kernel
theorem dX6_taps_60 : decode cX6_taps 60 = .ok (.if_icmp .lt 57, 3) := by decide +kernel
theorem dX6_taps_63 : decode cX6_taps 63 = .ok (.aload_n 0, 1) := by decide +kernel
theorem dX6_taps_64 : decode cX6_taps 64 = .ok (.getfield 38, 3) := by decide +kernel
theorem dX6_taps_67 : decode cX6_taps 67 = .ok (.iconst 4, 1) := by decide +kernel
theorem dX6_taps_68 : decode cX6_taps 68 = .ok (.iaload, 1) := by decide +kernel
theorem dX6_taps_69 : decode cX6_taps 69 = .ok (.aload_n 0, 1) := by decide +kernel
theorem dX6_taps_70 : decode cX6_taps 70 = .ok (.getfield 32, 3) := by decide +kernel
theorem dX6_taps_73 : decode cX6_taps 73 = .ok (.iload_n 1, 1) := by decide +kernel
theorem dX6_taps_74 : decode cX6_taps 74 = .ok (.iaload, 1) := by decide +kernel
theorem dX6_taps_75 : decode cX6_taps 75 = .ok (.invokestatic 160, 3) := by decide +kernel
theorem dX6_taps_78 : decode cX6_taps 78 = .ok (.iadd, 1) := by decide +kernel
theorem dX6_taps_79 : decode cX6_taps 79 = .ok (.istore_n 3, 1) := by decide +kernel
theorem dX6_taps_80 : decode cX6_taps 80 = .ok (.aload_n 0, 1) := by decide +kernel
theorem dX6_taps_81 : decode cX6_taps 81 = .ok (.getfield 38, 3) := by decide +kernel
theorem dX6_taps_84 : decode cX6_taps 84 = .ok (.bipush 17, 2) := by decide +kernel
theorem dX6_taps_86 : decode cX6_taps 86 = .ok (.iload_n 1, 1) := by decide +kernel
theorem dX6_taps_87 : decode cX6_taps 87 = .ok (.iadd, 1) := by decide +kernel
theorem dX6_taps_88 : decode cX6_taps 88 = .ok (.aload_n 0, 1) := by decide +kernel
theorem dX6_taps_89 : decode cX6_taps 89 = .ok (.getfield 38, 3) := by decide +kernel
theorem dX6_taps_92 : decode cX6_taps 92 = .ok (.iconst 5, 1) := by decide +kernel
theorem dX6_taps_93 : decode cX6_taps 93 = .ok (.iload_n 1, 1) := by decide +kernel
theorem dX6_taps_94 : decode cX6_taps 94 = .ok (.iadd, 1) := by decide +kernel
theorem dX6_taps_95 : decode cX6_taps 95 = .ok (.iaload, 1) := by decide +kernel
theorem dX6_taps_96 : decode cX6_taps 96 = .ok (.iastore, 1) := by decide +kernel
theorem dX6_taps_97 : decode cX6_taps 97 = .ok (.aload_n 0, 1) := by decide +kernel
theorem dX6_taps_98 : decode cX6_taps 98 = .ok (.getfield 38, 3) := by decide +kernel
theorem dX6_taps_101 : decode cX6_taps 101 = .ok (.iconst 4, 1) := by decide +kernel
theorem dX6_taps_102 : decode cX6_taps 102 = .ok (.iload_n 3, 1) := by decide +kernel
theorem dX6_taps_103 : decode cX6_taps 103 = .ok (.sipush 9999, 3) := by decide +kernel
theorem dX6_taps_106 : decode cX6_taps 106 = .ok (.if_icmp .le 9, 3) := by decide +kernel
theorem dX6_taps_109 : decode cX6_taps 109 = .ok (.sipush 9999, 3) := by decide +kernel
theorem dX6_taps_112 : decode cX6_taps 112 = .ok (.goto 4, 3) := by decide +kernel
theorem dX6_taps_115 : decode cX6_taps 115 = .ok (.iload_n 3, 1) := by decide +kernel
theorem dX6_taps_116 : decode cX6_taps 116 = .ok (.iastore, 1) := by decide +kernel
theorem dX6_taps_117 : decode cX6_taps 117 = .ok (.return_, 1) := by decide +kernel
theorem dX6_changes_0 : decode cX6_changes 0 = .ok (.aload_n 0, 1) := by decide +kernel
theorem dX6_changes_1 : decode cX6_changes 1 = .ok (.getfield 38, 3) := by decide +kernel
theorem dX6_changes_4 : decode cX6_changes 4 = .ok (.iconst 5, 1) := by decide +kernel
theorem dX6_changes_5 : decode cX6_changes 5 = .ok (.iload_n 1, 1) := by decide +kernel
theorem dX6_changes_6 : decode cX6_changes 6 = .ok (.iadd, 1) := by decide +kernel
theorem dX6_changes_7 : decode cX6_changes 7 = .ok (.iload_n 2, 1) := by decide +kernel
theorem dX6_changes_8 : decode cX6_changes 8 = .ok (.iastore, 1) := by decide +kernel
theorem dX6_changes_9 : decode cX6_changes 9 = .ok (.aload_n 0, 1) := by decide +kernel
theorem dX6_changes_10 : decode cX6_changes 10 = .ok (.getfield 38, 3) := by decide +kernel
theorem dX6_changes_13 : decode cX6_changes 13 = .ok (.bipush 11, 2) := by decide +kernel
theorem dX6_changes_15 : decode cX6_changes 15 = .ok (.iload_n 1, 1) := by decide +kernel
theorem dX6_changes_16 : decode cX6_changes 16 = .ok (.iadd, 1) := by decide +kernel
theorem dX6_changes_17 : decode cX6_changes 17 = .ok (.iconst 0, 1) := by decide +kernel
theorem dX6_changes_18 : decode cX6_changes 18 = .ok (.iastore, 1) := by decide +kernel
theorem dX6_changes_19 : decode cX6_changes 19 = .ok (.return_, 1) := by decide +kernel
theorem dX6_walk_0 : decode cX6_walk 0 = .ok (.aload_n 0, 1) := by decide +kernel
theorem dX6_walk_1 : decode cX6_walk 1 = .ok (.iload_n 1, 1) := by decide +kernel
theorem dX6_walk_2 : decode cX6_walk 2 = .ok (.invokevirtual 150, 3) := by decide +kernel
theorem dX6_walk_5 : decode cX6_walk 5 = .ok (.ifCond .ne 5, 3) := by decide +kernel
theorem dX6_walk_8 : decode cX6_walk 8 = .ok (.iconst (-1), 1) := by decide +kernel
theorem dX6_walk_9 : decode cX6_walk 9 = .ok (.ireturn, 1) := by decide +kernel
theorem dX6_walk_10 : decode cX6_walk 10 = .ok (.iload_n 1, 1) := by decide +kernel
theorem dX6_walk_11 : decode cX6_walk 11 = .ok (.aload_n 0, 1) := by decide +kernel
theorem dX6_walk_12 : decode cX6_walk 12 = .ok (.getfield 38, 3) := by decide +kernel
theorem dX6_walk_15 : decode cX6_walk 15 = .ok (.iconst 2, 1) := by decide +kernel
theorem dX6_walk_16 : decode cX6_walk 16 = .ok (.iaload, 1) := by decide +kernel
theorem dX6_walk_17 : decode cX6_walk 17 = .ok (.if_icmp .ne 6, 3) := by decide +kernel
theorem dX6_walk_20 : decode cX6_walk 20 = .ok (.bipush (-4), 2) := by decide +kernel
theorem dX6_walk_22 : decode cX6_walk 22 = .ok (.ireturn, 1) := by decide +kernel
theorem dX6_walk_23 : decode cX6_walk 23 = .ok (.aload_n 0, 1) := by decide +kernel
theorem dX6_walk_24 : decode cX6_walk 24 = .ok (.getfield 134, 3) := by decide +kernel
theorem dX6_walk_27 : decode cX6_walk 27 = .ok (.bipush 40, 2) := by decide +kernel
theorem dX6_walk_29 : decode cX6_walk 29 = .ok (.if_icmp .ne 6, 3) := by decide +kernel
theorem dX6_walk_32 : decode cX6_walk 32 = .ok (.bipush (-2), 2) := by decide +kernel
theorem dX6_walk_34 : decode cX6_walk 34 = .ok (.ireturn, 1) := by decide +kernel
theorem dX6_walk_35 : decode cX6_walk 35 = .ok (.aload_n 0, 1) := by decide +kernel
theorem dX6_walk_36 : decode cX6_walk 36 = .ok (.invokevirtual 179, 3) := by decide +kernel
theorem dX6_walk_39 : decode cX6_walk 39 = .ok (.aload_n 0, 1) := by decide +kernel
theorem dX6_walk_40 : decode cX6_walk 40 = .ok (.iload_n 1, 1) := by decide +kernel
theorem dX6_walk_41 : decode cX6_walk 41 = .ok (.invokevirtual 182, 3) := by decide +kernel
theorem dX6_walk_44 : decode cX6_walk 44 = .ok (.aload_n 0, 1) := by decide +kernel
theorem dX6_walk_45 : decode cX6_walk 45 = .ok (.getfield 38, 3) := by decide +kernel
theorem dX6_walk_48 : decode cX6_walk 48 = .ok (.iconst 0, 1) := by decide +kernel
theorem dX6_walk_49 : decode cX6_walk 49 = .ok (.iaload, 1) := by decide +kernel
theorem dX6_walk_50 : decode cX6_walk 50 = .ok (.ireturn, 1) := by decide +kernel
theorem dX6_tap_0 : decode cX6_tap 0 = .ok (.aload_n 0, 1) := by decide +kernel
theorem dX6_tap_1 : decode cX6_tap 1 = .ok (.getfield 66, 3) := by decide +kernel
theorem dX6_tap_4 : decode cX6_tap 4 = .ok (.ifCond .ne 6, 3) := by decide +kernel
theorem dX6_tap_7 : decode cX6_tap 7 = .ok (.bipush (-4), 2) := by decide +kernel
theorem dX6_tap_9 : decode cX6_tap 9 = .ok (.ireturn, 1) := by decide +kernel
theorem dX6_tap_10 : decode cX6_tap 10 = .ok (.aload_n 0, 1) := by decide +kernel
theorem dX6_tap_11 : decode cX6_tap 11 = .ok (.getfield 134, 3) := by decide +kernel
theorem dX6_tap_14 : decode cX6_tap 14 = .ok (.bipush 40, 2) := by decide +kernel
theorem dX6_tap_16 : decode cX6_tap 16 = .ok (.if_icmp .ne 6, 3) := by decide +kernel
theorem dX6_tap_19 : decode cX6_tap 19 = .ok (.bipush (-2), 2) := by decide +kernel
theorem dX6_tap_21 : decode cX6_tap 21 = .ok (.ireturn, 1) := by decide +kernel
theorem dX6_tap_22 : decode cX6_tap 22 = .ok (.aload_n 0, 1) := by decide +kernel
theorem dX6_tap_23 : decode cX6_tap 23 = .ok (.invokevirtual 179, 3) := by decide +kernel
theorem dX6_tap_26 : decode cX6_tap 26 = .ok (.aload_n 0, 1) := by decide +kernel
theorem dX6_tap_27 : decode cX6_tap 27 = .ok (.invokevirtual 186, 3) := by decide +kernel
theorem dX6_tap_30 : decode cX6_tap 30 = .ok (.aload_n 0, 1) := by decide +kernel
theorem dX6_tap_31 : decode cX6_tap 31 = .ok (.aload_n 0, 1) := by decide +kernel
theorem dX6_tap_32 : decode cX6_tap 32 = .ok (.getfield 38, 3) := by decide +kernel
theorem dX6_tap_35 : decode cX6_tap 35 = .ok (.iconst 2, 1) := by decide +kernel
theorem dX6_tap_36 : decode cX6_tap 36 = .ok (.iaload, 1) := by decide +kernel
theorem dX6_tap_37 : decode cX6_tap 37 = .ok (.invokevirtual 140, 3) := by decide +kernel
theorem dX6_tap_40 : decode cX6_tap 40 = .ok (.ifCond .eq 7, 3) := by decide +kernel
theorem dX6_tap_43 : decode cX6_tap 43 = .ok (.iconst 1, 1) := by decide +kernel
theorem dX6_tap_44 : decode cX6_tap 44 = .ok (.goto 4, 3) := by decide +kernel
theorem dX6_tap_47 : decode cX6_tap 47 = .ok (.iconst 0, 1) := by decide +kernel
theorem dX6_tap_48 : decode cX6_tap 48 = .ok (.ireturn, 1) := by decide +kernel
theorem dX6_slate_0 : decode cX6_slate 0 = .ok (.aload_n 0, 1) := by decide +kernel
theorem dX6_slate_1 : decode cX6_slate 1 = .ok (.iload_n 1, 1) := by decide +kernel
theorem dX6_slate_2 : decode cX6_slate 2 = .ok (.invokevirtual 150, 3) := by decide +kernel
theorem dX6_slate_5 : decode cX6_slate 5 = .ok (.ifCond .eq 13, 3) := by decide +kernel
theorem dX6_slate_8 : decode cX6_slate 8 = .ok (.iload_n 2, 1) := by decide +kernel
theorem dX6_slate_9 : decode cX6_slate 9 = .ok (.iconst 0, 1) := by decide +kernel
theorem dX6_slate_10 : decode cX6_slate 10 = .ok (.bipush 99, 2) := by decide +kernel
theorem dX6_slate_12 : decode cX6_slate 12 = .ok (.invokestatic 69, 3) := by decide +kernel
theorem dX6_slate_15 : decode cX6_slate 15 = .ok (.ifCond .ne 5, 3) := by decide +kernel
theorem dX6_slate_18 : decode cX6_slate 18 = .ok (.iconst (-1), 1) := by decide +kernel
theorem dX6_slate_19 : decode cX6_slate 19 = .ok (.ireturn, 1) := by decide +kernel
theorem dX6_slate_20 : decode cX6_slate 20 = .ok (.aload_n 0, 1) := by decide +kernel
theorem dX6_slate_21 : decode cX6_slate 21 = .ok (.getfield 38, 3) := by decide +kernel
theorem dX6_slate_24 : decode cX6_slate 24 = .ok (.iconst 5, 1) := by decide +kernel
theorem dX6_slate_25 : decode cX6_slate 25 = .ok (.iload_n 1, 1) := by decide +kernel
theorem dX6_slate_26 : decode cX6_slate 26 = .ok (.iadd, 1) := by decide +kernel
theorem dX6_slate_27 : decode cX6_slate 27 = .ok (.iaload, 1) := by decide +kernel
theorem dX6_slate_28 : decode cX6_slate 28 = .ok (.istore_n 3, 1) := by decide +kernel
theorem dX6_slate_29 : decode cX6_slate 29 = .ok (.iload_n 3, 1) := by decide +kernel
theorem dX6_slate_30 : decode cX6_slate 30 = .ok (.iload_n 2, 1) := by decide +kernel
theorem dX6_slate_31 : decode cX6_slate 31 = .ok (.if_icmp .ne 6, 3) := by decide +kernel
theorem dX6_slate_34 : decode cX6_slate 34 = .ok (.bipush (-4), 2) := by decide +kernel
theorem dX6_slate_36 : decode cX6_slate 36 = .ok (.ireturn, 1) := by decide +kernel
theorem dX6_slate_37 : decode cX6_slate 37 = .ok (.aload_n 0, 1) := by decide +kernel
theorem dX6_slate_38 : decode cX6_slate 38 = .ok (.getfield 134, 3) := by decide +kernel
theorem dX6_slate_41 : decode cX6_slate 41 = .ok (.bipush 40, 2) := by decide +kernel
theorem dX6_slate_43 : decode cX6_slate 43 = .ok (.if_icmp .ne 6, 3) := by decide +kernel
theorem dX6_slate_46 : decode cX6_slate 46 = .ok (.bipush (-2), 2) := by decide +kernel
theorem dX6_slate_48 : decode cX6_slate 48 = .ok (.ireturn, 1) := by decide +kernel
theorem dX6_slate_49 : decode cX6_slate 49 = .ok (.aload_n 0, 1) := by decide +kernel
theorem dX6_slate_50 : decode cX6_slate 50 = .ok (.invokevirtual 179, 3) := by decide +kernel
theorem dX6_slate_53 : decode cX6_slate 53 = .ok (.aload_n 0, 1) := by decide +kernel
theorem dX6_slate_54 : decode cX6_slate 54 = .ok (.iload_n 1, 1) := by decide +kernel
theorem dX6_slate_55 : decode cX6_slate 55 = .ok (.iload_n 2, 1) := by decide +kernel
theorem dX6_slate_56 : decode cX6_slate 56 = .ok (.invokevirtual 189, 3) := by decide +kernel
theorem dX6_slate_59 : decode cX6_slate 59 = .ok (.iload_n 3, 1) := by decide +kernel
theorem dX6_slate_60 : decode cX6_slate 60 = .ok (.ireturn, 1) := by decide +kernel
theorem dX6_frost_0 : decode cX6_frost 0 = .ok (.iload_n 1, 1) := by decide +kernel
theorem dX6_frost_1 : decode cX6_frost 1 = .ok (.iconst 0, 1) := by decide +kernel
theorem dX6_frost_2 : decode cX6_frost 2 = .ok (.iconst 1, 1) := by decide +kernel
theorem dX6_frost_3 : decode cX6_frost 3 = .ok (.invokestatic 69, 3) := by decide +kernel
theorem dX6_frost_6 : decode cX6_frost 6 = .ok (.ifCond .ne 5, 3) := by decide +kernel
theorem dX6_frost_9 : decode cX6_frost 9 = .ok (.iconst (-1), 1) := by decide +kernel
theorem dX6_frost_10 : decode cX6_frost 10 = .ok (.ireturn, 1) := by decide +kernel
theorem dX6_frost_11 : decode cX6_frost 11 = .ok (.aload_n 0, 1) := by decide +kernel
theorem dX6_frost_12 : decode cX6_frost 12 = .ok (.getfield 66, 3) := by decide +kernel
theorem dX6_frost_15 : decode cX6_frost 15 = .ok (.ifCond .eq 13, 3) := by decide +kernel
theorem dX6_frost_18 : decode cX6_frost 18 = .ok (.aload_n 0, 1) := by decide +kernel
theorem dX6_frost_19 : decode cX6_frost 19 = .ok (.getfield 38, 3) := by decide +kernel
theorem dX6_frost_22 : decode cX6_frost 22 = .ok (.iconst 3, 1) := by decide +kernel
theorem dX6_frost_23 : decode cX6_frost 23 = .ok (.iaload, 1) := by decide +kernel
theorem dX6_frost_24 : decode cX6_frost 24 = .ok (.iload_n 1, 1) := by decide +kernel
theorem dX6_frost_25 : decode cX6_frost 25 = .ok (.if_icmp .ne 6, 3) := by decide +kernel
theorem dX6_frost_28 : decode cX6_frost 28 = .ok (.bipush (-4), 2) := by decide +kernel
theorem dX6_frost_30 : decode cX6_frost 30 = .ok (.ireturn, 1) := by decide +kernel
theorem dX6_frost_31 : decode cX6_frost 31 = .ok (.aload_n 0, 1) := by decide +kernel
theorem dX6_frost_32 : decode cX6_frost 32 = .ok (.getfield 134, 3) := by decide +kernel
theorem dX6_frost_35 : decode cX6_frost 35 = .ok (.bipush 40, 2) := by decide +kernel
theorem dX6_frost_37 : decode cX6_frost 37 = .ok (.if_icmp .ne 6, 3) := by decide +kernel
theorem dX6_frost_40 : decode cX6_frost 40 = .ok (.bipush (-2), 2) := by decide +kernel
theorem dX6_frost_42 : decode cX6_frost 42 = .ok (.ireturn, 1) := by decide +kernel
theorem dX6_frost_43 : decode cX6_frost 43 = .ok (.aload_n 0, 1) := by decide +kernel
theorem dX6_frost_44 : decode cX6_frost 44 = .ok (.invokevirtual 179, 3) := by decide +kernel
theorem dX6_frost_47 : decode cX6_frost 47 = .ok (.aload_n 0, 1) := by decide +kernel
theorem dX6_frost_48 : decode cX6_frost 48 = .ok (.getfield 38, 3) := by decide +kernel
theorem dX6_frost_51 : decode cX6_frost 51 = .ok (.iconst 3, 1) := by decide +kernel
theorem dX6_frost_52 : decode cX6_frost 52 = .ok (.iload_n 1, 1) := by decide +kernel
theorem dX6_frost_53 : decode cX6_frost 53 = .ok (.iastore, 1) := by decide +kernel
theorem dX6_frost_54 : decode cX6_frost 54 = .ok (.iload_n 1, 1) := by decide +kernel
theorem dX6_frost_55 : decode cX6_frost 55 = .ok (.ireturn, 1) := by decide +kernel
theorem dX6_night_0 : decode cX6_night 0 = .ok (.aload_n 0, 1) := by decide +kernel
theorem dX6_night_1 : decode cX6_night 1 = .ok (.getfield 66, 3) := by decide +kernel
theorem dX6_night_4 : decode cX6_night 4 = .ok (.ifCond .ne 6, 3) := by decide +kernel
theorem dX6_night_7 : decode cX6_night 7 = .ok (.bipush (-4), 2) := by decide +kernel
theorem dX6_night_9 : decode cX6_night 9 = .ok (.ireturn, 1) := by decide +kernel
theorem dX6_night_10 : decode cX6_night 10 = .ok (.aload_n 0, 1) := by decide +kernel
theorem dX6_night_11 : decode cX6_night 11 = .ok (.getfield 134, 3) := by decide +kernel
theorem dX6_night_14 : decode cX6_night 14 = .ok (.bipush 40, 2) := by decide +kernel
theorem dX6_night_16 : decode cX6_night 16 = .ok (.if_icmp .ne 6, 3) := by decide +kernel
theorem dX6_night_19 : decode cX6_night 19 = .ok (.bipush (-2), 2) := by decide +kernel
theorem dX6_night_21 : decode cX6_night 21 = .ok (.ireturn, 1) := by decide +kernel
theorem dX6_night_22 : decode cX6_night 22 = .ok (.aload_n 0, 1) := by decide +kernel
theorem dX6_night_23 : decode cX6_night 23 = .ok (.invokevirtual 179, 3) := by decide +kernel
theorem dX6_night_26 : decode cX6_night 26 = .ok (.aload_n 0, 1) := by decide +kernel
theorem dX6_night_27 : decode cX6_night 27 = .ok (.invokevirtual 163, 3) := by decide +kernel
theorem dX6_night_30 : decode cX6_night 30 = .ok (.invokestatic 166, 3) := by decide +kernel
theorem dX6_night_33 : decode cX6_night 33 = .ok (.istore_n 1, 1) := by decide +kernel
theorem dX6_night_34 : decode cX6_night 34 = .ok (.aload_n 0, 1) := by decide +kernel
theorem dX6_night_35 : decode cX6_night 35 = .ok (.getfield 38, 3) := by decide +kernel
theorem dX6_night_38 : decode cX6_night 38 = .ok (.iconst 0, 1) := by decide +kernel
theorem dX6_night_39 : decode cX6_night 39 = .ok (.iconst 0, 1) := by decide +kernel
theorem dX6_night_40 : decode cX6_night 40 = .ok (.iastore, 1) := by decide +kernel
theorem dX6_night_41 : decode cX6_night 41 = .ok (.aload_n 0, 1) := by decide +kernel
theorem dX6_night_42 : decode cX6_night 42 = .ok (.getfield 38, 3) := by decide +kernel
theorem dX6_night_45 : decode cX6_night 45 = .ok (.iconst 1, 1) := by decide +kernel
theorem dX6_night_46 : decode cX6_night 46 = .ok (.dup2, 1) := by decide +kernel
theorem dX6_night_47 : decode cX6_night 47 = .ok (.iaload, 1) := by decide +kernel
theorem dX6_night_48 : decode cX6_night 48 = .ok (.iconst 1, 1) := by decide +kernel
theorem dX6_night_49 : decode cX6_night 49 = .ok (.iadd, 1) := by decide +kernel
theorem dX6_night_50 : decode cX6_night 50 = .ok (.iastore, 1) := by decide +kernel
theorem dX6_night_51 : decode cX6_night 51 = .ok (.aload_n 0, 1) := by decide +kernel
theorem dX6_night_52 : decode cX6_night 52 = .ok (.getfield 38, 3) := by decide +kernel
theorem dX6_night_55 : decode cX6_night 55 = .ok (.iconst 2, 1) := by decide +kernel
theorem dX6_night_56 : decode cX6_night 56 = .ok (.iconst 0, 1) := by decide +kernel
theorem dX6_night_57 : decode cX6_night 57 = .ok (.iastore, 1) := by decide +kernel
theorem dX6_night_58 : decode cX6_night 58 = .ok (.iconst 0, 1) := by decide +kernel
theorem dX6_night_59 : decode cX6_night 59 = .ok (.istore_n 2, 1) := by decide +kernel
theorem dX6_night_60 : decode cX6_night 60 = .ok (.iload_n 2, 1) := by decide +kernel
theorem dX6_night_61 : decode cX6_night 61 = .ok (.bipush 6, 2) := by decide +kernel
theorem dX6_night_63 : decode cX6_night 63 = .ok (.if_icmp .ge 30, 3) := by decide +kernel
theorem dX6_night_66 : decode cX6_night 66 = .ok (.aload_n 0, 1) := by decide +kernel
theorem dX6_night_67 : decode cX6_night 67 = .ok (.getfield 38, 3) := by decide +kernel
theorem dX6_night_70 : decode cX6_night 70 = .ok (.bipush 11, 2) := by decide +kernel
theorem dX6_night_72 : decode cX6_night 72 = .ok (.iload_n 2, 1) := by decide +kernel
theorem dX6_night_73 : decode cX6_night 73 = .ok (.iadd, 1) := by decide +kernel
theorem dX6_night_74 : decode cX6_night 74 = .ok (.iconst 0, 1) := by decide +kernel
theorem dX6_night_75 : decode cX6_night 75 = .ok (.iastore, 1) := by decide +kernel
theorem dX6_night_76 : decode cX6_night 76 = .ok (.aload_n 0, 1) := by decide +kernel
theorem dX6_night_77 : decode cX6_night 77 = .ok (.getfield 38, 3) := by decide +kernel
theorem dX6_night_80 : decode cX6_night 80 = .ok (.bipush 17, 2) := by decide +kernel
theorem dX6_night_82 : decode cX6_night 82 = .ok (.iload_n 2, 1) := by decide +kernel
theorem dX6_night_83 : decode cX6_night 83 = .ok (.iadd, 1) := by decide +kernel
theorem dX6_night_84 : decode cX6_night 84 = .ok (.bipush (-9), 2) := by decide +kernel
theorem dX6_night_86 : decode cX6_night 86 = .ok (.iastore, 1) := by decide +kernel
theorem dX6_night_87 : decode cX6_night 87 = .ok (.iinc 2 1, 3) := by decide +kernel
theorem dX6_night_90 : decode cX6_night 90 = .ok (.goto (-30), 3) := by decide +kernel
theorem dX6_night_93 : decode cX6_night 93 = .ok (.iload_n 1, 1) := by decide +kernel
theorem dX6_night_94 : decode cX6_night 94 = .ok (.ireturn, 1) := by decide +kernel
theorem dX6_undo_0 : decode cX6_undo 0 = .ok (.iload_n 1, 1) := by decide +kernel
theorem dX6_undo_1 : decode cX6_undo 1 = .ok (.iconst 0, 1) := by decide +kernel
theorem dX6_undo_2 : decode cX6_undo 2 = .ok (.aload_n 0, 1) := by decide +kernel
theorem dX6_undo_3 : decode cX6_undo 3 = .ok (.getfield 134, 3) := by decide +kernel
theorem dX6_undo_6 : decode cX6_undo 6 = .ok (.invokestatic 69, 3) := by decide +kernel
theorem dX6_undo_9 : decode cX6_undo 9 = .ok (.ifCond .ne 5, 3) := by decide +kernel
theorem dX6_undo_12 : decode cX6_undo 12 = .ok (.iconst (-1), 1) := by decide +kernel
theorem dX6_undo_13 : decode cX6_undo 13 = .ok (.ireturn, 1) := by decide +kernel
theorem dX6_undo_14 : decode cX6_undo 14 = .ok (.aload_n 0, 1) := by decide +kernel
theorem dX6_undo_15 : decode cX6_undo 15 = .ok (.getfield 134, 3) := by decide +kernel
theorem dX6_undo_18 : decode cX6_undo 18 = .ok (.iload_n 1, 1) := by decide +kernel
theorem dX6_undo_19 : decode cX6_undo 19 = .ok (.isub, 1) := by decide +kernel
theorem dX6_undo_20 : decode cX6_undo 20 = .ok (.istore_n 2, 1) := by decide +kernel
theorem dX6_undo_21 : decode cX6_undo 21 = .ok (.iload_n 2, 1) := by decide +kernel
theorem dX6_undo_22 : decode cX6_undo 22 = .ok (.ifCond .le 21, 3) := by decide +kernel
theorem dX6_undo_25 : decode cX6_undo 25 = .ok (.aload_n 0, 1) := by decide +kernel
theorem dX6_undo_26 : decode cX6_undo 26 = .ok (.getfield 41, 3) := by decide +kernel
theorem dX6_undo_29 : decode cX6_undo 29 = .ok (.bipush 23, 2) := by decide +kernel
theorem dX6_undo_31 : decode cX6_undo 31 = .ok (.iload_n 1, 1) := by decide +kernel
theorem dX6_undo_32 : decode cX6_undo 32 = .ok (.imul, 1) := by decide +kernel
theorem dX6_undo_33 : decode cX6_undo 33 = .ok (.aload_n 0, 1) := by decide +kernel
theorem dX6_undo_34 : decode cX6_undo 34 = .ok (.getfield 38, 3) := by decide +kernel
theorem dX6_undo_37 : decode cX6_undo 37 = .ok (.iconst 0, 1) := by decide +kernel
theorem dX6_undo_38 : decode cX6_undo 38 = .ok (.bipush 23, 2) := by decide +kernel
theorem dX6_undo_40 : decode cX6_undo 40 = .ok (.invokestatic 172, 3) := by decide +kernel
theorem dX6_undo_43 : decode cX6_undo 43 = .ok (.aload_n 0, 1) := by decide +kernel
theorem dX6_undo_44 : decode cX6_undo 44 = .ok (.iload_n 1, 1) := by decide +kernel
theorem dX6_undo_45 : decode cX6_undo 45 = .ok (.putfield 134, 3) := by decide +kernel
theorem dX6_undo_48 : decode cX6_undo 48 = .ok (.iload_n 2, 1) := by decide +kernel
theorem dX6_undo_49 : decode cX6_undo 49 = .ok (.ireturn, 1) := by decide +kernel
theorem dX6_keep_0 : decode cX6_keep 0 = .ok (.iload_n 1, 1) := by decide +kernel
theorem dX6_keep_1 : decode cX6_keep 1 = .ok (.iconst 0, 1) := by decide +kernel
theorem dX6_keep_2 : decode cX6_keep 2 = .ok (.iconst 2, 1) := by decide +kernel
theorem dX6_keep_3 : decode cX6_keep 3 = .ok (.invokestatic 69, 3) := by decide +kernel
theorem dX6_keep_6 : decode cX6_keep 6 = .ok (.ifCond .ne 5, 3) := by decide +kernel
theorem dX6_keep_9 : decode cX6_keep 9 = .ok (.iconst (-1), 1) := by decide +kernel
theorem dX6_keep_10 : decode cX6_keep 10 = .ok (.ireturn, 1) := by decide +kernel
theorem dX6_keep_11 : decode cX6_keep 11 = .ok (.aload_n 0, 1) := by decide +kernel
theorem dX6_keep_12 : decode cX6_keep 12 = .ok (.getfield 66, 3) := by decide +kernel
theorem dX6_keep_15 : decode cX6_keep 15 = .ok (.ifCond .ne 6, 3) := by decide +kernel
theorem dX6_keep_18 : decode cX6_keep 18 = .ok (.bipush (-4), 2) := by decide +kernel
theorem dX6_keep_20 : decode cX6_keep 20 = .ok (.ireturn, 1) := by decide +kernel
theorem dX6_keep_21 : decode cX6_keep 21 = .ok (.aload_n 0, 1) := by decide +kernel
theorem dX6_keep_22 : decode cX6_keep 22 = .ok (.getfield 38, 3) := by decide +kernel
theorem dX6_keep_25 : decode cX6_keep 25 = .ok (.iconst 0, 1) := by decide +kernel
theorem dX6_keep_26 : decode cX6_keep 26 = .ok (.aload_n 0, 1) := by decide +kernel
theorem dX6_keep_27 : decode cX6_keep 27 = .ok (.getfield 44, 3) := by decide +kernel
theorem dX6_keep_30 : decode cX6_keep 30 = .ok (.bipush 23, 2) := by decide +kernel
theorem dX6_keep_32 : decode cX6_keep 32 = .ok (.iload_n 1, 1) := by decide +kernel
theorem dX6_keep_33 : decode cX6_keep 33 = .ok (.imul, 1) := by decide +kernel
theorem dX6_keep_34 : decode cX6_keep 34 = .ok (.bipush 23, 2) := by decide +kernel
theorem dX6_keep_36 : decode cX6_keep 36 = .ok (.invokestatic 172, 3) := by decide +kernel
theorem dX6_keep_39 : decode cX6_keep 39 = .ok (.aload_n 0, 1) := by decide +kernel
theorem dX6_keep_40 : decode cX6_keep 40 = .ok (.getfield 41, 3) := by decide +kernel
theorem dX6_keep_43 : decode cX6_keep 43 = .ok (.iconst 0, 1) := by decide +kernel
theorem dX6_keep_44 : decode cX6_keep 44 = .ok (.aload_n 0, 1) := by decide +kernel
theorem dX6_keep_45 : decode cX6_keep 45 = .ok (.getfield 47, 3) := by decide +kernel
theorem dX6_keep_48 : decode cX6_keep 48 = .ok (.sipush 920, 3) := by decide +kernel
theorem dX6_keep_51 : decode cX6_keep 51 = .ok (.iload_n 1, 1) := by decide +kernel
theorem dX6_keep_52 : decode cX6_keep 52 = .ok (.imul, 1) := by decide +kernel
theorem dX6_keep_53 : decode cX6_keep 53 = .ok (.sipush 920, 3) := by decide +kernel
theorem dX6_keep_56 : decode cX6_keep 56 = .ok (.invokestatic 172, 3) := by decide +kernel
theorem dX6_keep_59 : decode cX6_keep 59 = .ok (.aload_n 0, 1) := by decide +kernel
theorem dX6_keep_60 : decode cX6_keep 60 = .ok (.getfield 50, 3) := by decide +kernel
theorem dX6_keep_63 : decode cX6_keep 63 = .ok (.iload_n 1, 1) := by decide +kernel
theorem dX6_keep_64 : decode cX6_keep 64 = .ok (.aload_n 0, 1) := by decide +kernel
theorem dX6_keep_65 : decode cX6_keep 65 = .ok (.getfield 134, 3) := by decide +kernel
theorem dX6_keep_68 : decode cX6_keep 68 = .ok (.iastore, 1) := by decide +kernel
theorem dX6_keep_69 : decode cX6_keep 69 = .ok (.aload_n 0, 1) := by decide +kernel
theorem dX6_keep_70 : decode cX6_keep 70 = .ok (.getfield 134, 3) := by decide +kernel
theorem dX6_keep_73 : decode cX6_keep 73 = .ok (.ireturn, 1) := by decide +kernel
theorem dX6_on_0 : decode cX6_on 0 = .ok (.iload_n 1, 1) := by decide +kernel
theorem dX6_on_1 : decode cX6_on 1 = .ok (.iconst 0, 1) := by decide +kernel
theorem dX6_on_2 : decode cX6_on 2 = .ok (.iconst 2, 1) := by decide +kernel
theorem dX6_on_3 : decode cX6_on 3 = .ok (.invokestatic 69, 3) := by decide +kernel
theorem dX6_on_6 : decode cX6_on 6 = .ok (.ifCond .ne 5, 3) := by decide +kernel
theorem dX6_on_9 : decode cX6_on 9 = .ok (.iconst (-1), 1) := by decide +kernel
theorem dX6_on_10 : decode cX6_on 10 = .ok (.ireturn, 1) := by decide +kernel
theorem dX6_on_11 : decode cX6_on 11 = .ok (.aload_n 0, 1) := by decide +kernel
theorem dX6_on_12 : decode cX6_on 12 = .ok (.getfield 50, 3) := by decide +kernel
theorem dX6_on_15 : decode cX6_on 15 = .ok (.iload_n 1, 1) := by decide +kernel
theorem dX6_on_16 : decode cX6_on 16 = .ok (.iaload, 1) := by decide +kernel
theorem dX6_on_17 : decode cX6_on 17 = .ok (.ifCond .ge 9, 3) := by decide +kernel
theorem dX6_on_20 : decode cX6_on 20 = .ok (.aload_n 0, 1) := by decide +kernel
theorem dX6_on_21 : decode cX6_on 21 = .ok (.iconst 1, 1) := by decide +kernel
theorem dX6_on_22 : decode cX6_on 22 = .ok (.invokevirtual 73, 3) := by decide +kernel
theorem dX6_on_25 : decode cX6_on 25 = .ok (.ireturn, 1) := by decide +kernel
theorem dX6_on_26 : decode cX6_on 26 = .ok (.aload_n 0, 1) := by decide +kernel
theorem dX6_on_27 : decode cX6_on 27 = .ok (.getfield 44, 3) := by decide +kernel
theorem dX6_on_30 : decode cX6_on 30 = .ok (.bipush 23, 2) := by decide +kernel
theorem dX6_on_32 : decode cX6_on 32 = .ok (.iload_n 1, 1) := by decide +kernel
theorem dX6_on_33 : decode cX6_on 33 = .ok (.imul, 1) := by decide +kernel
theorem dX6_on_34 : decode cX6_on 34 = .ok (.aload_n 0, 1) := by decide +kernel
theorem dX6_on_35 : decode cX6_on 35 = .ok (.getfield 38, 3) := by decide +kernel
theorem dX6_on_38 : decode cX6_on 38 = .ok (.iconst 0, 1) := by decide +kernel
theorem dX6_on_39 : decode cX6_on 39 = .ok (.bipush 23, 2) := by decide +kernel
theorem dX6_on_41 : decode cX6_on 41 = .ok (.invokestatic 172, 3) := by decide +kernel
theorem dX6_on_44 : decode cX6_on 44 = .ok (.aload_n 0, 1) := by decide +kernel
theorem dX6_on_45 : decode cX6_on 45 = .ok (.getfield 47, 3) := by decide +kernel
theorem dX6_on_48 : decode cX6_on 48 = .ok (.sipush 920, 3) := by decide +kernel
theorem dX6_on_51 : decode cX6_on 51 = .ok (.iload_n 1, 1) := by decide +kernel
theorem dX6_on_52 : decode cX6_on 52 = .ok (.imul, 1) := by decide +kernel
theorem dX6_on_53 : decode cX6_on 53 = .ok (.aload_n 0, 1) := by decide +kernel
theorem dX6_on_54 : decode cX6_on 54 = .ok (.getfield 41, 3) := by decide +kernel
theorem dX6_on_57 : decode cX6_on 57 = .ok (.iconst 0, 1) := by decide +kernel
theorem dX6_on_58 : decode cX6_on 58 = .ok (.sipush 920, 3) := by decide +kernel
theorem dX6_on_61 : decode cX6_on 61 = .ok (.invokestatic 172, 3) := by decide +kernel
theorem dX6_on_64 : decode cX6_on 64 = .ok (.aload_n 0, 1) := by decide +kernel
theorem dX6_on_65 : decode cX6_on 65 = .ok (.aload_n 0, 1) := by decide +kernel
theorem dX6_on_66 : decode cX6_on 66 = .ok (.getfield 50, 3) := by decide +kernel
theorem dX6_on_69 : decode cX6_on 69 = .ok (.iload_n 1, 1) := by decide +kernel
theorem dX6_on_70 : decode cX6_on 70 = .ok (.iaload, 1) := by decide +kernel
theorem dX6_on_71 : decode cX6_on 71 = .ok (.putfield 134, 3) := by decide +kernel
theorem dX6_on_74 : decode cX6_on 74 = .ok (.aload_n 0, 1) := by decide +kernel
theorem dX6_on_75 : decode cX6_on 75 = .ok (.getfield 134, 3) := by decide +kernel
theorem dX6_on_78 : decode cX6_on 78 = .ok (.ireturn, 1) := by decide +kernel
theorem dX6_takes_0 : decode cX6_takes 0 = .ok (.aload_n 0, 1) := by decide +kernel
theorem dX6_takes_1 : decode cX6_takes 1 = .ok (.iload_n 1, 1) := by decide +kernel
theorem dX6_takes_2 : decode cX6_takes 2 = .ok (.invokevirtual 150, 3) := by decide +kernel
theorem dX6_takes_5 : decode cX6_takes 5 = .ok (.ifCond .eq 27, 3) := by decide +kernel
theorem dX6_takes_8 : decode cX6_takes 8 = .ok (.iload_n 2, 1) := by decide +kernel
theorem dX6_takes_9 : decode cX6_takes 9 = .ok (.iconst 0, 1) := by decide +kernel
theorem dX6_takes_10 : decode cX6_takes 10 = .ok (.bipush 99, 2) := by decide +kernel
theorem dX6_takes_12 : decode cX6_takes 12 = .ok (.invokestatic 69, 3) := by decide +kernel
theorem dX6_takes_15 : decode cX6_takes 15 = .ok (.ifCond .eq 17, 3) := by decide +kernel
theorem dX6_takes_18 : decode cX6_takes 18 = .ok (.aload_n 0, 1) := by decide +kernel
theorem dX6_takes_19 : decode cX6_takes 19 = .ok (.aload_n 0, 1) := by decide +kernel
theorem dX6_takes_20 : decode cX6_takes 20 = .ok (.getfield 32, 3) := by decide +kernel
theorem dX6_takes_23 : decode cX6_takes 23 = .ok (.iload_n 1, 1) := by decide +kernel
theorem dX6_takes_24 : decode cX6_takes 24 = .ok (.iaload, 1) := by decide +kernel
theorem dX6_takes_25 : decode cX6_takes 25 = .ok (.iload_n 2, 1) := by decide +kernel
theorem dX6_takes_26 : decode cX6_takes 26 = .ok (.invokevirtual 137, 3) := by decide +kernel
theorem dX6_takes_29 : decode cX6_takes 29 = .ok (.goto 4, 3) := by decide +kernel
theorem dX6_takes_32 : decode cX6_takes 32 = .ok (.iconst (-1), 1) := by decide +kernel
theorem dX6_takes_33 : decode cX6_takes 33 = .ok (.ireturn, 1) := by decide +kernel
theorem dX6_pays_0 : decode cX6_pays 0 = .ok (.aload_n 0, 1) := by decide +kernel
theorem dX6_pays_1 : decode cX6_pays 1 = .ok (.iload_n 1, 1) := by decide +kernel
theorem dX6_pays_2 : decode cX6_pays 2 = .ok (.invokevirtual 150, 3) := by decide +kernel
theorem dX6_pays_5 : decode cX6_pays 5 = .ok (.ifCond .eq 15, 3) := by decide +kernel
theorem dX6_pays_8 : decode cX6_pays 8 = .ok (.aload_n 0, 1) := by decide +kernel
theorem dX6_pays_9 : decode cX6_pays 9 = .ok (.getfield 32, 3) := by decide +kernel
theorem dX6_pays_12 : decode cX6_pays 12 = .ok (.iload_n 1, 1) := by decide +kernel
theorem dX6_pays_13 : decode cX6_pays 13 = .ok (.iaload, 1) := by decide +kernel
theorem dX6_pays_14 : decode cX6_pays 14 = .ok (.invokestatic 160, 3) := by decide +kernel
theorem dX6_pays_17 : decode cX6_pays 17 = .ok (.goto 4, 3) := by decide +kernel
theorem dX6_pays_20 : decode cX6_pays 20 = .ok (.iconst (-1), 1) := by decide +kernel
theorem dX6_pays_21 : decode cX6_pays 21 = .ok (.ireturn, 1) := by decide +kernel
theorem dX6_who_0 : decode cX6_who 0 = .ok (.iload_n 1, 1) := by decide +kernel
theorem dX6_who_1 : decode cX6_who 1 = .ok (.iconst 0, 1) := by decide +kernel
theorem dX6_who_2 : decode cX6_who 2 = .ok (.bipush 99, 2) := by decide +kernel
theorem dX6_who_4 : decode cX6_who 4 = .ok (.invokestatic 69, 3) := by decide +kernel
theorem dX6_who_7 : decode cX6_who 7 = .ok (.ifCond .eq 13, 3) := by decide +kernel
theorem dX6_who_10 : decode cX6_who 10 = .ok (.iload_n 2, 1) := by decide +kernel
theorem dX6_who_11 : decode cX6_who 11 = .ok (.iconst 1, 1) := by decide +kernel
theorem dX6_who_12 : decode cX6_who 12 = .ok (.bipush 9, 2) := by decide +kernel
theorem dX6_who_14 : decode cX6_who 14 = .ok (.invokestatic 69, 3) := by decide +kernel
theorem dX6_who_17 : decode cX6_who 17 = .ok (.ifCond .ne 5, 3) := by decide +kernel
theorem dX6_who_20 : decode cX6_who 20 = .ok (.iconst (-1), 1) := by decide +kernel
theorem dX6_who_21 : decode cX6_who 21 = .ok (.ireturn, 1) := by decide +kernel
theorem dX6_who_22 : decode cX6_who 22 = .ok (.iconst 0, 1) := by decide +kernel
theorem dX6_who_23 : decode cX6_who 23 = .ok (.istore_n 3, 1) := by decide +kernel
theorem dX6_who_24 : decode cX6_who 24 = .ok (.iconst 0, 1) := by decide +kernel
theorem dX6_who_25 : decode cX6_who 25 = .ok (.istore 4, 2) := by decide +kernel
theorem dX6_who_27 : decode cX6_who 27 = .ok (.iload 4, 2) := by decide +kernel
theorem dX6_who_29 : decode cX6_who 29 = .ok (.aload_n 0, 1) := by decide +kernel
theorem dX6_who_30 : decode cX6_who 30 = .ok (.getfield 66, 3) := by decide +kernel
theorem dX6_who_33 : decode cX6_who 33 = .ok (.if_icmp .ge 36, 3) := by decide +kernel
theorem dX6_who_36 : decode cX6_who 36 = .ok (.iload_n 3, 1) := by decide +kernel
theorem dX6_who_37 : decode cX6_who 37 = .ok (.aload_n 0, 1) := by decide +kernel
theorem dX6_who_38 : decode cX6_who 38 = .ok (.aload_n 0, 1) := by decide +kernel
theorem dX6_who_39 : decode cX6_who 39 = .ok (.getfield 32, 3) := by decide +kernel
theorem dX6_who_42 : decode cX6_who 42 = .ok (.iload 4, 2) := by decide +kernel
theorem dX6_who_44 : decode cX6_who 44 = .ok (.iaload, 1) := by decide +kernel
theorem dX6_who_45 : decode cX6_who 45 = .ok (.iload_n 1, 1) := by decide +kernel
theorem dX6_who_46 : decode cX6_who 46 = .ok (.invokevirtual 137, 3) := by decide +kernel
theorem dX6_who_49 : decode cX6_who 49 = .ok (.iload_n 2, 1) := by decide +kernel
theorem dX6_who_50 : decode cX6_who 50 = .ok (.if_icmp .ne 10, 3) := by decide +kernel
theorem dX6_who_53 : decode cX6_who 53 = .ok (.iconst 1, 1) := by decide +kernel
theorem dX6_who_54 : decode cX6_who 54 = .ok (.iload 4, 2) := by decide +kernel
theorem dX6_who_56 : decode cX6_who 56 = .ok (.ishl, 1) := by decide +kernel
theorem dX6_who_57 : decode cX6_who 57 = .ok (.goto 4, 3) := by decide +kernel
theorem dX6_who_60 : decode cX6_who 60 = .ok (.iconst 0, 1) := by decide +kernel
theorem dX6_who_61 : decode cX6_who 61 = .ok (.ior, 1) := by decide +kernel
theorem dX6_who_62 : decode cX6_who 62 = .ok (.istore_n 3, 1) := by decide +kernel
theorem dX6_who_63 : decode cX6_who 63 = .ok (.iinc 4 1, 3) := by decide +kernel
theorem dX6_who_66 : decode cX6_who 66 = .ok (.goto (-39), 3) := by decide +kernel
theorem dX6_who_69 : decode cX6_who 69 = .ok (.iload_n 3, 1) := by decide +kernel
theorem dX6_who_70 : decode cX6_who 70 = .ok (.ireturn, 1) := by decide +kernel
theorem dX6_quarrels_0 : decode cX6_quarrels 0 = .ok (.aload_n 0, 1) := by decide +kernel
theorem dX6_quarrels_1 : decode cX6_quarrels 1 = .ok (.getfield 66, 3) := by decide +kernel
theorem dX6_quarrels_4 : decode cX6_quarrels 4 = .ok (.ifCond .ne 6, 3) := by decide +kernel
theorem dX6_quarrels_7 : decode cX6_quarrels 7 = .ok (.bipush (-4), 2) := by decide +kernel
theorem dX6_quarrels_9 : decode cX6_quarrels 9 = .ok (.ireturn, 1) := by decide +kernel
theorem dX6_quarrels_10 : decode cX6_quarrels 10 = .ok (.iconst 0, 1) := by decide +kernel
theorem dX6_quarrels_11 : decode cX6_quarrels 11 = .ok (.istore_n 1, 1) := by decide +kernel
theorem dX6_quarrels_12 : decode cX6_quarrels 12 = .ok (.iconst 1, 1) := by decide +kernel
theorem dX6_quarrels_13 : decode cX6_quarrels 13 = .ok (.istore_n 2, 1) := by decide +kernel
theorem dX6_quarrels_14 : decode cX6_quarrels 14 = .ok (.iload_n 2, 1) := by decide +kernel
theorem dX6_quarrels_15 : decode cX6_quarrels 15 = .ok (.aload_n 0, 1) := by decide +kernel
theorem dX6_quarrels_16 : decode cX6_quarrels 16 = .ok (.getfield 66, 3) := by decide +kernel
theorem dX6_quarrels_19 : decode cX6_quarrels 19 = .ok (.if_icmp .ge 65, 3) := by decide +kernel
theorem dX6_quarrels_22 : decode cX6_quarrels 22 = .ok (.iload_n 1, 1) := by decide +kernel
theorem dX6_quarrels_23 : decode cX6_quarrels 23 = .ok (.aload_n 0, 1) := by decide +kernel
theorem dX6_quarrels_24 : decode cX6_quarrels 24 = .ok (.iload_n 2, 1) := by decide +kernel
theorem dX6_quarrels_25 : decode cX6_quarrels 25 = .ok (.invokevirtual 140, 3) := by decide +kernel
theorem dX6_quarrels_28 : decode cX6_quarrels 28 = .ok (.ifCond .eq 47, 3) := by decide +kernel
theorem dX6_quarrels_31 : decode cX6_quarrels 31 = .ok (.aload_n 0, 1) := by decide +kernel
theorem dX6_quarrels_32 : decode cX6_quarrels 32 = .ok (.iload_n 2, 1) := by decide +kernel
theorem dX6_quarrels_33 : decode cX6_quarrels 33 = .ok (.iconst 1, 1) := by decide +kernel
theorem dX6_quarrels_34 : decode cX6_quarrels 34 = .ok (.isub, 1) := by decide +kernel
theorem dX6_quarrels_35 : decode cX6_quarrels 35 = .ok (.invokevirtual 140, 3) := by decide +kernel
theorem dX6_quarrels_38 : decode cX6_quarrels 38 = .ok (.ifCond .eq 37, 3) := by decide +kernel
theorem dX6_quarrels_41 : decode cX6_quarrels 41 = .ok (.aload_n 0, 1) := by decide +kernel
theorem dX6_quarrels_42 : decode cX6_quarrels 42 = .ok (.getfield 38, 3) := by decide +kernel
theorem dX6_quarrels_45 : decode cX6_quarrels 45 = .ok (.bipush 17, 2) := by decide +kernel
theorem dX6_quarrels_47 : decode cX6_quarrels 47 = .ok (.iload_n 2, 1) := by decide +kernel
theorem dX6_quarrels_48 : decode cX6_quarrels 48 = .ok (.iadd, 1) := by decide +kernel
theorem dX6_quarrels_49 : decode cX6_quarrels 49 = .ok (.iaload, 1) := by decide +kernel
theorem dX6_quarrels_50 : decode cX6_quarrels 50 = .ok (.aload_n 0, 1) := by decide +kernel
theorem dX6_quarrels_51 : decode cX6_quarrels 51 = .ok (.getfield 38, 3) := by decide +kernel
theorem dX6_quarrels_54 : decode cX6_quarrels 54 = .ok (.bipush 17, 2) := by decide +kernel
theorem dX6_quarrels_56 : decode cX6_quarrels 56 = .ok (.iload_n 2, 1) := by decide +kernel
theorem dX6_quarrels_57 : decode cX6_quarrels 57 = .ok (.iadd, 1) := by decide +kernel
theorem dX6_quarrels_58 : decode cX6_quarrels 58 = .ok (.iconst 1, 1) := by decide +kernel
theorem dX6_quarrels_59 : decode cX6_quarrels 59 = .ok (.isub, 1) := by decide +kernel
theorem dX6_quarrels_60 : decode cX6_quarrels 60 = .ok (.iaload, 1) := by decide +kernel
theorem dX6_quarrels_61 : decode cX6_quarrels 61 = .ok (.invokestatic 176, 3) := by decide +kernel
theorem dX6_quarrels_64 : decode cX6_quarrels 64 = .ok (.aload_n 0, 1) := by decide +kernel
theorem dX6_quarrels_65 : decode cX6_quarrels 65 = .ok (.getfield 131, 3) := by decide +kernel
theorem dX6_quarrels_68 : decode cX6_quarrels 68 = .ok (.if_icmp .le 7, 3) := by decide +kernel
theorem dX6_quarrels_71 : decode cX6_quarrels 71 = .ok (.iconst 1, 1) := by decide +kernel
theorem dX6_quarrels_72 : decode cX6_quarrels 72 = .ok (.goto 4, 3) := by decide +kernel
theorem dX6_quarrels_75 : decode cX6_quarrels 75 = .ok (.iconst 0, 1) := by decide +kernel
theorem dX6_quarrels_76 : decode cX6_quarrels 76 = .ok (.iadd, 1) := by decide +kernel
theorem dX6_quarrels_77 : decode cX6_quarrels 77 = .ok (.istore_n 1, 1) := by decide +kernel
theorem dX6_quarrels_78 : decode cX6_quarrels 78 = .ok (.iinc 2 1, 3) := by decide +kernel
theorem dX6_quarrels_81 : decode cX6_quarrels 81 = .ok (.goto (-67), 3) := by decide +kernel
theorem dX6_quarrels_84 : decode cX6_quarrels 84 = .ok (.iload_n 1, 1) := by decide +kernel
theorem dX6_quarrels_85 : decode cX6_quarrels 85 = .ok (.ireturn, 1) := by decide +kernel
theorem dX6_wakable_0 : decode cX6_wakable 0 = .ok (.iconst 0, 1) := by decide +kernel
theorem dX6_wakable_1 : decode cX6_wakable 1 = .ok (.istore_n 1, 1) := by decide +kernel
theorem dX6_wakable_2 : decode cX6_wakable 2 = .ok (.iconst 0, 1) := by decide +kernel
theorem dX6_wakable_3 : decode cX6_wakable 3 = .ok (.istore_n 2, 1) := by decide +kernel
theorem dX6_wakable_4 : decode cX6_wakable 4 = .ok (.iload_n 2, 1) := by decide +kernel
theorem dX6_wakable_5 : decode cX6_wakable 5 = .ok (.aload_n 0, 1) := by decide +kernel
theorem dX6_wakable_6 : decode cX6_wakable 6 = .ok (.getfield 66, 3) := by decide +kernel
theorem dX6_wakable_9 : decode cX6_wakable 9 = .ok (.if_icmp .ge 27, 3) := by decide +kernel
theorem dX6_wakable_12 : decode cX6_wakable 12 = .ok (.iload_n 1, 1) := by decide +kernel
theorem dX6_wakable_13 : decode cX6_wakable 13 = .ok (.aload_n 0, 1) := by decide +kernel
theorem dX6_wakable_14 : decode cX6_wakable 14 = .ok (.iload_n 2, 1) := by decide +kernel
theorem dX6_wakable_15 : decode cX6_wakable 15 = .ok (.invokevirtual 147, 3) := by decide +kernel
theorem dX6_wakable_18 : decode cX6_wakable 18 = .ok (.ifCond .le 9, 3) := by decide +kernel
theorem dX6_wakable_21 : decode cX6_wakable 21 = .ok (.iconst 1, 1) := by decide +kernel
theorem dX6_wakable_22 : decode cX6_wakable 22 = .ok (.iload_n 2, 1) := by decide +kernel
theorem dX6_wakable_23 : decode cX6_wakable 23 = .ok (.ishl, 1) := by decide +kernel
theorem dX6_wakable_24 : decode cX6_wakable 24 = .ok (.goto 4, 3) := by decide +kernel
theorem dX6_wakable_27 : decode cX6_wakable 27 = .ok (.iconst 0, 1) := by decide +kernel
theorem dX6_wakable_28 : decode cX6_wakable 28 = .ok (.ior, 1) := by decide +kernel
theorem dX6_wakable_29 : decode cX6_wakable 29 = .ok (.istore_n 1, 1) := by decide +kernel
theorem dX6_wakable_30 : decode cX6_wakable 30 = .ok (.iinc 2 1, 3) := by decide +kernel
theorem dX6_wakable_33 : decode cX6_wakable 33 = .ok (.goto (-29), 3) := by decide +kernel
theorem dX6_wakable_36 : decode cX6_wakable 36 = .ok (.iload_n 1, 1) := by decide +kernel
theorem dX6_wakable_37 : decode cX6_wakable 37 = .ok (.ireturn, 1) := by decide +kernel
theorem dX6_isSet_0 : decode cX6_isSet 0 = .ok (.iload_n 1, 1) := by decide +kernel
theorem dX6_isSet_1 : decode cX6_isSet 1 = .ok (.iconst 0, 1) := by decide +kernel
theorem dX6_isSet_2 : decode cX6_isSet 2 = .ok (.iconst 1, 1) := by decide +kernel
theorem dX6_isSet_3 : decode cX6_isSet 3 = .ok (.aload_n 0, 1) := by decide +kernel
theorem dX6_isSet_4 : decode cX6_isSet 4 = .ok (.getfield 66, 3) := by decide +kernel
theorem dX6_isSet_7 : decode cX6_isSet 7 = .ok (.ishl, 1) := by decide +kernel
theorem dX6_isSet_8 : decode cX6_isSet 8 = .ok (.iconst 1, 1) := by decide +kernel
theorem dX6_isSet_9 : decode cX6_isSet 9 = .ok (.isub, 1) := by decide +kernel
theorem dX6_isSet_10 : decode cX6_isSet 10 = .ok (.invokestatic 69, 3) := by decide +kernel
theorem dX6_isSet_13 : decode cX6_isSet 13 = .ok (.ireturn, 1) := by decide +kernel
theorem dX6_soonest_0 : decode cX6_soonest 0 = .ok (.aload_n 0, 1) := by decide +kernel
theorem dX6_soonest_1 : decode cX6_soonest 1 = .ok (.iload_n 1, 1) := by decide +kernel
theorem dX6_soonest_2 : decode cX6_soonest 2 = .ok (.invokevirtual 193, 3) := by decide +kernel
theorem dX6_soonest_5 : decode cX6_soonest 5 = .ok (.ifCond .ne 5, 3) := by decide +kernel
theorem dX6_soonest_8 : decode cX6_soonest 8 = .ok (.iconst (-1), 1) := by decide +kernel
theorem dX6_soonest_9 : decode cX6_soonest 9 = .ok (.ireturn, 1) := by decide +kernel
theorem dX6_soonest_10 : decode cX6_soonest 10 = .ok (.iload_n 1, 1) := by decide +kernel
theorem dX6_soonest_11 : decode cX6_soonest 11 = .ok (.aload_n 0, 1) := by decide +kernel
theorem dX6_soonest_12 : decode cX6_soonest 12 = .ok (.invokevirtual 196, 3) := by decide +kernel
theorem dX6_soonest_15 : decode cX6_soonest 15 = .ok (.iconst (-1), 1) := by decide +kernel
theorem dX6_soonest_16 : decode cX6_soonest 16 = .ok (.ixor, 1) := by decide +kernel
theorem dX6_soonest_17 : decode cX6_soonest 17 = .ok (.iand, 1) := by decide +kernel
theorem dX6_soonest_18 : decode cX6_soonest 18 = .ok (.ifCond .eq 6, 3) := by decide +kernel
theorem dX6_soonest_21 : decode cX6_soonest 21 = .ok (.bipush (-4), 2) := by decide +kernel
theorem dX6_soonest_23 : decode cX6_soonest 23 = .ok (.ireturn, 1) := by decide +kernel
theorem dX6_soonest_24 : decode cX6_soonest 24 = .ok (.iload_n 1, 1) := by decide +kernel
theorem dX6_soonest_25 : decode cX6_soonest 25 = .ok (.ifCond .ne 5, 3) := by decide +kernel
theorem dX6_soonest_28 : decode cX6_soonest 28 = .ok (.iconst 0, 1) := by decide +kernel
theorem dX6_soonest_29 : decode cX6_soonest 29 = .ok (.ireturn, 1) := by decide +kernel
theorem dX6_soonest_30 : decode cX6_soonest 30 = .ok (.iconst 0, 1) := by decide +kernel
theorem dX6_soonest_31 : decode cX6_soonest 31 = .ok (.istore_n 2, 1) := by decide +kernel
theorem dX6_soonest_32 : decode cX6_soonest 32 = .ok (.bipush 6, 2) := by decide +kernel
theorem dX6_soonest_34 : decode cX6_soonest 34 = .ok (.istore_n 3, 1) := by decide +kernel
theorem dX6_soonest_35 : decode cX6_soonest 35 = .ok (.iconst (-1), 1) := by decide +kernel
theorem dX6_soonest_36 : decode cX6_soonest 36 = .ok (.istore 4, 2) := by decide +kernel
theorem dX6_soonest_38 : decode cX6_soonest 38 = .ok (.iconst 0, 1) := by decide +kernel
theorem dX6_soonest_39 : decode cX6_soonest 39 = .ok (.istore 5, 2) := by decide +kernel
theorem dX6_soonest_41 : decode cX6_soonest 41 = .ok (.iload 5, 2) := by decide +kernel
theorem dX6_soonest_43 : decode cX6_soonest 43 = .ok (.aload_n 0, 1) := by decide +kernel
theorem dX6_soonest_44 : decode cX6_soonest 44 = .ok (.getfield 66, 3) := by decide +kernel
theorem dX6_soonest_47 : decode cX6_soonest 47 = .ok (.if_icmp .ge 44, 3) := by decide +kernel
theorem dX6_soonest_50 : decode cX6_soonest 50 = .ok (.iload_n 1, 1) := by decide +kernel
theorem dX6_soonest_51 : decode cX6_soonest 51 = .ok (.iload 5, 2) := by decide +kernel
theorem dX6_soonest_53 : decode cX6_soonest 53 = .ok (.invokestatic 199, 3) := by decide +kernel
theorem dX6_soonest_56 : decode cX6_soonest 56 = .ok (.ifCond .eq 29, 3) := by decide +kernel
theorem dX6_soonest_59 : decode cX6_soonest 59 = .ok (.iload_n 2, 1) := by decide +kernel
theorem dX6_soonest_60 : decode cX6_soonest 60 = .ok (.aload_n 0, 1) := by decide +kernel
theorem dX6_soonest_61 : decode cX6_soonest 61 = .ok (.iload 5, 2) := by decide +kernel
theorem dX6_soonest_63 : decode cX6_soonest 63 = .ok (.invokevirtual 147, 3) := by decide +kernel
theorem dX6_soonest_66 : decode cX6_soonest 66 = .ok (.iadd, 1) := by decide +kernel
theorem dX6_soonest_67 : decode cX6_soonest 67 = .ok (.istore_n 2, 1) := by decide +kernel
theorem dX6_soonest_68 : decode cX6_soonest 68 = .ok (.iload 5, 2) := by decide +kernel
theorem dX6_soonest_70 : decode cX6_soonest 70 = .ok (.iload_n 3, 1) := by decide +kernel
theorem dX6_soonest_71 : decode cX6_soonest 71 = .ok (.if_icmp .ge 8, 3) := by decide +kernel
theorem dX6_soonest_74 : decode cX6_soonest 74 = .ok (.iload 5, 2) := by decide +kernel
theorem dX6_soonest_76 : decode cX6_soonest 76 = .ok (.goto 4, 3) := by decide +kernel
theorem dX6_soonest_79 : decode cX6_soonest 79 = .ok (.iload_n 3, 1) := by decide +kernel
theorem dX6_soonest_80 : decode cX6_soonest 80 = .ok (.istore_n 3, 1) := by decide +kernel
theorem dX6_soonest_81 : decode cX6_soonest 81 = .ok (.iload 5, 2) := by decide +kernel
theorem dX6_soonest_83 : decode cX6_soonest 83 = .ok (.istore 4, 2) := by decide +kernel
theorem dX6_soonest_85 : decode cX6_soonest 85 = .ok (.iinc 5 1, 3) := by decide +kernel
theorem dX6_soonest_88 : decode cX6_soonest 88 = .ok (.goto (-47), 3) := by decide +kernel
theorem dX6_soonest_91 : decode cX6_soonest 91 = .ok (.aload_n 0, 1) := by decide +kernel
theorem dX6_soonest_92 : decode cX6_soonest 92 = .ok (.getfield 38, 3) := by decide +kernel
theorem dX6_soonest_95 : decode cX6_soonest 95 = .ok (.iconst 2, 1) := by decide +kernel
theorem dX6_soonest_96 : decode cX6_soonest 96 = .ok (.iaload, 1) := by decide +kernel
theorem dX6_soonest_97 : decode cX6_soonest 97 = .ok (.iload_n 3, 1) := by decide +kernel
theorem dX6_soonest_98 : decode cX6_soonest 98 = .ok (.invokestatic 176, 3) := by decide +kernel
theorem dX6_soonest_101 : decode cX6_soonest 101 = .ok (.istore 5, 2) := by decide +kernel
theorem dX6_soonest_103 : decode cX6_soonest 103 = .ok (.aload_n 0, 1) := by decide +kernel
theorem dX6_soonest_104 : decode cX6_soonest 104 = .ok (.getfield 38, 3) := by decide +kernel
theorem dX6_soonest_107 : decode cX6_soonest 107 = .ok (.iconst 2, 1) := by decide +kernel
theorem dX6_soonest_108 : decode cX6_soonest 108 = .ok (.iaload, 1) := by decide +kernel
theorem dX6_soonest_109 : decode cX6_soonest 109 = .ok (.iload 4, 2) := by decide +kernel
theorem dX6_soonest_111 : decode cX6_soonest 111 = .ok (.invokestatic 176, 3) := by decide +kernel
theorem dX6_soonest_114 : decode cX6_soonest 114 = .ok (.istore 6, 2) := by decide +kernel
theorem dX6_soonest_116 : decode cX6_soonest 116 = .ok (.iload_n 2, 1) := by decide +kernel
theorem dX6_soonest_117 : decode cX6_soonest 117 = .ok (.iload 4, 2) := by decide +kernel
theorem dX6_soonest_119 : decode cX6_soonest 119 = .ok (.iadd, 1) := by decide +kernel
theorem dX6_soonest_120 : decode cX6_soonest 120 = .ok (.iload_n 3, 1) := by decide +kernel
theorem dX6_soonest_121 : decode cX6_soonest 121 = .ok (.isub, 1) := by decide +kernel
theorem dX6_soonest_122 : decode cX6_soonest 122 = .ok (.iload 5, 2) := by decide +kernel
theorem dX6_soonest_124 : decode cX6_soonest 124 = .ok (.iload 6, 2) := by decide +kernel
theorem dX6_soonest_126 : decode cX6_soonest 126 = .ok (.if_icmp .ge 8, 3) := by decide +kernel
theorem dX6_soonest_129 : decode cX6_soonest 129 = .ok (.iload 5, 2) := by decide +kernel
theorem dX6_soonest_131 : decode cX6_soonest 131 = .ok (.goto 5, 3) := by decide +kernel
theorem dX6_soonest_134 : decode cX6_soonest 134 = .ok (.iload 6, 2) := by decide +kernel
theorem dX6_soonest_136 : decode cX6_soonest 136 = .ok (.iadd, 1) := by decide +kernel
theorem dX6_soonest_137 : decode cX6_soonest 137 = .ok (.ireturn, 1) := by decide +kernel
theorem dX6_layRow_0 : decode cX6_layRow 0 = .ok (.iload_n 1, 1) := by decide +kernel
theorem dX6_layRow_1 : decode cX6_layRow 1 = .ok (.istore 4, 2) := by decide +kernel
theorem dX6_layRow_3 : decode cX6_layRow 3 = .ok (.iconst 0, 1) := by decide +kernel
theorem dX6_layRow_4 : decode cX6_layRow 4 = .ok (.istore 5, 2) := by decide +kernel
theorem dX6_layRow_6 : decode cX6_layRow 6 = .ok (.iload_n 2, 1) := by decide +kernel
theorem dX6_layRow_7 : decode cX6_layRow 7 = .ok (.iconst 1, 1) := by decide +kernel
theorem dX6_layRow_8 : decode cX6_layRow 8 = .ok (.isub, 1) := by decide +kernel
theorem dX6_layRow_9 : decode cX6_layRow 9 = .ok (.istore 6, 2) := by decide +kernel
theorem dX6_layRow_11 : decode cX6_layRow 11 = .ok (.iload 6, 2) := by decide +kernel
theorem dX6_layRow_13 : decode cX6_layRow 13 = .ok (.ifCond .lt 42, 3) := by decide +kernel
theorem dX6_layRow_16 : decode cX6_layRow 16 = .ok (.aload_n 0, 1) := by decide +kernel
theorem dX6_layRow_17 : decode cX6_layRow 17 = .ok (.getfield 53, 3) := by decide +kernel
theorem dX6_layRow_20 : decode cX6_layRow 20 = .ok (.iload 6, 2) := by decide +kernel
theorem dX6_layRow_22 : decode cX6_layRow 22 = .ok (.iload 4, 2) := by decide +kernel
theorem dX6_layRow_24 : decode cX6_layRow 24 = .ok (.bipush 6, 2) := by decide +kernel
theorem dX6_layRow_26 : decode cX6_layRow 26 = .ok (.irem, 1) := by decide +kernel
theorem dX6_layRow_27 : decode cX6_layRow 27 = .ok (.iastore, 1) := by decide +kernel
theorem dX6_layRow_28 : decode cX6_layRow 28 = .ok (.iload 4, 2) := by decide +kernel
theorem dX6_layRow_30 : decode cX6_layRow 30 = .ok (.bipush 6, 2) := by decide +kernel
theorem dX6_layRow_32 : decode cX6_layRow 32 = .ok (.idiv, 1) := by decide +kernel
theorem dX6_layRow_33 : decode cX6_layRow 33 = .ok (.istore 4, 2) := by decide +kernel
theorem dX6_layRow_35 : decode cX6_layRow 35 = .ok (.iload 5, 2) := by decide +kernel
theorem dX6_layRow_37 : decode cX6_layRow 37 = .ok (.iconst 1, 1) := by decide +kernel
theorem dX6_layRow_38 : decode cX6_layRow 38 = .ok (.aload_n 0, 1) := by decide +kernel
theorem dX6_layRow_39 : decode cX6_layRow 39 = .ok (.getfield 53, 3) := by decide +kernel
theorem dX6_layRow_42 : decode cX6_layRow 42 = .ok (.iload 6, 2) := by decide +kernel
theorem dX6_layRow_44 : decode cX6_layRow 44 = .ok (.iaload, 1) := by decide +kernel
theorem dX6_layRow_45 : decode cX6_layRow 45 = .ok (.ishl, 1) := by decide +kernel
theorem dX6_layRow_46 : decode cX6_layRow 46 = .ok (.ior, 1) := by decide +kernel
theorem dX6_layRow_47 : decode cX6_layRow 47 = .ok (.istore 5, 2) := by decide +kernel
theorem dX6_layRow_49 : decode cX6_layRow 49 = .ok (.iinc 6 (-1), 3) := by decide +kernel
theorem dX6_layRow_52 : decode cX6_layRow 52 = .ok (.goto (-41), 3) := by decide +kernel
theorem dX6_layRow_55 : decode cX6_layRow 55 = .ok (.iload 5, 2) := by decide +kernel
theorem dX6_layRow_57 : decode cX6_layRow 57 = .ok (.iload_n 3, 1) := by decide +kernel
theorem dX6_layRow_58 : decode cX6_layRow 58 = .ok (.if_icmp .ne 7, 3) := by decide +kernel
theorem dX6_layRow_61 : decode cX6_layRow 61 = .ok (.iconst 1, 1) := by decide +kernel
theorem dX6_layRow_62 : decode cX6_layRow 62 = .ok (.goto 4, 3) := by decide +kernel
theorem dX6_layRow_65 : decode cX6_layRow 65 = .ok (.iconst 0, 1) := by decide +kernel
theorem dX6_layRow_66 : decode cX6_layRow 66 = .ok (.ireturn, 1) := by decide +kernel
theorem dX6_rowsOf_0 : decode cX6_rowsOf 0 = .ok (.iconst 1, 1) := by decide +kernel
theorem dX6_rowsOf_1 : decode cX6_rowsOf 1 = .ok (.istore_n 1, 1) := by decide +kernel
theorem dX6_rowsOf_2 : decode cX6_rowsOf 2 = .ok (.iconst 0, 1) := by decide +kernel
theorem dX6_rowsOf_3 : decode cX6_rowsOf 3 = .ok (.istore_n 2, 1) := by decide +kernel
theorem dX6_rowsOf_4 : decode cX6_rowsOf 4 = .ok (.iload_n 2, 1) := by decide +kernel
theorem dX6_rowsOf_5 : decode cX6_rowsOf 5 = .ok (.iload_n 0, 1) := by decide +kernel
theorem dX6_rowsOf_6 : decode cX6_rowsOf 6 = .ok (.if_icmp .ge 14, 3) := by decide +kernel
theorem dX6_rowsOf_9 : decode cX6_rowsOf 9 = .ok (.iload_n 1, 1) := by decide +kernel
theorem dX6_rowsOf_10 : decode cX6_rowsOf 10 = .ok (.bipush 6, 2) := by decide +kernel
theorem dX6_rowsOf_12 : decode cX6_rowsOf 12 = .ok (.imul, 1) := by decide +kernel
theorem dX6_rowsOf_13 : decode cX6_rowsOf 13 = .ok (.istore_n 1, 1) := by decide +kernel
theorem dX6_rowsOf_14 : decode cX6_rowsOf 14 = .ok (.iinc 2 1, 3) := by decide +kernel
theorem dX6_rowsOf_17 : decode cX6_rowsOf 17 = .ok (.goto (-13), 3) := by decide +kernel
theorem dX6_rowsOf_20 : decode cX6_rowsOf 20 = .ok (.iload_n 1, 1) := by decide +kernel
theorem dX6_rowsOf_21 : decode cX6_rowsOf 21 = .ok (.ireturn, 1) := by decide +kernel
theorem dX6_minutesOf_0 : decode cX6_minutesOf 0 = .ok (.iconst 0, 1) := by decide +kernel
theorem dX6_minutesOf_1 : decode cX6_minutesOf 1 = .ok (.istore_n 2, 1) := by decide +kernel
theorem dX6_minutesOf_2 : decode cX6_minutesOf 2 = .ok (.aload_n 0, 1) := by decide +kernel
theorem dX6_minutesOf_3 : decode cX6_minutesOf 3 = .ok (.getfield 38, 3) := by decide +kernel
theorem dX6_minutesOf_6 : decode cX6_minutesOf 6 = .ok (.iconst 2, 1) := by decide +kernel
theorem dX6_minutesOf_7 : decode cX6_minutesOf 7 = .ok (.iaload, 1) := by decide +kernel
theorem dX6_minutesOf_8 : decode cX6_minutesOf 8 = .ok (.istore_n 3, 1) := by decide +kernel
theorem dX6_minutesOf_9 : decode cX6_minutesOf 9 = .ok (.iconst 0, 1) := by decide +kernel
theorem dX6_minutesOf_10 : decode cX6_minutesOf 10 = .ok (.istore 4, 2) := by decide +kernel
theorem dX6_minutesOf_12 : decode cX6_minutesOf 12 = .ok (.iload 4, 2) := by decide +kernel
theorem dX6_minutesOf_14 : decode cX6_minutesOf 14 = .ok (.iload_n 1, 1) := by decide +kernel
theorem dX6_minutesOf_15 : decode cX6_minutesOf 15 = .ok (.if_icmp .ge 69, 3) := by decide +kernel
theorem dX6_minutesOf_18 : decode cX6_minutesOf 18 = .ok (.iload_n 2, 1) := by decide +kernel
theorem dX6_minutesOf_19 : decode cX6_minutesOf 19 = .ok (.iload_n 3, 1) := by decide +kernel
theorem dX6_minutesOf_20 : decode cX6_minutesOf 20 = .ok (.aload_n 0, 1) := by decide +kernel
theorem dX6_minutesOf_21 : decode cX6_minutesOf 21 = .ok (.getfield 53, 3) := by decide +kernel
theorem dX6_minutesOf_24 : decode cX6_minutesOf 24 = .ok (.iload 4, 2) := by decide +kernel
theorem dX6_minutesOf_26 : decode cX6_minutesOf 26 = .ok (.iaload, 1) := by decide +kernel
theorem dX6_minutesOf_27 : decode cX6_minutesOf 27 = .ok (.invokestatic 176, 3) := by decide +kernel
theorem dX6_minutesOf_30 : decode cX6_minutesOf 30 = .ok (.aload_n 0, 1) := by decide +kernel
theorem dX6_minutesOf_31 : decode cX6_minutesOf 31 = .ok (.aload_n 0, 1) := by decide +kernel
theorem dX6_minutesOf_32 : decode cX6_minutesOf 32 = .ok (.getfield 53, 3) := by decide +kernel
theorem dX6_minutesOf_35 : decode cX6_minutesOf 35 = .ok (.iload 4, 2) := by decide +kernel
theorem dX6_minutesOf_37 : decode cX6_minutesOf 37 = .ok (.iaload, 1) := by decide +kernel
theorem dX6_minutesOf_38 : decode cX6_minutesOf 38 = .ok (.invokevirtual 147, 3) := by decide +kernel
theorem dX6_minutesOf_41 : decode cX6_minutesOf 41 = .ok (.iadd, 1) := by decide +kernel
theorem dX6_minutesOf_42 : decode cX6_minutesOf 42 = .ok (.iadd, 1) := by decide +kernel
theorem dX6_minutesOf_43 : decode cX6_minutesOf 43 = .ok (.istore_n 2, 1) := by decide +kernel
theorem dX6_minutesOf_44 : decode cX6_minutesOf 44 = .ok (.aload_n 0, 1) := by decide +kernel
theorem dX6_minutesOf_45 : decode cX6_minutesOf 45 = .ok (.getfield 53, 3) := by decide +kernel
theorem dX6_minutesOf_48 : decode cX6_minutesOf 48 = .ok (.iload 4, 2) := by decide +kernel
theorem dX6_minutesOf_50 : decode cX6_minutesOf 50 = .ok (.iaload, 1) := by decide +kernel
theorem dX6_minutesOf_51 : decode cX6_minutesOf 51 = .ok (.istore_n 3, 1) := by decide +kernel
theorem dX6_minutesOf_52 : decode cX6_minutesOf 52 = .ok (.aload_n 0, 1) := by decide +kernel
theorem dX6_minutesOf_53 : decode cX6_minutesOf 53 = .ok (.getfield 38, 3) := by decide +kernel
theorem dX6_minutesOf_56 : decode cX6_minutesOf 56 = .ok (.iconst 0, 1) := by decide +kernel
theorem dX6_minutesOf_57 : decode cX6_minutesOf 57 = .ok (.iaload, 1) := by decide +kernel
theorem dX6_minutesOf_58 : decode cX6_minutesOf 58 = .ok (.iload_n 2, 1) := by decide +kernel
theorem dX6_minutesOf_59 : decode cX6_minutesOf 59 = .ok (.iadd, 1) := by decide +kernel
theorem dX6_minutesOf_60 : decode cX6_minutesOf 60 = .ok (.aload_n 0, 1) := by decide +kernel
theorem dX6_minutesOf_61 : decode cX6_minutesOf 61 = .ok (.getfield 35, 3) := by decide +kernel
theorem dX6_minutesOf_64 : decode cX6_minutesOf 64 = .ok (.aload_n 0, 1) := by decide +kernel
theorem dX6_minutesOf_65 : decode cX6_minutesOf 65 = .ok (.getfield 53, 3) := by decide +kernel
theorem dX6_minutesOf_68 : decode cX6_minutesOf 68 = .ok (.iload 4, 2) := by decide +kernel
theorem dX6_minutesOf_70 : decode cX6_minutesOf 70 = .ok (.iaload, 1) := by decide +kernel
theorem dX6_minutesOf_71 : decode cX6_minutesOf 71 = .ok (.iaload, 1) := by decide +kernel
theorem dX6_minutesOf_72 : decode cX6_minutesOf 72 = .ok (.if_icmp .le 6, 3) := by decide +kernel
theorem dX6_minutesOf_75 : decode cX6_minutesOf 75 = .ok (.bipush (-9), 2) := by decide +kernel
theorem dX6_minutesOf_77 : decode cX6_minutesOf 77 = .ok (.ireturn, 1) := by decide +kernel
theorem dX6_minutesOf_78 : decode cX6_minutesOf 78 = .ok (.iinc 4 1, 3) := by decide +kernel
theorem dX6_minutesOf_81 : decode cX6_minutesOf 81 = .ok (.goto (-69), 3) := by decide +kernel
theorem dX6_minutesOf_84 : decode cX6_minutesOf 84 = .ok (.iload_n 2, 1) := by decide +kernel
theorem dX6_minutesOf_85 : decode cX6_minutesOf 85 = .ok (.ireturn, 1) := by decide +kernel
theorem dX6_bestOf_0 : decode cX6_bestOf 0 = .ok (.iload_n 1, 1) := by decide +kernel
theorem dX6_bestOf_1 : decode cX6_bestOf 1 = .ok (.invokestatic 166, 3) := by decide +kernel
theorem dX6_bestOf_4 : decode cX6_bestOf 4 = .ok (.istore_n 2, 1) := by decide +kernel
theorem dX6_bestOf_5 : decode cX6_bestOf 5 = .ok (.bipush (-9), 2) := by decide +kernel
theorem dX6_bestOf_7 : decode cX6_bestOf 7 = .ok (.istore_n 3, 1) := by decide +kernel
theorem dX6_bestOf_8 : decode cX6_bestOf 8 = .ok (.iconst 0, 1) := by decide +kernel
theorem dX6_bestOf_9 : decode cX6_bestOf 9 = .ok (.istore 4, 2) := by decide +kernel
theorem dX6_bestOf_11 : decode cX6_bestOf 11 = .ok (.iload 4, 2) := by decide +kernel
theorem dX6_bestOf_13 : decode cX6_bestOf 13 = .ok (.iload_n 2, 1) := by decide +kernel
theorem dX6_bestOf_14 : decode cX6_bestOf 14 = .ok (.invokestatic 202, 3) := by decide +kernel
theorem dX6_bestOf_17 : decode cX6_bestOf 17 = .ok (.if_icmp .ge 64, 3) := by decide +kernel
theorem dX6_bestOf_20 : decode cX6_bestOf 20 = .ok (.aload_n 0, 1) := by decide +kernel
theorem dX6_bestOf_21 : decode cX6_bestOf 21 = .ok (.iload 4, 2) := by decide +kernel
theorem dX6_bestOf_23 : decode cX6_bestOf 23 = .ok (.iload_n 2, 1) := by decide +kernel
theorem dX6_bestOf_24 : decode cX6_bestOf 24 = .ok (.iload_n 1, 1) := by decide +kernel
theorem dX6_bestOf_25 : decode cX6_bestOf 25 = .ok (.invokevirtual 205, 3) := by decide +kernel
theorem dX6_bestOf_28 : decode cX6_bestOf 28 = .ok (.ifCond .eq 47, 3) := by decide +kernel
theorem dX6_bestOf_31 : decode cX6_bestOf 31 = .ok (.aload_n 0, 1) := by decide +kernel
theorem dX6_bestOf_32 : decode cX6_bestOf 32 = .ok (.iload_n 2, 1) := by decide +kernel
theorem dX6_bestOf_33 : decode cX6_bestOf 33 = .ok (.invokevirtual 208, 3) := by decide +kernel
theorem dX6_bestOf_36 : decode cX6_bestOf 36 = .ok (.istore 5, 2) := by decide +kernel
theorem dX6_bestOf_38 : decode cX6_bestOf 38 = .ok (.iload 5, 2) := by decide +kernel
theorem dX6_bestOf_40 : decode cX6_bestOf 40 = .ok (.bipush (-9), 2) := by decide +kernel
theorem dX6_bestOf_42 : decode cX6_bestOf 42 = .ok (.if_icmp .eq 33, 3) := by decide +kernel
theorem dX6_bestOf_45 : decode cX6_bestOf 45 = .ok (.iload_n 3, 1) := by decide +kernel
theorem dX6_bestOf_46 : decode cX6_bestOf 46 = .ok (.bipush (-9), 2) := by decide +kernel
theorem dX6_bestOf_48 : decode cX6_bestOf 48 = .ok (.if_icmp .eq 9, 3) := by decide +kernel
theorem dX6_bestOf_51 : decode cX6_bestOf 51 = .ok (.iload 5, 2) := by decide +kernel
theorem dX6_bestOf_53 : decode cX6_bestOf 53 = .ok (.iload_n 3, 1) := by decide +kernel
theorem dX6_bestOf_54 : decode cX6_bestOf 54 = .ok (.if_icmp .ge 21, 3) := by decide +kernel
theorem dX6_bestOf_57 : decode cX6_bestOf 57 = .ok (.iload 5, 2) := by decide +kernel
theorem dX6_bestOf_59 : decode cX6_bestOf 59 = .ok (.istore_n 3, 1) := by decide +kernel
theorem dX6_bestOf_60 : decode cX6_bestOf 60 = .ok (.aload_n 0, 1) := by decide +kernel
theorem dX6_bestOf_61 : decode cX6_bestOf 61 = .ok (.getfield 53, 3) := by decide +kernel
theorem dX6_bestOf_64 : decode cX6_bestOf 64 = .ok (.iconst 0, 1) := by decide +kernel
theorem dX6_bestOf_65 : decode cX6_bestOf 65 = .ok (.aload_n 0, 1) := by decide +kernel
theorem dX6_bestOf_66 : decode cX6_bestOf 66 = .ok (.getfield 56, 3) := by decide +kernel
theorem dX6_bestOf_69 : decode cX6_bestOf 69 = .ok (.iconst 0, 1) := by decide +kernel
theorem dX6_bestOf_70 : decode cX6_bestOf 70 = .ok (.bipush 6, 2) := by decide +kernel
theorem dX6_bestOf_72 : decode cX6_bestOf 72 = .ok (.invokestatic 172, 3) := by decide +kernel
theorem dX6_bestOf_75 : decode cX6_bestOf 75 = .ok (.iinc 4 1, 3) := by decide +kernel
theorem dX6_bestOf_78 : decode cX6_bestOf 78 = .ok (.goto (-67), 3) := by decide +kernel
theorem dX6_bestOf_81 : decode cX6_bestOf 81 = .ok (.iload_n 3, 1) := by decide +kernel
theorem dX6_bestOf_82 : decode cX6_bestOf 82 = .ok (.ireturn, 1) := by decide +kernel
theorem dX6_anew_0 : decode cX6_anew 0 = .ok (.aload_n 0, 1) := by decide +kernel
theorem dX6_anew_1 : decode cX6_anew 1 = .ok (.getfield 7, 3) := by decide +kernel
theorem dX6_anew_4 : decode cX6_anew 4 = .ok (.iload_n 1, 1) := by decide +kernel
theorem dX6_anew_5 : decode cX6_anew 5 = .ok (.iload_n 2, 1) := by decide +kernel
theorem dX6_anew_6 : decode cX6_anew 6 = .ok (.iastore, 1) := by decide +kernel
theorem dX6_anew_7 : decode cX6_anew 7 = .ok (.iconst 0, 1) := by decide +kernel
theorem dX6_anew_8 : decode cX6_anew 8 = .ok (.istore_n 3, 1) := by decide +kernel
theorem dX6_anew_9 : decode cX6_anew 9 = .ok (.iload_n 3, 1) := by decide +kernel
theorem dX6_anew_10 : decode cX6_anew 10 = .ok (.bipush 40, 2) := by decide +kernel
theorem dX6_anew_12 : decode cX6_anew 12 = .ok (.if_icmp .ge 35, 3) := by decide +kernel
theorem dX6_anew_15 : decode cX6_anew 15 = .ok (.aload_n 0, 1) := by decide +kernel
theorem dX6_anew_16 : decode cX6_anew 16 = .ok (.getfield 13, 3) := by decide +kernel
theorem dX6_anew_19 : decode cX6_anew 19 = .ok (.bipush 40, 2) := by decide +kernel
theorem dX6_anew_21 : decode cX6_anew 21 = .ok (.iload_n 1, 1) := by decide +kernel
theorem dX6_anew_22 : decode cX6_anew 22 = .ok (.imul, 1) := by decide +kernel
theorem dX6_anew_23 : decode cX6_anew 23 = .ok (.iload_n 3, 1) := by decide +kernel
theorem dX6_anew_24 : decode cX6_anew 24 = .ok (.iadd, 1) := by decide +kernel
theorem dX6_anew_25 : decode cX6_anew 25 = .ok (.iload_n 3, 1) := by decide +kernel
theorem dX6_anew_26 : decode cX6_anew 26 = .ok (.iload_n 2, 1) := by decide +kernel
theorem dX6_anew_27 : decode cX6_anew 27 = .ok (.if_icmp .ge 12, 3) := by decide +kernel
theorem dX6_anew_30 : decode cX6_anew 30 = .ok (.aload_n 0, 1) := by decide +kernel
theorem dX6_anew_31 : decode cX6_anew 31 = .ok (.getfield 56, 3) := by decide +kernel
theorem dX6_anew_34 : decode cX6_anew 34 = .ok (.iload_n 3, 1) := by decide +kernel
theorem dX6_anew_35 : decode cX6_anew 35 = .ok (.iaload, 1) := by decide +kernel
theorem dX6_anew_36 : decode cX6_anew 36 = .ok (.goto 4, 3) := by decide +kernel
theorem dX6_anew_39 : decode cX6_anew 39 = .ok (.iconst 0, 1) := by decide +kernel
theorem dX6_anew_40 : decode cX6_anew 40 = .ok (.iastore, 1) := by decide +kernel
theorem dX6_anew_41 : decode cX6_anew 41 = .ok (.iinc 3 1, 3) := by decide +kernel
theorem dX6_anew_44 : decode cX6_anew 44 = .ok (.goto (-35), 3) := by decide +kernel
theorem dX6_anew_47 : decode cX6_anew 47 = .ok (.return_, 1) := by decide +kernel
theorem dX6_intime_0 : decode cX6_intime 0 = .ok (.aload_n 0, 1) := by decide +kernel
theorem dX6_intime_1 : decode cX6_intime 1 = .ok (.iload_n 1, 1) := by decide +kernel
theorem dX6_intime_2 : decode cX6_intime 2 = .ok (.invokevirtual 193, 3) := by decide +kernel
theorem dX6_intime_5 : decode cX6_intime 5 = .ok (.ifCond .eq 12, 3) := by decide +kernel
theorem dX6_intime_8 : decode cX6_intime 8 = .ok (.iload_n 2, 1) := by decide +kernel
theorem dX6_intime_9 : decode cX6_intime 9 = .ok (.iconst 0, 1) := by decide +kernel
theorem dX6_intime_10 : decode cX6_intime 10 = .ok (.iconst 5, 1) := by decide +kernel
theorem dX6_intime_11 : decode cX6_intime 11 = .ok (.invokestatic 69, 3) := by decide +kernel
theorem dX6_intime_14 : decode cX6_intime 14 = .ok (.ifCond .ne 5, 3) := by decide +kernel
theorem dX6_intime_17 : decode cX6_intime 17 = .ok (.iconst (-1), 1) := by decide +kernel
theorem dX6_intime_18 : decode cX6_intime 18 = .ok (.ireturn, 1) := by decide +kernel
theorem dX6_intime_19 : decode cX6_intime 19 = .ok (.iload_n 1, 1) := by decide +kernel
theorem dX6_intime_20 : decode cX6_intime 20 = .ok (.aload_n 0, 1) := by decide +kernel
theorem dX6_intime_21 : decode cX6_intime 21 = .ok (.invokevirtual 196, 3) := by decide +kernel
theorem dX6_intime_24 : decode cX6_intime 24 = .ok (.iconst (-1), 1) := by decide +kernel
theorem dX6_intime_25 : decode cX6_intime 25 = .ok (.ixor, 1) := by decide +kernel
theorem dX6_intime_26 : decode cX6_intime 26 = .ok (.iand, 1) := by decide +kernel
theorem dX6_intime_27 : decode cX6_intime 27 = .ok (.ifCond .eq 6, 3) := by decide +kernel
theorem dX6_intime_30 : decode cX6_intime 30 = .ok (.bipush (-4), 2) := by decide +kernel
theorem dX6_intime_32 : decode cX6_intime 32 = .ok (.ireturn, 1) := by decide +kernel
theorem dX6_intime_33 : decode cX6_intime 33 = .ok (.aload_n 0, 1) := by decide +kernel
theorem dX6_intime_34 : decode cX6_intime 34 = .ok (.iload_n 1, 1) := by decide +kernel
theorem dX6_intime_35 : decode cX6_intime 35 = .ok (.invokevirtual 211, 3) := by decide +kernel
theorem dX6_intime_38 : decode cX6_intime 38 = .ok (.istore_n 3, 1) := by decide +kernel
theorem dX6_intime_39 : decode cX6_intime 39 = .ok (.iload_n 3, 1) := by decide +kernel
theorem dX6_intime_40 : decode cX6_intime 40 = .ok (.bipush (-9), 2) := by decide +kernel
theorem dX6_intime_42 : decode cX6_intime 42 = .ok (.if_icmp .eq 12, 3) := by decide +kernel
theorem dX6_intime_45 : decode cX6_intime 45 = .ok (.aload_n 0, 1) := by decide +kernel
theorem dX6_intime_46 : decode cX6_intime 46 = .ok (.iload_n 2, 1) := by decide +kernel
theorem dX6_intime_47 : decode cX6_intime 47 = .ok (.iload_n 1, 1) := by decide +kernel
theorem dX6_intime_48 : decode cX6_intime 48 = .ok (.invokestatic 166, 3) := by decide +kernel
theorem dX6_intime_51 : decode cX6_intime 51 = .ok (.invokevirtual 214, 3) := by decide +kernel
theorem dX6_intime_54 : decode cX6_intime 54 = .ok (.iload_n 3, 1) := by decide +kernel
theorem dX6_intime_55 : decode cX6_intime 55 = .ok (.ireturn, 1) := by decide +kernel
theorem dX6_many_0 : decode cX6_many 0 = .ok (.aload_n 0, 1) := by decide +kernel
theorem dX6_many_1 : decode cX6_many 1 = .ok (.getfield 66, 3) := by decide +kernel
theorem dX6_many_4 : decode cX6_many 4 = .ok (.ifCond .ne 6, 3) := by decide +kernel
theorem dX6_many_7 : decode cX6_many 7 = .ok (.bipush (-4), 2) := by decide +kernel
theorem dX6_many_9 : decode cX6_many 9 = .ok (.ireturn, 1) := by decide +kernel
theorem dX6_many_10 : decode cX6_many 10 = .ok (.aload_n 0, 1) := by decide +kernel
theorem dX6_many_11 : decode cX6_many 11 = .ok (.invokevirtual 196, 3) := by decide +kernel
theorem dX6_many_14 : decode cX6_many 14 = .ok (.istore_n 1, 1) := by decide +kernel
theorem dX6_many_15 : decode cX6_many 15 = .ok (.iconst 0, 1) := by decide +kernel
theorem dX6_many_16 : decode cX6_many 16 = .ok (.istore_n 2, 1) := by decide +kernel
theorem dX6_many_17 : decode cX6_many 17 = .ok (.iconst 1, 1) := by decide +kernel
theorem dX6_many_18 : decode cX6_many 18 = .ok (.istore_n 3, 1) := by decide +kernel
theorem dX6_many_19 : decode cX6_many 19 = .ok (.iload_n 3, 1) := by decide +kernel
theorem dX6_many_20 : decode cX6_many 20 = .ok (.iload_n 1, 1) := by decide +kernel
theorem dX6_many_21 : decode cX6_many 21 = .ok (.if_icmp .gt 44, 3) := by decide +kernel
theorem dX6_many_24 : decode cX6_many 24 = .ok (.iload_n 3, 1) := by decide +kernel
theorem dX6_many_25 : decode cX6_many 25 = .ok (.iload_n 1, 1) := by decide +kernel
theorem dX6_many_26 : decode cX6_many 26 = .ok (.iconst (-1), 1) := by decide +kernel
theorem dX6_many_27 : decode cX6_many 27 = .ok (.ixor, 1) := by decide +kernel
theorem dX6_many_28 : decode cX6_many 28 = .ok (.iand, 1) := by decide +kernel
theorem dX6_many_29 : decode cX6_many 29 = .ok (.ifCond .ne 28, 3) := by decide +kernel
theorem dX6_many_32 : decode cX6_many 32 = .ok (.iload_n 3, 1) := by decide +kernel
theorem dX6_many_33 : decode cX6_many 33 = .ok (.invokestatic 166, 3) := by decide +kernel
theorem dX6_many_36 : decode cX6_many 36 = .ok (.iload_n 2, 1) := by decide +kernel
theorem dX6_many_37 : decode cX6_many 37 = .ok (.invokestatic 166, 3) := by decide +kernel
theorem dX6_many_40 : decode cX6_many 40 = .ok (.if_icmp .le 17, 3) := by decide +kernel
theorem dX6_many_43 : decode cX6_many 43 = .ok (.aload_n 0, 1) := by decide +kernel
theorem dX6_many_44 : decode cX6_many 44 = .ok (.iload_n 3, 1) := by decide +kernel
theorem dX6_many_45 : decode cX6_many 45 = .ok (.invokevirtual 211, 3) := by decide +kernel
theorem dX6_many_48 : decode cX6_many 48 = .ok (.bipush (-9), 2) := by decide +kernel
theorem dX6_many_50 : decode cX6_many 50 = .ok (.if_icmp .eq 7, 3) := by decide +kernel
theorem dX6_many_53 : decode cX6_many 53 = .ok (.iload_n 3, 1) := by decide +kernel
theorem dX6_many_54 : decode cX6_many 54 = .ok (.goto 4, 3) := by decide +kernel
theorem dX6_many_57 : decode cX6_many 57 = .ok (.iload_n 2, 1) := by decide +kernel
theorem dX6_many_58 : decode cX6_many 58 = .ok (.istore_n 2, 1) := by decide +kernel
theorem dX6_many_59 : decode cX6_many 59 = .ok (.iinc 3 1, 3) := by decide +kernel
theorem dX6_many_62 : decode cX6_many 62 = .ok (.goto (-43), 3) := by decide +kernel
theorem dX6_many_65 : decode cX6_many 65 = .ok (.aload_n 0, 1) := by decide +kernel
theorem dX6_many_66 : decode cX6_many 66 = .ok (.iload_n 2, 1) := by decide +kernel
theorem dX6_many_67 : decode cX6_many 67 = .ok (.invokevirtual 81, 3) := by decide +kernel
theorem dX6_many_70 : decode cX6_many 70 = .ok (.pop, 1) := by decide +kernel
theorem dX6_many_71 : decode cX6_many 71 = .ok (.iload_n 2, 1) := by decide +kernel
theorem dX6_many_72 : decode cX6_many 72 = .ok (.invokestatic 166, 3) := by decide +kernel
theorem dX6_many_75 : decode cX6_many 75 = .ok (.ireturn, 1) := by decide +kernel
theorem dX6_dates_0 : decode cX6_dates 0 = .ok (.iload_n 1, 1) := by decide +kernel
theorem dX6_dates_1 : decode cX6_dates 1 = .ok (.iconst 0, 1) := by decide +kernel
theorem dX6_dates_2 : decode cX6_dates 2 = .ok (.iconst 5, 1) := by decide +kernel
theorem dX6_dates_3 : decode cX6_dates 3 = .ok (.invokestatic 69, 3) := by decide +kernel
theorem dX6_dates_6 : decode cX6_dates 6 = .ok (.ifCond .ne 5, 3) := by decide +kernel
theorem dX6_dates_9 : decode cX6_dates 9 = .ok (.iconst (-1), 1) := by decide +kernel
theorem dX6_dates_10 : decode cX6_dates 10 = .ok (.ireturn, 1) := by decide +kernel
theorem dX6_dates_11 : decode cX6_dates 11 = .ok (.aload_n 0, 1) := by decide +kernel
theorem dX6_dates_12 : decode cX6_dates 12 = .ok (.getfield 66, 3) := by decide +kernel
theorem dX6_dates_15 : decode cX6_dates 15 = .ok (.ifCond .ne 6, 3) := by decide +kernel
theorem dX6_dates_18 : decode cX6_dates 18 = .ok (.bipush (-4), 2) := by decide +kernel
theorem dX6_dates_20 : decode cX6_dates 20 = .ok (.ireturn, 1) := by decide +kernel
theorem dX6_dates_21 : decode cX6_dates 21 = .ok (.ldc 217, 2) := by decide +kernel
theorem dX6_dates_23 : decode cX6_dates 23 = .ok (.istore_n 2, 1) := by decide +kernel
theorem dX6_dates_24 : decode cX6_dates 24 = .ok (.iconst 0, 1) := by decide +kernel
theorem dX6_dates_25 : decode cX6_dates 25 = .ok (.istore_n 3, 1) := by decide +kernel
theorem dX6_dates_26 : decode cX6_dates 26 = .ok (.iload_n 3, 1) := by decide +kernel
theorem dX6_dates_27 : decode cX6_dates 27 = .ok (.aload_n 0, 1) := by decide +kernel
theorem dX6_dates_28 : decode cX6_dates 28 = .ok (.getfield 66, 3) := by decide +kernel
theorem dX6_dates_31 : decode cX6_dates 31 = .ok (.invokestatic 202, 3) := by decide +kernel
theorem dX6_dates_34 : decode cX6_dates 34 = .ok (.if_icmp .ge 112, 3) := by decide +kernel
theorem dX6_dates_37 : decode cX6_dates 37 = .ok (.aload_n 0, 1) := by decide +kernel
theorem dX6_dates_38 : decode cX6_dates 38 = .ok (.iload_n 3, 1) := by decide +kernel
theorem dX6_dates_39 : decode cX6_dates 39 = .ok (.aload_n 0, 1) := by decide +kernel
theorem dX6_dates_40 : decode cX6_dates 40 = .ok (.getfield 66, 3) := by decide +kernel
theorem dX6_dates_43 : decode cX6_dates 43 = .ok (.iconst 1, 1) := by decide +kernel
theorem dX6_dates_44 : decode cX6_dates 44 = .ok (.aload_n 0, 1) := by decide +kernel
theorem dX6_dates_45 : decode cX6_dates 45 = .ok (.getfield 66, 3) := by decide +kernel
theorem dX6_dates_48 : decode cX6_dates 48 = .ok (.ishl, 1) := by decide +kernel
theorem dX6_dates_49 : decode cX6_dates 49 = .ok (.iconst 1, 1) := by decide +kernel
theorem dX6_dates_50 : decode cX6_dates 50 = .ok (.isub, 1) := by decide +kernel
theorem dX6_dates_51 : decode cX6_dates 51 = .ok (.invokevirtual 205, 3) := by decide +kernel
theorem dX6_dates_54 : decode cX6_dates 54 = .ok (.ifCond .eq 86, 3) := by decide +kernel
theorem dX6_dates_57 : decode cX6_dates 57 = .ok (.iconst 0, 1) := by decide +kernel
theorem dX6_dates_58 : decode cX6_dates 58 = .ok (.istore 4, 2) := by decide +kernel
theorem dX6_dates_60 : decode cX6_dates 60 = .ok (.iconst 1, 1) := by decide +kernel
theorem dX6_dates_61 : decode cX6_dates 61 = .ok (.istore 5, 2) := by decide +kernel
theorem dX6_dates_63 : decode cX6_dates 63 = .ok (.iload 5, 2) := by decide +kernel
theorem dX6_dates_65 : decode cX6_dates 65 = .ok (.aload_n 0, 1) := by decide +kernel
theorem dX6_dates_66 : decode cX6_dates 66 = .ok (.getfield 66, 3) := by decide +kernel
theorem dX6_dates_69 : decode cX6_dates 69 = .ok (.if_icmp .ge 47, 3) := by decide +kernel
theorem dX6_dates_72 : decode cX6_dates 72 = .ok (.iload 4, 2) := by decide +kernel
theorem dX6_dates_74 : decode cX6_dates 74 = .ok (.aload_n 0, 1) := by decide +kernel
theorem dX6_dates_75 : decode cX6_dates 75 = .ok (.getfield 38, 3) := by decide +kernel
theorem dX6_dates_78 : decode cX6_dates 78 = .ok (.iconst 5, 1) := by decide +kernel
theorem dX6_dates_79 : decode cX6_dates 79 = .ok (.aload_n 0, 1) := by decide +kernel
theorem dX6_dates_80 : decode cX6_dates 80 = .ok (.getfield 53, 3) := by decide +kernel
theorem dX6_dates_83 : decode cX6_dates 83 = .ok (.iload 5, 2) := by decide +kernel
theorem dX6_dates_85 : decode cX6_dates 85 = .ok (.iaload, 1) := by decide +kernel
theorem dX6_dates_86 : decode cX6_dates 86 = .ok (.iadd, 1) := by decide +kernel
theorem dX6_dates_87 : decode cX6_dates 87 = .ok (.iaload, 1) := by decide +kernel
theorem dX6_dates_88 : decode cX6_dates 88 = .ok (.aload_n 0, 1) := by decide +kernel
theorem dX6_dates_89 : decode cX6_dates 89 = .ok (.getfield 38, 3) := by decide +kernel
theorem dX6_dates_92 : decode cX6_dates 92 = .ok (.iconst 5, 1) := by decide +kernel
theorem dX6_dates_93 : decode cX6_dates 93 = .ok (.aload_n 0, 1) := by decide +kernel
theorem dX6_dates_94 : decode cX6_dates 94 = .ok (.getfield 53, 3) := by decide +kernel
theorem dX6_dates_97 : decode cX6_dates 97 = .ok (.iload 5, 2) := by decide +kernel
theorem dX6_dates_99 : decode cX6_dates 99 = .ok (.iconst 1, 1) := by decide +kernel
theorem dX6_dates_100 : decode cX6_dates 100 = .ok (.isub, 1) := by decide +kernel
theorem dX6_dates_101 : decode cX6_dates 101 = .ok (.iaload, 1) := by decide +kernel
theorem dX6_dates_102 : decode cX6_dates 102 = .ok (.iadd, 1) := by decide +kernel
theorem dX6_dates_103 : decode cX6_dates 103 = .ok (.iaload, 1) := by decide +kernel
theorem dX6_dates_104 : decode cX6_dates 104 = .ok (.invokestatic 176, 3) := by decide +kernel
theorem dX6_dates_107 : decode cX6_dates 107 = .ok (.iadd, 1) := by decide +kernel
theorem dX6_dates_108 : decode cX6_dates 108 = .ok (.istore 4, 2) := by decide +kernel
theorem dX6_dates_110 : decode cX6_dates 110 = .ok (.iinc 5 1, 3) := by decide +kernel
theorem dX6_dates_113 : decode cX6_dates 113 = .ok (.goto (-50), 3) := by decide +kernel
theorem dX6_dates_116 : decode cX6_dates 116 = .ok (.iload 4, 2) := by decide +kernel
theorem dX6_dates_118 : decode cX6_dates 118 = .ok (.iload_n 2, 1) := by decide +kernel
theorem dX6_dates_119 : decode cX6_dates 119 = .ok (.if_icmp .ge 21, 3) := by decide +kernel
theorem dX6_dates_122 : decode cX6_dates 122 = .ok (.iload 4, 2) := by decide +kernel
theorem dX6_dates_124 : decode cX6_dates 124 = .ok (.istore_n 2, 1) := by decide +kernel
theorem dX6_dates_125 : decode cX6_dates 125 = .ok (.aload_n 0, 1) := by decide +kernel
theorem dX6_dates_126 : decode cX6_dates 126 = .ok (.getfield 53, 3) := by decide +kernel
theorem dX6_dates_129 : decode cX6_dates 129 = .ok (.iconst 0, 1) := by decide +kernel
theorem dX6_dates_130 : decode cX6_dates 130 = .ok (.aload_n 0, 1) := by decide +kernel
theorem dX6_dates_131 : decode cX6_dates 131 = .ok (.getfield 56, 3) := by decide +kernel
theorem dX6_dates_134 : decode cX6_dates 134 = .ok (.iconst 0, 1) := by decide +kernel
theorem dX6_dates_135 : decode cX6_dates 135 = .ok (.bipush 6, 2) := by decide +kernel
theorem dX6_dates_137 : decode cX6_dates 137 = .ok (.invokestatic 172, 3) := by decide +kernel
theorem dX6_dates_140 : decode cX6_dates 140 = .ok (.iinc 3 1, 3) := by decide +kernel
theorem dX6_dates_143 : decode cX6_dates 143 = .ok (.goto (-117), 3) := by decide +kernel
theorem dX6_dates_146 : decode cX6_dates 146 = .ok (.aload_n 0, 1) := by decide +kernel
theorem dX6_dates_147 : decode cX6_dates 147 = .ok (.iload_n 1, 1) := by decide +kernel
theorem dX6_dates_148 : decode cX6_dates 148 = .ok (.aload_n 0, 1) := by decide +kernel
theorem dX6_dates_149 : decode cX6_dates 149 = .ok (.getfield 66, 3) := by decide +kernel
theorem dX6_dates_152 : decode cX6_dates 152 = .ok (.invokevirtual 214, 3) := by decide +kernel
theorem dX6_dates_155 : decode cX6_dates 155 = .ok (.iload_n 2, 1) := by decide +kernel
theorem dX6_dates_156 : decode cX6_dates 156 = .ok (.ireturn, 1) := by decide +kernel
theorem dX6_wrongPairs_0 : decode cX6_wrongPairs 0 = .ok (.aload_n 0, 1) := by decide +kernel
theorem dX6_wrongPairs_1 : decode cX6_wrongPairs 1 = .ok (.getfield 7, 3) := by decide +kernel
theorem dX6_wrongPairs_4 : decode cX6_wrongPairs 4 = .ok (.iload_n 1, 1) := by decide +kernel
theorem dX6_wrongPairs_5 : decode cX6_wrongPairs 5 = .ok (.iaload, 1) := by decide +kernel
theorem dX6_wrongPairs_6 : decode cX6_wrongPairs 6 = .ok (.ifCond .ge 9, 3) := by decide +kernel
theorem dX6_wrongPairs_9 : decode cX6_wrongPairs 9 = .ok (.aload_n 0, 1) := by decide +kernel
theorem dX6_wrongPairs_10 : decode cX6_wrongPairs 10 = .ok (.iconst 1, 1) := by decide +kernel
theorem dX6_wrongPairs_11 : decode cX6_wrongPairs 11 = .ok (.invokevirtual 73, 3) := by decide +kernel
theorem dX6_wrongPairs_14 : decode cX6_wrongPairs 14 = .ok (.ireturn, 1) := by decide +kernel
theorem dX6_wrongPairs_15 : decode cX6_wrongPairs 15 = .ok (.aload_n 0, 1) := by decide +kernel
theorem dX6_wrongPairs_16 : decode cX6_wrongPairs 16 = .ok (.getfield 7, 3) := by decide +kernel
theorem dX6_wrongPairs_19 : decode cX6_wrongPairs 19 = .ok (.iload_n 1, 1) := by decide +kernel
theorem dX6_wrongPairs_20 : decode cX6_wrongPairs 20 = .ok (.iaload, 1) := by decide +kernel
theorem dX6_wrongPairs_21 : decode cX6_wrongPairs 21 = .ok (.iconst 2, 1) := by decide +kernel
theorem dX6_wrongPairs_22 : decode cX6_wrongPairs 22 = .ok (.irem, 1) := by decide +kernel
theorem dX6_wrongPairs_23 : decode cX6_wrongPairs 23 = .ok (.iconst 1, 1) := by decide +kernel
theorem dX6_wrongPairs_24 : decode cX6_wrongPairs 24 = .ok (.if_icmp .eq 14, 3) := by decide +kernel
theorem dX6_wrongPairs_27 : decode cX6_wrongPairs 27 = .ok (.aload_n 0, 1) := by decide +kernel
theorem dX6_wrongPairs_28 : decode cX6_wrongPairs 28 = .ok (.getfield 7, 3) := by decide +kernel
theorem dX6_wrongPairs_31 : decode cX6_wrongPairs 31 = .ok (.iload_n 1, 1) := by decide +kernel
theorem dX6_wrongPairs_32 : decode cX6_wrongPairs 32 = .ok (.iaload, 1) := by decide +kernel
theorem dX6_wrongPairs_33 : decode cX6_wrongPairs 33 = .ok (.bipush 16, 2) := by decide +kernel
theorem dX6_wrongPairs_35 : decode cX6_wrongPairs 35 = .ok (.if_icmp .le 9, 3) := by decide +kernel
theorem dX6_wrongPairs_38 : decode cX6_wrongPairs 38 = .ok (.aload_n 0, 1) := by decide +kernel
theorem dX6_wrongPairs_39 : decode cX6_wrongPairs 39 = .ok (.iconst 5, 1) := by decide +kernel
theorem dX6_wrongPairs_40 : decode cX6_wrongPairs 40 = .ok (.invokevirtual 73, 3) := by decide +kernel
theorem dX6_wrongPairs_43 : decode cX6_wrongPairs 43 = .ok (.ireturn, 1) := by decide +kernel
theorem dX6_wrongPairs_44 : decode cX6_wrongPairs 44 = .ok (.iconst 1, 1) := by decide +kernel
theorem dX6_wrongPairs_45 : decode cX6_wrongPairs 45 = .ok (.istore_n 2, 1) := by decide +kernel
theorem dX6_wrongPairs_46 : decode cX6_wrongPairs 46 = .ok (.iconst 0, 1) := by decide +kernel
theorem dX6_wrongPairs_47 : decode cX6_wrongPairs 47 = .ok (.istore_n 3, 1) := by decide +kernel
theorem dX6_wrongPairs_48 : decode cX6_wrongPairs 48 = .ok (.iload_n 3, 1) := by decide +kernel
theorem dX6_wrongPairs_49 : decode cX6_wrongPairs 49 = .ok (.aload_n 0, 1) := by decide +kernel
theorem dX6_wrongPairs_50 : decode cX6_wrongPairs 50 = .ok (.getfield 7, 3) := by decide +kernel
theorem dX6_wrongPairs_53 : decode cX6_wrongPairs 53 = .ok (.iload_n 1, 1) := by decide +kernel
theorem dX6_wrongPairs_54 : decode cX6_wrongPairs 54 = .ok (.iaload, 1) := by decide +kernel
theorem dX6_wrongPairs_55 : decode cX6_wrongPairs 55 = .ok (.if_icmp .ge 50, 3) := by decide +kernel
theorem dX6_wrongPairs_58 : decode cX6_wrongPairs 58 = .ok (.iload_n 2, 1) := by decide +kernel
theorem dX6_wrongPairs_59 : decode cX6_wrongPairs 59 = .ok (.ifCond .eq 38, 3) := by decide +kernel
theorem dX6_wrongPairs_62 : decode cX6_wrongPairs 62 = .ok (.aload_n 0, 1) := by decide +kernel
theorem dX6_wrongPairs_63 : decode cX6_wrongPairs 63 = .ok (.getfield 13, 3) := by decide +kernel
theorem dX6_wrongPairs_66 : decode cX6_wrongPairs 66 = .ok (.bipush 40, 2) := by decide +kernel
theorem dX6_wrongPairs_68 : decode cX6_wrongPairs 68 = .ok (.iload_n 1, 1) := by decide +kernel
theorem dX6_wrongPairs_69 : decode cX6_wrongPairs 69 = .ok (.imul, 1) := by decide +kernel
theorem dX6_wrongPairs_70 : decode cX6_wrongPairs 70 = .ok (.iload_n 3, 1) := by decide +kernel
theorem dX6_wrongPairs_71 : decode cX6_wrongPairs 71 = .ok (.iadd, 1) := by decide +kernel
theorem dX6_wrongPairs_72 : decode cX6_wrongPairs 72 = .ok (.iaload, 1) := by decide +kernel
theorem dX6_wrongPairs_73 : decode cX6_wrongPairs 73 = .ok (.iconst 0, 1) := by decide +kernel
theorem dX6_wrongPairs_74 : decode cX6_wrongPairs 74 = .ok (.iload_n 3, 1) := by decide +kernel
theorem dX6_wrongPairs_75 : decode cX6_wrongPairs 75 = .ok (.iconst 2, 1) := by decide +kernel
theorem dX6_wrongPairs_76 : decode cX6_wrongPairs 76 = .ok (.irem, 1) := by decide +kernel
theorem dX6_wrongPairs_77 : decode cX6_wrongPairs 77 = .ok (.ifCond .ne 8, 3) := by decide +kernel
theorem dX6_wrongPairs_80 : decode cX6_wrongPairs 80 = .ok (.bipush 99, 2) := by decide +kernel
theorem dX6_wrongPairs_82 : decode cX6_wrongPairs 82 = .ok (.goto 5, 3) := by decide +kernel
theorem dX6_wrongPairs_85 : decode cX6_wrongPairs 85 = .ok (.bipush 9, 2) := by decide +kernel
theorem dX6_wrongPairs_87 : decode cX6_wrongPairs 87 = .ok (.invokestatic 69, 3) := by decide +kernel
theorem dX6_wrongPairs_90 : decode cX6_wrongPairs 90 = .ok (.ifCond .eq 7, 3) := by decide +kernel
theorem dX6_wrongPairs_93 : decode cX6_wrongPairs 93 = .ok (.iconst 1, 1) := by decide +kernel
theorem dX6_wrongPairs_94 : decode cX6_wrongPairs 94 = .ok (.goto 4, 3) := by decide +kernel
theorem dX6_wrongPairs_97 : decode cX6_wrongPairs 97 = .ok (.iconst 0, 1) := by decide +kernel
theorem dX6_wrongPairs_98 : decode cX6_wrongPairs 98 = .ok (.istore_n 2, 1) := by decide +kernel
theorem dX6_wrongPairs_99 : decode cX6_wrongPairs 99 = .ok (.iinc 3 1, 3) := by decide +kernel
theorem dX6_wrongPairs_102 : decode cX6_wrongPairs 102 = .ok (.goto (-54), 3) := by decide +kernel
theorem dX6_wrongPairs_105 : decode cX6_wrongPairs 105 = .ok (.iload_n 2, 1) := by decide +kernel
theorem dX6_wrongPairs_106 : decode cX6_wrongPairs 106 = .ok (.ifCond .eq 7, 3) := by decide +kernel
theorem dX6_wrongPairs_109 : decode cX6_wrongPairs 109 = .ok (.iconst 0, 1) := by decide +kernel
theorem dX6_wrongPairs_110 : decode cX6_wrongPairs 110 = .ok (.goto 8, 3) := by decide +kernel
theorem dX6_wrongPairs_113 : decode cX6_wrongPairs 113 = .ok (.aload_n 0, 1) := by decide +kernel
theorem dX6_wrongPairs_114 : decode cX6_wrongPairs 114 = .ok (.iconst 3, 1) := by decide +kernel
theorem dX6_wrongPairs_115 : decode cX6_wrongPairs 115 = .ok (.invokevirtual 73, 3) := by decide +kernel
theorem dX6_wrongPairs_118 : decode cX6_wrongPairs 118 = .ok (.ireturn, 1) := by decide +kernel
theorem dX6_tookBy_0 : decode cX6_tookBy 0 = .ok (.aload_n 0, 1) := by decide +kernel
theorem dX6_tookBy_1 : decode cX6_tookBy 1 = .ok (.iload_n 1, 1) := by decide +kernel
theorem dX6_tookBy_2 : decode cX6_tookBy 2 = .ok (.iload_n 2, 1) := by decide +kernel
theorem dX6_tookBy_3 : decode cX6_tookBy 3 = .ok (.invokevirtual 137, 3) := by decide +kernel
theorem dX6_tookBy_6 : decode cX6_tookBy 6 = .ok (.istore_n 3, 1) := by decide +kernel
theorem dX6_tookBy_7 : decode cX6_tookBy 7 = .ok (.iload_n 3, 1) := by decide +kernel
theorem dX6_tookBy_8 : decode cX6_tookBy 8 = .ok (.bipush (-9), 2) := by decide +kernel
theorem dX6_tookBy_10 : decode cX6_tookBy 10 = .ok (.if_icmp .ne 7, 3) := by decide +kernel
theorem dX6_tookBy_13 : decode cX6_tookBy 13 = .ok (.iconst 0, 1) := by decide +kernel
theorem dX6_tookBy_14 : decode cX6_tookBy 14 = .ok (.goto 4, 3) := by decide +kernel
theorem dX6_tookBy_17 : decode cX6_tookBy 17 = .ok (.iload_n 3, 1) := by decide +kernel
theorem dX6_tookBy_18 : decode cX6_tookBy 18 = .ok (.ireturn, 1) := by decide +kernel
theorem dX6_tookSo_0 : decode cX6_tookSo 0 = .ok (.iconst 1, 1) := by decide +kernel
theorem dX6_tookSo_1 : decode cX6_tookSo 1 = .ok (.istore_n 3, 1) := by decide +kernel
theorem dX6_tookSo_2 : decode cX6_tookSo 2 = .ok (.iconst 0, 1) := by decide +kernel
theorem dX6_tookSo_3 : decode cX6_tookSo 3 = .ok (.istore 4, 2) := by decide +kernel
theorem dX6_tookSo_5 : decode cX6_tookSo 5 = .ok (.iload 4, 2) := by decide +kernel
theorem dX6_tookSo_7 : decode cX6_tookSo 7 = .ok (.aload_n 0, 1) := by decide +kernel
theorem dX6_tookSo_8 : decode cX6_tookSo 8 = .ok (.getfield 7, 3) := by decide +kernel
theorem dX6_tookSo_11 : decode cX6_tookSo 11 = .ok (.iload_n 1, 1) := by decide +kernel
theorem dX6_tookSo_12 : decode cX6_tookSo 12 = .ok (.iaload, 1) := by decide +kernel
theorem dX6_tookSo_13 : decode cX6_tookSo 13 = .ok (.if_icmp .ge 53, 3) := by decide +kernel
theorem dX6_tookSo_16 : decode cX6_tookSo 16 = .ok (.iload_n 3, 1) := by decide +kernel
theorem dX6_tookSo_17 : decode cX6_tookSo 17 = .ok (.ifCond .eq 41, 3) := by decide +kernel
theorem dX6_tookSo_20 : decode cX6_tookSo 20 = .ok (.aload_n 0, 1) := by decide +kernel
theorem dX6_tookSo_21 : decode cX6_tookSo 21 = .ok (.iload_n 2, 1) := by decide +kernel
theorem dX6_tookSo_22 : decode cX6_tookSo 22 = .ok (.aload_n 0, 1) := by decide +kernel
theorem dX6_tookSo_23 : decode cX6_tookSo 23 = .ok (.getfield 13, 3) := by decide +kernel
theorem dX6_tookSo_26 : decode cX6_tookSo 26 = .ok (.bipush 40, 2) := by decide +kernel
theorem dX6_tookSo_28 : decode cX6_tookSo 28 = .ok (.iload_n 1, 1) := by decide +kernel
theorem dX6_tookSo_29 : decode cX6_tookSo 29 = .ok (.imul, 1) := by decide +kernel
theorem dX6_tookSo_30 : decode cX6_tookSo 30 = .ok (.iload 4, 2) := by decide +kernel
theorem dX6_tookSo_32 : decode cX6_tookSo 32 = .ok (.iadd, 1) := by decide +kernel
theorem dX6_tookSo_33 : decode cX6_tookSo 33 = .ok (.iaload, 1) := by decide +kernel
theorem dX6_tookSo_34 : decode cX6_tookSo 34 = .ok (.invokevirtual 218, 3) := by decide +kernel
theorem dX6_tookSo_37 : decode cX6_tookSo 37 = .ok (.aload_n 0, 1) := by decide +kernel
theorem dX6_tookSo_38 : decode cX6_tookSo 38 = .ok (.getfield 13, 3) := by decide +kernel
theorem dX6_tookSo_41 : decode cX6_tookSo 41 = .ok (.bipush 40, 2) := by decide +kernel
theorem dX6_tookSo_43 : decode cX6_tookSo 43 = .ok (.iload_n 1, 1) := by decide +kernel
theorem dX6_tookSo_44 : decode cX6_tookSo 44 = .ok (.imul, 1) := by decide +kernel
theorem dX6_tookSo_45 : decode cX6_tookSo 45 = .ok (.iload 4, 2) := by decide +kernel
theorem dX6_tookSo_47 : decode cX6_tookSo 47 = .ok (.iadd, 1) := by decide +kernel
theorem dX6_tookSo_48 : decode cX6_tookSo 48 = .ok (.iconst 1, 1) := by decide +kernel
theorem dX6_tookSo_49 : decode cX6_tookSo 49 = .ok (.iadd, 1) := by decide +kernel
theorem dX6_tookSo_50 : decode cX6_tookSo 50 = .ok (.iaload, 1) := by decide +kernel
theorem dX6_tookSo_51 : decode cX6_tookSo 51 = .ok (.if_icmp .ne 7, 3) := by decide +kernel
theorem dX6_tookSo_54 : decode cX6_tookSo 54 = .ok (.iconst 1, 1) := by decide +kernel
theorem dX6_tookSo_55 : decode cX6_tookSo 55 = .ok (.goto 4, 3) := by decide +kernel
theorem dX6_tookSo_58 : decode cX6_tookSo 58 = .ok (.iconst 0, 1) := by decide +kernel
theorem dX6_tookSo_59 : decode cX6_tookSo 59 = .ok (.istore_n 3, 1) := by decide +kernel
theorem dX6_tookSo_60 : decode cX6_tookSo 60 = .ok (.iinc 4 2, 3) := by decide +kernel
theorem dX6_tookSo_63 : decode cX6_tookSo 63 = .ok (.goto (-58), 3) := by decide +kernel
theorem dX6_tookSo_66 : decode cX6_tookSo 66 = .ok (.iload_n 3, 1) := by decide +kernel
theorem dX6_tookSo_67 : decode cX6_tookSo 67 = .ok (.ireturn, 1) := by decide +kernel
theorem dX6_kindsBy_0 : decode cX6_kindsBy 0 = .ok (.iconst 0, 1) := by decide +kernel
theorem dX6_kindsBy_1 : decode cX6_kindsBy 1 = .ok (.istore_n 2, 1) := by decide +kernel
theorem dX6_kindsBy_2 : decode cX6_kindsBy 2 = .ok (.iconst 0, 1) := by decide +kernel
theorem dX6_kindsBy_3 : decode cX6_kindsBy 3 = .ok (.istore_n 3, 1) := by decide +kernel
theorem dX6_kindsBy_4 : decode cX6_kindsBy 4 = .ok (.iload_n 3, 1) := by decide +kernel
theorem dX6_kindsBy_5 : decode cX6_kindsBy 5 = .ok (.bipush 6, 2) := by decide +kernel
theorem dX6_kindsBy_7 : decode cX6_kindsBy 7 = .ok (.if_icmp .ge 28, 3) := by decide +kernel
theorem dX6_kindsBy_10 : decode cX6_kindsBy 10 = .ok (.iload_n 2, 1) := by decide +kernel
theorem dX6_kindsBy_11 : decode cX6_kindsBy 11 = .ok (.aload_n 0, 1) := by decide +kernel
theorem dX6_kindsBy_12 : decode cX6_kindsBy 12 = .ok (.iload_n 1, 1) := by decide +kernel
theorem dX6_kindsBy_13 : decode cX6_kindsBy 13 = .ok (.iload_n 3, 1) := by decide +kernel
theorem dX6_kindsBy_14 : decode cX6_kindsBy 14 = .ok (.invokevirtual 221, 3) := by decide +kernel
theorem dX6_kindsBy_17 : decode cX6_kindsBy 17 = .ok (.ifCond .eq 9, 3) := by decide +kernel
theorem dX6_kindsBy_20 : decode cX6_kindsBy 20 = .ok (.iconst 1, 1) := by decide +kernel
theorem dX6_kindsBy_21 : decode cX6_kindsBy 21 = .ok (.iload_n 3, 1) := by decide +kernel
theorem dX6_kindsBy_22 : decode cX6_kindsBy 22 = .ok (.ishl, 1) := by decide +kernel
theorem dX6_kindsBy_23 : decode cX6_kindsBy 23 = .ok (.goto 4, 3) := by decide +kernel
theorem dX6_kindsBy_26 : decode cX6_kindsBy 26 = .ok (.iconst 0, 1) := by decide +kernel
theorem dX6_kindsBy_27 : decode cX6_kindsBy 27 = .ok (.ior, 1) := by decide +kernel
theorem dX6_kindsBy_28 : decode cX6_kindsBy 28 = .ok (.istore_n 2, 1) := by decide +kernel
theorem dX6_kindsBy_29 : decode cX6_kindsBy 29 = .ok (.iinc 3 1, 3) := by decide +kernel
theorem dX6_kindsBy_32 : decode cX6_kindsBy 32 = .ok (.goto (-28), 3) := by decide +kernel
theorem dX6_kindsBy_35 : decode cX6_kindsBy 35 = .ok (.iload_n 2, 1) := by decide +kernel
theorem dX6_kindsBy_36 : decode cX6_kindsBy 36 = .ok (.ireturn, 1) := by decide +kernel
theorem dX6_whose_0 : decode cX6_whose 0 = .ok (.iload_n 1, 1) := by decide +kernel
theorem dX6_whose_1 : decode cX6_whose 1 = .ok (.iconst 0, 1) := by decide +kernel
theorem dX6_whose_2 : decode cX6_whose 2 = .ok (.iconst 5, 1) := by decide +kernel
theorem dX6_whose_3 : decode cX6_whose 3 = .ok (.invokestatic 69, 3) := by decide +kernel
theorem dX6_whose_6 : decode cX6_whose 6 = .ok (.ifCond .ne 5, 3) := by decide +kernel
theorem dX6_whose_9 : decode cX6_whose 9 = .ok (.iconst (-1), 1) := by decide +kernel
theorem dX6_whose_10 : decode cX6_whose 10 = .ok (.ireturn, 1) := by decide +kernel
theorem dX6_whose_11 : decode cX6_whose 11 = .ok (.aload_n 0, 1) := by decide +kernel
theorem dX6_whose_12 : decode cX6_whose 12 = .ok (.iload_n 1, 1) := by decide +kernel
theorem dX6_whose_13 : decode cX6_whose 13 = .ok (.invokevirtual 224, 3) := by decide +kernel
theorem dX6_whose_16 : decode cX6_whose 16 = .ok (.ifCond .eq 6, 3) := by decide +kernel
theorem dX6_whose_19 : decode cX6_whose 19 = .ok (.bipush (-3), 2) := by decide +kernel
theorem dX6_whose_21 : decode cX6_whose 21 = .ok (.ireturn, 1) := by decide +kernel
theorem dX6_whose_22 : decode cX6_whose 22 = .ok (.iconst 0, 1) := by decide +kernel
theorem dX6_whose_23 : decode cX6_whose 23 = .ok (.istore_n 2, 1) := by decide +kernel
theorem dX6_whose_24 : decode cX6_whose 24 = .ok (.iconst 0, 1) := by decide +kernel
theorem dX6_whose_25 : decode cX6_whose 25 = .ok (.istore_n 3, 1) := by decide +kernel
theorem dX6_whose_26 : decode cX6_whose 26 = .ok (.iload_n 3, 1) := by decide +kernel
theorem dX6_whose_27 : decode cX6_whose 27 = .ok (.aload_n 0, 1) := by decide +kernel
theorem dX6_whose_28 : decode cX6_whose 28 = .ok (.getfield 66, 3) := by decide +kernel
theorem dX6_whose_31 : decode cX6_whose 31 = .ok (.if_icmp .ge 33, 3) := by decide +kernel
theorem dX6_whose_34 : decode cX6_whose 34 = .ok (.iload_n 2, 1) := by decide +kernel
theorem dX6_whose_35 : decode cX6_whose 35 = .ok (.aload_n 0, 1) := by decide +kernel
theorem dX6_whose_36 : decode cX6_whose 36 = .ok (.iload_n 1, 1) := by decide +kernel
theorem dX6_whose_37 : decode cX6_whose 37 = .ok (.aload_n 0, 1) := by decide +kernel
theorem dX6_whose_38 : decode cX6_whose 38 = .ok (.getfield 32, 3) := by decide +kernel
theorem dX6_whose_41 : decode cX6_whose 41 = .ok (.iload_n 3, 1) := by decide +kernel
theorem dX6_whose_42 : decode cX6_whose 42 = .ok (.iaload, 1) := by decide +kernel
theorem dX6_whose_43 : decode cX6_whose 43 = .ok (.invokevirtual 221, 3) := by decide +kernel
theorem dX6_whose_46 : decode cX6_whose 46 = .ok (.ifCond .eq 9, 3) := by decide +kernel
theorem dX6_whose_49 : decode cX6_whose 49 = .ok (.iconst 1, 1) := by decide +kernel
theorem dX6_whose_50 : decode cX6_whose 50 = .ok (.iload_n 3, 1) := by decide +kernel
theorem dX6_whose_51 : decode cX6_whose 51 = .ok (.ishl, 1) := by decide +kernel
theorem dX6_whose_52 : decode cX6_whose 52 = .ok (.goto 4, 3) := by decide +kernel
theorem dX6_whose_55 : decode cX6_whose 55 = .ok (.iconst 0, 1) := by decide +kernel
theorem dX6_whose_56 : decode cX6_whose 56 = .ok (.ior, 1) := by decide +kernel
theorem dX6_whose_57 : decode cX6_whose 57 = .ok (.istore_n 2, 1) := by decide +kernel
theorem dX6_whose_58 : decode cX6_whose 58 = .ok (.iinc 3 1, 3) := by decide +kernel
theorem dX6_whose_61 : decode cX6_whose 61 = .ok (.goto (-35), 3) := by decide +kernel
theorem dX6_whose_64 : decode cX6_whose 64 = .ok (.iload_n 2, 1) := by decide +kernel
theorem dX6_whose_65 : decode cX6_whose 65 = .ok (.ireturn, 1) := by decide +kernel
theorem dX6_kinds_0 : decode cX6_kinds 0 = .ok (.iload_n 1, 1) := by decide +kernel
theorem dX6_kinds_1 : decode cX6_kinds 1 = .ok (.iconst 0, 1) := by decide +kernel
theorem dX6_kinds_2 : decode cX6_kinds 2 = .ok (.iconst 5, 1) := by decide +kernel
theorem dX6_kinds_3 : decode cX6_kinds 3 = .ok (.invokestatic 69, 3) := by decide +kernel
theorem dX6_kinds_6 : decode cX6_kinds 6 = .ok (.ifCond .ne 5, 3) := by decide +kernel
theorem dX6_kinds_9 : decode cX6_kinds 9 = .ok (.iconst (-1), 1) := by decide +kernel
theorem dX6_kinds_10 : decode cX6_kinds 10 = .ok (.ireturn, 1) := by decide +kernel
theorem dX6_kinds_11 : decode cX6_kinds 11 = .ok (.aload_n 0, 1) := by decide +kernel
theorem dX6_kinds_12 : decode cX6_kinds 12 = .ok (.iload_n 1, 1) := by decide +kernel
theorem dX6_kinds_13 : decode cX6_kinds 13 = .ok (.invokevirtual 224, 3) := by decide +kernel
theorem dX6_kinds_16 : decode cX6_kinds 16 = .ok (.ifCond .eq 8, 3) := by decide +kernel
theorem dX6_kinds_19 : decode cX6_kinds 19 = .ok (.bipush (-3), 2) := by decide +kernel
theorem dX6_kinds_21 : decode cX6_kinds 21 = .ok (.goto 8, 3) := by decide +kernel
theorem dX6_kinds_24 : decode cX6_kinds 24 = .ok (.aload_n 0, 1) := by decide +kernel
theorem dX6_kinds_25 : decode cX6_kinds 25 = .ok (.iload_n 1, 1) := by decide +kernel
theorem dX6_kinds_26 : decode cX6_kinds 26 = .ok (.invokevirtual 227, 3) := by decide +kernel
theorem dX6_kinds_29 : decode cX6_kinds 29 = .ok (.ireturn, 1) := by decide +kernel
theorem dX6_test_0 : decode cX6_test 0 = .ok (.iload_n 1, 1) := by decide +kernel
theorem dX6_test_1 : decode cX6_test 1 = .ok (.iconst 0, 1) := by decide +kernel
theorem dX6_test_2 : decode cX6_test 2 = .ok (.iconst 5, 1) := by decide +kernel
theorem dX6_test_3 : decode cX6_test 3 = .ok (.invokestatic 69, 3) := by decide +kernel
theorem dX6_test_6 : decode cX6_test 6 = .ok (.ifCond .ne 5, 3) := by decide +kernel
theorem dX6_test_9 : decode cX6_test 9 = .ok (.iconst (-1), 1) := by decide +kernel
theorem dX6_test_10 : decode cX6_test 10 = .ok (.ireturn, 1) := by decide +kernel
theorem dX6_test_11 : decode cX6_test 11 = .ok (.aload_n 0, 1) := by decide +kernel
theorem dX6_test_12 : decode cX6_test 12 = .ok (.iload_n 1, 1) := by decide +kernel
theorem dX6_test_13 : decode cX6_test 13 = .ok (.invokevirtual 224, 3) := by decide +kernel
theorem dX6_test_16 : decode cX6_test 16 = .ok (.ifCond .eq 6, 3) := by decide +kernel
theorem dX6_test_19 : decode cX6_test 19 = .ok (.bipush (-3), 2) := by decide +kernel
theorem dX6_test_21 : decode cX6_test 21 = .ok (.ireturn, 1) := by decide +kernel
theorem dX6_test_22 : decode cX6_test 22 = .ok (.aload_n 0, 1) := by decide +kernel
theorem dX6_test_23 : decode cX6_test 23 = .ok (.iload_n 1, 1) := by decide +kernel
theorem dX6_test_24 : decode cX6_test 24 = .ok (.invokevirtual 227, 3) := by decide +kernel
theorem dX6_test_27 : decode cX6_test 27 = .ok (.istore_n 2, 1) := by decide +kernel
theorem dX6_test_28 : decode cX6_test 28 = .ok (.iload_n 2, 1) := by decide +kernel
theorem dX6_test_29 : decode cX6_test 29 = .ok (.ifCond .ne 6, 3) := by decide +kernel
theorem dX6_test_32 : decode cX6_test 32 = .ok (.bipush (-9), 2) := by decide +kernel
theorem dX6_test_34 : decode cX6_test 34 = .ok (.ireturn, 1) := by decide +kernel
theorem dX6_test_35 : decode cX6_test 35 = .ok (.bipush (-9), 2) := by decide +kernel
theorem dX6_test_37 : decode cX6_test 37 = .ok (.istore_n 3, 1) := by decide +kernel
theorem dX6_test_38 : decode cX6_test 38 = .ok (.iconst 0, 1) := by decide +kernel
theorem dX6_test_39 : decode cX6_test 39 = .ok (.istore 4, 2) := by decide +kernel
theorem dX6_test_41 : decode cX6_test 41 = .ok (.iconst 0, 1) := by decide +kernel
theorem dX6_test_42 : decode cX6_test 42 = .ok (.istore 5, 2) := by decide +kernel
theorem dX6_test_44 : decode cX6_test 44 = .ok (.iload 5, 2) := by decide +kernel
theorem dX6_test_46 : decode cX6_test 46 = .ok (.bipush 100, 2) := by decide +kernel
theorem dX6_test_48 : decode cX6_test 48 = .ok (.if_icmp .ge 156, 3) := by decide +kernel
theorem dX6_test_51 : decode cX6_test 51 = .ok (.iconst 0, 1) := by decide +kernel
theorem dX6_test_52 : decode cX6_test 52 = .ok (.istore 6, 2) := by decide +kernel
theorem dX6_test_54 : decode cX6_test 54 = .ok (.iconst 0, 1) := by decide +kernel
theorem dX6_test_55 : decode cX6_test 55 = .ok (.istore 7, 2) := by decide +kernel
theorem dX6_test_57 : decode cX6_test 57 = .ok (.iload 7, 2) := by decide +kernel
theorem dX6_test_59 : decode cX6_test 59 = .ok (.bipush 6, 2) := by decide +kernel
theorem dX6_test_61 : decode cX6_test 61 = .ok (.if_icmp .ge 91, 3) := by decide +kernel
theorem dX6_test_64 : decode cX6_test 64 = .ok (.iconst 0, 1) := by decide +kernel
theorem dX6_test_65 : decode cX6_test 65 = .ok (.istore 8, 2) := by decide +kernel
theorem dX6_test_67 : decode cX6_test 67 = .ok (.iconst 0, 1) := by decide +kernel
theorem dX6_test_68 : decode cX6_test 68 = .ok (.istore 9, 2) := by decide +kernel
theorem dX6_test_70 : decode cX6_test 70 = .ok (.iload 9, 2) := by decide +kernel
theorem dX6_test_72 : decode cX6_test 72 = .ok (.bipush 6, 2) := by decide +kernel
theorem dX6_test_74 : decode cX6_test 74 = .ok (.if_icmp .ge 56, 3) := by decide +kernel
theorem dX6_test_77 : decode cX6_test 77 = .ok (.iload 8, 2) := by decide +kernel
theorem dX6_test_79 : decode cX6_test 79 = .ok (.iload_n 2, 1) := by decide +kernel
theorem dX6_test_80 : decode cX6_test 80 = .ok (.iload 7, 2) := by decide +kernel
theorem dX6_test_82 : decode cX6_test 82 = .ok (.invokestatic 199, 3) := by decide +kernel
theorem dX6_test_85 : decode cX6_test 85 = .ok (.ifCond .eq 35, 3) := by decide +kernel
theorem dX6_test_88 : decode cX6_test 88 = .ok (.iload_n 2, 1) := by decide +kernel
theorem dX6_test_89 : decode cX6_test 89 = .ok (.iload 9, 2) := by decide +kernel
theorem dX6_test_91 : decode cX6_test 91 = .ok (.invokestatic 199, 3) := by decide +kernel
theorem dX6_test_94 : decode cX6_test 94 = .ok (.ifCond .eq 26, 3) := by decide +kernel
theorem dX6_test_97 : decode cX6_test 97 = .ok (.aload_n 0, 1) := by decide +kernel
theorem dX6_test_98 : decode cX6_test 98 = .ok (.iload 7, 2) := by decide +kernel
theorem dX6_test_100 : decode cX6_test 100 = .ok (.iload 5, 2) := by decide +kernel
theorem dX6_test_102 : decode cX6_test 102 = .ok (.invokevirtual 218, 3) := by decide +kernel
theorem dX6_test_105 : decode cX6_test 105 = .ok (.aload_n 0, 1) := by decide +kernel
theorem dX6_test_106 : decode cX6_test 106 = .ok (.iload 9, 2) := by decide +kernel
theorem dX6_test_108 : decode cX6_test 108 = .ok (.iload 5, 2) := by decide +kernel
theorem dX6_test_110 : decode cX6_test 110 = .ok (.invokevirtual 218, 3) := by decide +kernel
theorem dX6_test_113 : decode cX6_test 113 = .ok (.if_icmp .ne 7, 3) := by decide +kernel
theorem dX6_test_116 : decode cX6_test 116 = .ok (.iconst 1, 1) := by decide +kernel
theorem dX6_test_117 : decode cX6_test 117 = .ok (.goto 4, 3) := by decide +kernel
theorem dX6_test_120 : decode cX6_test 120 = .ok (.iconst 0, 1) := by decide +kernel
theorem dX6_test_121 : decode cX6_test 121 = .ok (.iadd, 1) := by decide +kernel
theorem dX6_test_122 : decode cX6_test 122 = .ok (.istore 8, 2) := by decide +kernel
theorem dX6_test_124 : decode cX6_test 124 = .ok (.iinc 9 1, 3) := by decide +kernel
theorem dX6_test_127 : decode cX6_test 127 = .ok (.goto (-57), 3) := by decide +kernel
theorem dX6_test_130 : decode cX6_test 130 = .ok (.iload 8, 2) := by decide +kernel
theorem dX6_test_132 : decode cX6_test 132 = .ok (.iload 6, 2) := by decide +kernel
theorem dX6_test_134 : decode cX6_test 134 = .ok (.if_icmp .le 8, 3) := by decide +kernel
theorem dX6_test_137 : decode cX6_test 137 = .ok (.iload 8, 2) := by decide +kernel
theorem dX6_test_139 : decode cX6_test 139 = .ok (.goto 5, 3) := by decide +kernel
theorem dX6_test_142 : decode cX6_test 142 = .ok (.iload 6, 2) := by decide +kernel
theorem dX6_test_144 : decode cX6_test 144 = .ok (.istore 6, 2) := by decide +kernel
theorem dX6_test_146 : decode cX6_test 146 = .ok (.iinc 7 1, 3) := by decide +kernel
theorem dX6_test_149 : decode cX6_test 149 = .ok (.goto (-92), 3) := by decide +kernel
theorem dX6_test_152 : decode cX6_test 152 = .ok (.iload_n 3, 1) := by decide +kernel
theorem dX6_test_153 : decode cX6_test 153 = .ok (.bipush (-9), 2) := by decide +kernel
theorem dX6_test_155 : decode cX6_test 155 = .ok (.if_icmp .eq 10, 3) := by decide +kernel
theorem dX6_test_158 : decode cX6_test 158 = .ok (.iload 6, 2) := by decide +kernel
theorem dX6_test_160 : decode cX6_test 160 = .ok (.iload 4, 2) := by decide +kernel
theorem dX6_test_162 : decode cX6_test 162 = .ok (.if_icmp .ge 7, 3) := by decide +kernel
theorem dX6_test_165 : decode cX6_test 165 = .ok (.iconst 1, 1) := by decide +kernel
theorem dX6_test_166 : decode cX6_test 166 = .ok (.goto 4, 3) := by decide +kernel
theorem dX6_test_169 : decode cX6_test 169 = .ok (.iconst 0, 1) := by decide +kernel
theorem dX6_test_170 : decode cX6_test 170 = .ok (.istore 7, 2) := by decide +kernel
theorem dX6_test_172 : decode cX6_test 172 = .ok (.iload 7, 2) := by decide +kernel
theorem dX6_test_174 : decode cX6_test 174 = .ok (.ifCond .eq 8, 3) := by decide +kernel
theorem dX6_test_177 : decode cX6_test 177 = .ok (.iload 5, 2) := by decide +kernel
theorem dX6_test_179 : decode cX6_test 179 = .ok (.goto 4, 3) := by decide +kernel
theorem dX6_test_182 : decode cX6_test 182 = .ok (.iload_n 3, 1) := by decide +kernel
theorem dX6_test_183 : decode cX6_test 183 = .ok (.istore_n 3, 1) := by decide +kernel
theorem dX6_test_184 : decode cX6_test 184 = .ok (.iload 7, 2) := by decide +kernel
theorem dX6_test_186 : decode cX6_test 186 = .ok (.ifCond .eq 8, 3) := by decide +kernel
theorem dX6_test_189 : decode cX6_test 189 = .ok (.iload 6, 2) := by decide +kernel
theorem dX6_test_191 : decode cX6_test 191 = .ok (.goto 5, 3) := by decide +kernel
theorem dX6_test_194 : decode cX6_test 194 = .ok (.iload 4, 2) := by decide +kernel
theorem dX6_test_196 : decode cX6_test 196 = .ok (.istore 4, 2) := by decide +kernel
theorem dX6_test_198 : decode cX6_test 198 = .ok (.iinc 5 1, 3) := by decide +kernel
theorem dX6_test_201 : decode cX6_test 201 = .ok (.goto (-157), 3) := by decide +kernel
theorem dX6_test_204 : decode cX6_test 204 = .ok (.aload_n 0, 1) := by decide +kernel
theorem dX6_test_205 : decode cX6_test 205 = .ok (.iload 4, 2) := by decide +kernel
theorem dX6_test_207 : decode cX6_test 207 = .ok (.invokevirtual 81, 3) := by decide +kernel
theorem dX6_test_210 : decode cX6_test 210 = .ok (.pop, 1) := by decide +kernel
theorem dX6_test_211 : decode cX6_test 211 = .ok (.iload_n 3, 1) := by decide +kernel
theorem dX6_test_212 : decode cX6_test 212 = .ok (.ireturn, 1) := by decide +kernel
theorem dX6_pay_0 : decode cX6_pay 0 = .ok (.iconst 0, 1) := by decide +kernel
theorem dX6_pay_1 : decode cX6_pay 1 = .ok (.istore_n 3, 1) := by decide +kernel
theorem dX6_pay_2 : decode cX6_pay 2 = .ok (.iconst 0, 1) := by decide +kernel
theorem dX6_pay_3 : decode cX6_pay 3 = .ok (.istore 4, 2) := by decide +kernel
theorem dX6_pay_5 : decode cX6_pay 5 = .ok (.iload 4, 2) := by decide +kernel
theorem dX6_pay_7 : decode cX6_pay 7 = .ok (.aload_n 0, 1) := by decide +kernel
theorem dX6_pay_8 : decode cX6_pay 8 = .ok (.getfield 66, 3) := by decide +kernel
theorem dX6_pay_11 : decode cX6_pay 11 = .ok (.if_icmp .ge 35, 3) := by decide +kernel
theorem dX6_pay_14 : decode cX6_pay 14 = .ok (.iload_n 3, 1) := by decide +kernel
theorem dX6_pay_15 : decode cX6_pay 15 = .ok (.iload_n 1, 1) := by decide +kernel
theorem dX6_pay_16 : decode cX6_pay 16 = .ok (.iload 4, 2) := by decide +kernel
theorem dX6_pay_18 : decode cX6_pay 18 = .ok (.invokestatic 199, 3) := by decide +kernel
theorem dX6_pay_21 : decode cX6_pay 21 = .ok (.ifCond .eq 16, 3) := by decide +kernel
theorem dX6_pay_24 : decode cX6_pay 24 = .ok (.aload_n 0, 1) := by decide +kernel
theorem dX6_pay_25 : decode cX6_pay 25 = .ok (.getfield 32, 3) := by decide +kernel
theorem dX6_pay_28 : decode cX6_pay 28 = .ok (.iload 4, 2) := by decide +kernel
theorem dX6_pay_30 : decode cX6_pay 30 = .ok (.iaload, 1) := by decide +kernel
theorem dX6_pay_31 : decode cX6_pay 31 = .ok (.invokestatic 160, 3) := by decide +kernel
theorem dX6_pay_34 : decode cX6_pay 34 = .ok (.goto 4, 3) := by decide +kernel
theorem dX6_pay_37 : decode cX6_pay 37 = .ok (.iconst 0, 1) := by decide +kernel
theorem dX6_pay_38 : decode cX6_pay 38 = .ok (.iadd, 1) := by decide +kernel
theorem dX6_pay_39 : decode cX6_pay 39 = .ok (.istore_n 3, 1) := by decide +kernel
theorem dX6_pay_40 : decode cX6_pay 40 = .ok (.iinc 4 1, 3) := by decide +kernel
theorem dX6_pay_43 : decode cX6_pay 43 = .ok (.goto (-38), 3) := by decide +kernel
theorem dX6_pay_46 : decode cX6_pay 46 = .ok (.iload_n 3, 1) := by decide +kernel
theorem dX6_pay_47 : decode cX6_pay 47 = .ok (.iload_n 2, 1) := by decide +kernel
theorem dX6_pay_48 : decode cX6_pay 48 = .ok (.if_icmp .ne 7, 3) := by decide +kernel
theorem dX6_pay_51 : decode cX6_pay 51 = .ok (.iconst 1, 1) := by decide +kernel
theorem dX6_pay_52 : decode cX6_pay 52 = .ok (.goto 4, 3) := by decide +kernel
theorem dX6_pay_55 : decode cX6_pay 55 = .ok (.iconst 0, 1) := by decide +kernel
theorem dX6_pay_56 : decode cX6_pay 56 = .ok (.ireturn, 1) := by decide +kernel
theorem dX6_sets_0 : decode cX6_sets 0 = .ok (.iload_n 1, 1) := by decide +kernel
theorem dX6_sets_1 : decode cX6_sets 1 = .ok (.iconst 0, 1) := by decide +kernel
theorem dX6_sets_2 : decode cX6_sets 2 = .ok (.bipush 99, 2) := by decide +kernel
theorem dX6_sets_4 : decode cX6_sets 4 = .ok (.invokestatic 69, 3) := by decide +kernel
theorem dX6_sets_7 : decode cX6_sets 7 = .ok (.ifCond .ne 5, 3) := by decide +kernel
theorem dX6_sets_10 : decode cX6_sets 10 = .ok (.iconst (-1), 1) := by decide +kernel
theorem dX6_sets_11 : decode cX6_sets 11 = .ok (.ireturn, 1) := by decide +kernel
theorem dX6_sets_12 : decode cX6_sets 12 = .ok (.aload_n 0, 1) := by decide +kernel
theorem dX6_sets_13 : decode cX6_sets 13 = .ok (.getfield 66, 3) := by decide +kernel
theorem dX6_sets_16 : decode cX6_sets 16 = .ok (.ifCond .ne 6, 3) := by decide +kernel
theorem dX6_sets_19 : decode cX6_sets 19 = .ok (.bipush (-4), 2) := by decide +kernel
theorem dX6_sets_21 : decode cX6_sets 21 = .ok (.ireturn, 1) := by decide +kernel
theorem dX6_sets_22 : decode cX6_sets 22 = .ok (.iconst 0, 1) := by decide +kernel
theorem dX6_sets_23 : decode cX6_sets 23 = .ok (.istore_n 2, 1) := by decide +kernel
theorem dX6_sets_24 : decode cX6_sets 24 = .ok (.bipush (-9), 2) := by decide +kernel
theorem dX6_sets_26 : decode cX6_sets 26 = .ok (.istore_n 3, 1) := by decide +kernel
theorem dX6_sets_27 : decode cX6_sets 27 = .ok (.iconst 1, 1) := by decide +kernel
theorem dX6_sets_28 : decode cX6_sets 28 = .ok (.aload_n 0, 1) := by decide +kernel
theorem dX6_sets_29 : decode cX6_sets 29 = .ok (.getfield 66, 3) := by decide +kernel
theorem dX6_sets_32 : decode cX6_sets 32 = .ok (.ishl, 1) := by decide +kernel
theorem dX6_sets_33 : decode cX6_sets 33 = .ok (.iconst 1, 1) := by decide +kernel
theorem dX6_sets_34 : decode cX6_sets 34 = .ok (.isub, 1) := by decide +kernel
theorem dX6_sets_35 : decode cX6_sets 35 = .ok (.istore 4, 2) := by decide +kernel
theorem dX6_sets_37 : decode cX6_sets 37 = .ok (.iload 4, 2) := by decide +kernel
theorem dX6_sets_39 : decode cX6_sets 39 = .ok (.ifCond .lt 44, 3) := by decide +kernel
theorem dX6_sets_42 : decode cX6_sets 42 = .ok (.iload_n 2, 1) := by decide +kernel
theorem dX6_sets_43 : decode cX6_sets 43 = .ok (.aload_n 0, 1) := by decide +kernel
theorem dX6_sets_44 : decode cX6_sets 44 = .ok (.iload 4, 2) := by decide +kernel
theorem dX6_sets_46 : decode cX6_sets 46 = .ok (.iload_n 1, 1) := by decide +kernel
theorem dX6_sets_47 : decode cX6_sets 47 = .ok (.invokevirtual 230, 3) := by decide +kernel
theorem dX6_sets_50 : decode cX6_sets 50 = .ok (.ifCond .eq 7, 3) := by decide +kernel
theorem dX6_sets_53 : decode cX6_sets 53 = .ok (.iconst 1, 1) := by decide +kernel
theorem dX6_sets_54 : decode cX6_sets 54 = .ok (.goto 4, 3) := by decide +kernel
theorem dX6_sets_57 : decode cX6_sets 57 = .ok (.iconst 0, 1) := by decide +kernel
theorem dX6_sets_58 : decode cX6_sets 58 = .ok (.iadd, 1) := by decide +kernel
theorem dX6_sets_59 : decode cX6_sets 59 = .ok (.istore_n 2, 1) := by decide +kernel
theorem dX6_sets_60 : decode cX6_sets 60 = .ok (.aload_n 0, 1) := by decide +kernel
theorem dX6_sets_61 : decode cX6_sets 61 = .ok (.iload 4, 2) := by decide +kernel
theorem dX6_sets_63 : decode cX6_sets 63 = .ok (.iload_n 1, 1) := by decide +kernel
theorem dX6_sets_64 : decode cX6_sets 64 = .ok (.invokevirtual 230, 3) := by decide +kernel
theorem dX6_sets_67 : decode cX6_sets 67 = .ok (.ifCond .eq 8, 3) := by decide +kernel
theorem dX6_sets_70 : decode cX6_sets 70 = .ok (.iload 4, 2) := by decide +kernel
theorem dX6_sets_72 : decode cX6_sets 72 = .ok (.goto 4, 3) := by decide +kernel
theorem dX6_sets_75 : decode cX6_sets 75 = .ok (.iload_n 3, 1) := by decide +kernel
theorem dX6_sets_76 : decode cX6_sets 76 = .ok (.istore_n 3, 1) := by decide +kernel
theorem dX6_sets_77 : decode cX6_sets 77 = .ok (.iinc 4 (-1), 3) := by decide +kernel
theorem dX6_sets_80 : decode cX6_sets 80 = .ok (.goto (-43), 3) := by decide +kernel
theorem dX6_sets_83 : decode cX6_sets 83 = .ok (.aload_n 0, 1) := by decide +kernel
theorem dX6_sets_84 : decode cX6_sets 84 = .ok (.iload_n 2, 1) := by decide +kernel
theorem dX6_sets_85 : decode cX6_sets 85 = .ok (.i2l, 1) := by decide +kernel
theorem dX6_sets_86 : decode cX6_sets 86 = .ok (.putfield 233, 3) := by decide +kernel
theorem dX6_sets_89 : decode cX6_sets 89 = .ok (.aload_n 0, 1) := by decide +kernel
theorem dX6_sets_90 : decode cX6_sets 90 = .ok (.lconst 1, 1) := by decide +kernel
theorem dX6_sets_91 : decode cX6_sets 91 = .ok (.putfield 25, 3) := by decide +kernel
theorem dX6_sets_94 : decode cX6_sets 94 = .ok (.aload_n 0, 1) := by decide +kernel
theorem dX6_sets_95 : decode cX6_sets 95 = .ok (.iload_n 3, 1) := by decide +kernel
theorem dX6_sets_96 : decode cX6_sets 96 = .ok (.invokevirtual 81, 3) := by decide +kernel
theorem dX6_sets_99 : decode cX6_sets 99 = .ok (.ireturn, 1) := by decide +kernel
theorem dX6_sure_0 : decode cX6_sure 0 = .ok (.iload_n 1, 1) := by decide +kernel
theorem dX6_sure_1 : decode cX6_sure 1 = .ok (.iconst 0, 1) := by decide +kernel
theorem dX6_sure_2 : decode cX6_sure 2 = .ok (.bipush 99, 2) := by decide +kernel
theorem dX6_sure_4 : decode cX6_sure 4 = .ok (.invokestatic 69, 3) := by decide +kernel
theorem dX6_sure_7 : decode cX6_sure 7 = .ok (.ifCond .ne 5, 3) := by decide +kernel
theorem dX6_sure_10 : decode cX6_sure 10 = .ok (.iconst (-1), 1) := by decide +kernel
theorem dX6_sure_11 : decode cX6_sure 11 = .ok (.ireturn, 1) := by decide +kernel
theorem dX6_sure_12 : decode cX6_sure 12 = .ok (.aload_n 0, 1) := by decide +kernel
theorem dX6_sure_13 : decode cX6_sure 13 = .ok (.getfield 66, 3) := by decide +kernel
theorem dX6_sure_16 : decode cX6_sure 16 = .ok (.ifCond .ne 6, 3) := by decide +kernel
theorem dX6_sure_19 : decode cX6_sure 19 = .ok (.bipush (-4), 2) := by decide +kernel
theorem dX6_sure_21 : decode cX6_sure 21 = .ok (.ireturn, 1) := by decide +kernel
theorem dX6_sure_22 : decode cX6_sure 22 = .ok (.iconst 1, 1) := by decide +kernel
theorem dX6_sure_23 : decode cX6_sure 23 = .ok (.aload_n 0, 1) := by decide +kernel
theorem dX6_sure_24 : decode cX6_sure 24 = .ok (.getfield 66, 3) := by decide +kernel
theorem dX6_sure_27 : decode cX6_sure 27 = .ok (.ishl, 1) := by decide +kernel
theorem dX6_sure_28 : decode cX6_sure 28 = .ok (.iconst 1, 1) := by decide +kernel
theorem dX6_sure_29 : decode cX6_sure 29 = .ok (.isub, 1) := by decide +kernel
theorem dX6_sure_30 : decode cX6_sure 30 = .ok (.istore_n 2, 1) := by decide +kernel
theorem dX6_sure_31 : decode cX6_sure 31 = .ok (.iconst 0, 1) := by decide +kernel
theorem dX6_sure_32 : decode cX6_sure 32 = .ok (.istore_n 3, 1) := by decide +kernel
theorem dX6_sure_33 : decode cX6_sure 33 = .ok (.iconst 0, 1) := by decide +kernel
theorem dX6_sure_34 : decode cX6_sure 34 = .ok (.istore 4, 2) := by decide +kernel
theorem dX6_sure_36 : decode cX6_sure 36 = .ok (.iconst 0, 1) := by decide +kernel
theorem dX6_sure_37 : decode cX6_sure 37 = .ok (.istore 5, 2) := by decide +kernel
theorem dX6_sure_39 : decode cX6_sure 39 = .ok (.iload 5, 2) := by decide +kernel
theorem dX6_sure_41 : decode cX6_sure 41 = .ok (.iconst 1, 1) := by decide +kernel
theorem dX6_sure_42 : decode cX6_sure 42 = .ok (.aload_n 0, 1) := by decide +kernel
theorem dX6_sure_43 : decode cX6_sure 43 = .ok (.getfield 66, 3) := by decide +kernel
theorem dX6_sure_46 : decode cX6_sure 46 = .ok (.ishl, 1) := by decide +kernel
theorem dX6_sure_47 : decode cX6_sure 47 = .ok (.if_icmp .ge 32, 3) := by decide +kernel
theorem dX6_sure_50 : decode cX6_sure 50 = .ok (.aload_n 0, 1) := by decide +kernel
theorem dX6_sure_51 : decode cX6_sure 51 = .ok (.iload 5, 2) := by decide +kernel
theorem dX6_sure_53 : decode cX6_sure 53 = .ok (.iload_n 1, 1) := by decide +kernel
theorem dX6_sure_54 : decode cX6_sure 54 = .ok (.invokevirtual 230, 3) := by decide +kernel
theorem dX6_sure_57 : decode cX6_sure 57 = .ok (.ifCond .eq 16, 3) := by decide +kernel
theorem dX6_sure_60 : decode cX6_sure 60 = .ok (.iload_n 2, 1) := by decide +kernel
theorem dX6_sure_61 : decode cX6_sure 61 = .ok (.iload 5, 2) := by decide +kernel
theorem dX6_sure_63 : decode cX6_sure 63 = .ok (.iand, 1) := by decide +kernel
theorem dX6_sure_64 : decode cX6_sure 64 = .ok (.istore_n 2, 1) := by decide +kernel
theorem dX6_sure_65 : decode cX6_sure 65 = .ok (.iload_n 3, 1) := by decide +kernel
theorem dX6_sure_66 : decode cX6_sure 66 = .ok (.iload 5, 2) := by decide +kernel
theorem dX6_sure_68 : decode cX6_sure 68 = .ok (.ior, 1) := by decide +kernel
theorem dX6_sure_69 : decode cX6_sure 69 = .ok (.istore_n 3, 1) := by decide +kernel
theorem dX6_sure_70 : decode cX6_sure 70 = .ok (.iinc 4 1, 3) := by decide +kernel
theorem dX6_sure_73 : decode cX6_sure 73 = .ok (.iinc 5 1, 3) := by decide +kernel
theorem dX6_sure_76 : decode cX6_sure 76 = .ok (.goto (-37), 3) := by decide +kernel
theorem dX6_sure_79 : decode cX6_sure 79 = .ok (.iload 4, 2) := by decide +kernel
theorem dX6_sure_81 : decode cX6_sure 81 = .ok (.ifCond .ne 9, 3) := by decide +kernel
theorem dX6_sure_84 : decode cX6_sure 84 = .ok (.aload_n 0, 1) := by decide +kernel
theorem dX6_sure_85 : decode cX6_sure 85 = .ok (.iconst 4, 1) := by decide +kernel
theorem dX6_sure_86 : decode cX6_sure 86 = .ok (.invokevirtual 73, 3) := by decide +kernel
theorem dX6_sure_89 : decode cX6_sure 89 = .ok (.ireturn, 1) := by decide +kernel
theorem dX6_sure_90 : decode cX6_sure 90 = .ok (.aload_n 0, 1) := by decide +kernel
theorem dX6_sure_91 : decode cX6_sure 91 = .ok (.iconst 1, 1) := by decide +kernel
theorem dX6_sure_92 : decode cX6_sure 92 = .ok (.aload_n 0, 1) := by decide +kernel
theorem dX6_sure_93 : decode cX6_sure 93 = .ok (.getfield 66, 3) := by decide +kernel
theorem dX6_sure_96 : decode cX6_sure 96 = .ok (.ishl, 1) := by decide +kernel
theorem dX6_sure_97 : decode cX6_sure 97 = .ok (.iconst 1, 1) := by decide +kernel
theorem dX6_sure_98 : decode cX6_sure 98 = .ok (.isub, 1) := by decide +kernel
theorem dX6_sure_99 : decode cX6_sure 99 = .ok (.iload_n 3, 1) := by decide +kernel
theorem dX6_sure_100 : decode cX6_sure 100 = .ok (.iconst (-1), 1) := by decide +kernel
theorem dX6_sure_101 : decode cX6_sure 101 = .ok (.ixor, 1) := by decide +kernel
theorem dX6_sure_102 : decode cX6_sure 102 = .ok (.iand, 1) := by decide +kernel
theorem dX6_sure_103 : decode cX6_sure 103 = .ok (.invokevirtual 81, 3) := by decide +kernel
theorem dX6_sure_106 : decode cX6_sure 106 = .ok (.pop, 1) := by decide +kernel
theorem dX6_sure_107 : decode cX6_sure 107 = .ok (.iload_n 2, 1) := by decide +kernel
theorem dX6_sure_108 : decode cX6_sure 108 = .ok (.ireturn, 1) := by decide +kernel
theorem dX6_ownBy_0 : decode cX6_ownBy 0 = .ok (.iconst 0, 1) := by decide +kernel
theorem dX6_ownBy_1 : decode cX6_ownBy 1 = .ok (.istore_n 3, 1) := by decide +kernel
theorem dX6_ownBy_2 : decode cX6_ownBy 2 = .ok (.iconst 0, 1) := by decide +kernel
theorem dX6_ownBy_3 : decode cX6_ownBy 3 = .ok (.istore 4, 2) := by decide +kernel
theorem dX6_ownBy_5 : decode cX6_ownBy 5 = .ok (.iload 4, 2) := by decide +kernel
theorem dX6_ownBy_7 : decode cX6_ownBy 7 = .ok (.iconst 1, 1) := by decide +kernel
theorem dX6_ownBy_8 : decode cX6_ownBy 8 = .ok (.aload_n 0, 1) := by decide +kernel
theorem dX6_ownBy_9 : decode cX6_ownBy 9 = .ok (.getfield 66, 3) := by decide +kernel
theorem dX6_ownBy_12 : decode cX6_ownBy 12 = .ok (.ishl, 1) := by decide +kernel
theorem dX6_ownBy_13 : decode cX6_ownBy 13 = .ok (.if_icmp .ge 129, 3) := by decide +kernel
theorem dX6_ownBy_16 : decode cX6_ownBy 16 = .ok (.iconst 0, 1) := by decide +kernel
theorem dX6_ownBy_17 : decode cX6_ownBy 17 = .ok (.istore 5, 2) := by decide +kernel
theorem dX6_ownBy_19 : decode cX6_ownBy 19 = .ok (.iconst 1, 1) := by decide +kernel
theorem dX6_ownBy_20 : decode cX6_ownBy 20 = .ok (.istore 6, 2) := by decide +kernel
theorem dX6_ownBy_22 : decode cX6_ownBy 22 = .ok (.iconst 0, 1) := by decide +kernel
theorem dX6_ownBy_23 : decode cX6_ownBy 23 = .ok (.istore 7, 2) := by decide +kernel
theorem dX6_ownBy_25 : decode cX6_ownBy 25 = .ok (.iload 7, 2) := by decide +kernel
theorem dX6_ownBy_27 : decode cX6_ownBy 27 = .ok (.aload_n 0, 1) := by decide +kernel
theorem dX6_ownBy_28 : decode cX6_ownBy 28 = .ok (.getfield 66, 3) := by decide +kernel
theorem dX6_ownBy_31 : decode cX6_ownBy 31 = .ok (.if_icmp .ge 75, 3) := by decide +kernel
theorem dX6_ownBy_34 : decode cX6_ownBy 34 = .ok (.aload_n 0, 1) := by decide +kernel
theorem dX6_ownBy_35 : decode cX6_ownBy 35 = .ok (.iload 7, 2) := by decide +kernel
theorem dX6_ownBy_37 : decode cX6_ownBy 37 = .ok (.invokevirtual 147, 3) := by decide +kernel
theorem dX6_ownBy_40 : decode cX6_ownBy 40 = .ok (.istore 8, 2) := by decide +kernel
theorem dX6_ownBy_42 : decode cX6_ownBy 42 = .ok (.iload 6, 2) := by decide +kernel
theorem dX6_ownBy_44 : decode cX6_ownBy 44 = .ok (.ifCond .eq 32, 3) := by decide +kernel
theorem dX6_ownBy_47 : decode cX6_ownBy 47 = .ok (.iload 4, 2) := by decide +kernel
theorem dX6_ownBy_49 : decode cX6_ownBy 49 = .ok (.iload 7, 2) := by decide +kernel
theorem dX6_ownBy_51 : decode cX6_ownBy 51 = .ok (.invokestatic 199, 3) := by decide +kernel
theorem dX6_ownBy_54 : decode cX6_ownBy 54 = .ok (.ifCond .eq 18, 3) := by decide +kernel
theorem dX6_ownBy_57 : decode cX6_ownBy 57 = .ok (.iload 7, 2) := by decide +kernel
theorem dX6_ownBy_59 : decode cX6_ownBy 59 = .ok (.iconst 2, 1) := by decide +kernel
theorem dX6_ownBy_60 : decode cX6_ownBy 60 = .ok (.irem, 1) := by decide +kernel
theorem dX6_ownBy_61 : decode cX6_ownBy 61 = .ok (.iload_n 1, 1) := by decide +kernel
theorem dX6_ownBy_62 : decode cX6_ownBy 62 = .ok (.if_icmp .ne 14, 3) := by decide +kernel
theorem dX6_ownBy_65 : decode cX6_ownBy 65 = .ok (.iload 8, 2) := by decide +kernel
theorem dX6_ownBy_67 : decode cX6_ownBy 67 = .ok (.bipush (-9), 2) := by decide +kernel
theorem dX6_ownBy_69 : decode cX6_ownBy 69 = .ok (.if_icmp .eq 7, 3) := by decide +kernel
theorem dX6_ownBy_72 : decode cX6_ownBy 72 = .ok (.iconst 1, 1) := by decide +kernel
theorem dX6_ownBy_73 : decode cX6_ownBy 73 = .ok (.goto 4, 3) := by decide +kernel
theorem dX6_ownBy_76 : decode cX6_ownBy 76 = .ok (.iconst 0, 1) := by decide +kernel
theorem dX6_ownBy_77 : decode cX6_ownBy 77 = .ok (.istore 6, 2) := by decide +kernel
theorem dX6_ownBy_79 : decode cX6_ownBy 79 = .ok (.iload 5, 2) := by decide +kernel
theorem dX6_ownBy_81 : decode cX6_ownBy 81 = .ok (.iload 4, 2) := by decide +kernel
theorem dX6_ownBy_83 : decode cX6_ownBy 83 = .ok (.iload 7, 2) := by decide +kernel
theorem dX6_ownBy_85 : decode cX6_ownBy 85 = .ok (.invokestatic 199, 3) := by decide +kernel
theorem dX6_ownBy_88 : decode cX6_ownBy 88 = .ok (.ifCond .eq 8, 3) := by decide +kernel
theorem dX6_ownBy_91 : decode cX6_ownBy 91 = .ok (.iload 8, 2) := by decide +kernel
theorem dX6_ownBy_93 : decode cX6_ownBy 93 = .ok (.goto 4, 3) := by decide +kernel
theorem dX6_ownBy_96 : decode cX6_ownBy 96 = .ok (.iconst 0, 1) := by decide +kernel
theorem dX6_ownBy_97 : decode cX6_ownBy 97 = .ok (.iadd, 1) := by decide +kernel
theorem dX6_ownBy_98 : decode cX6_ownBy 98 = .ok (.istore 5, 2) := by decide +kernel
theorem dX6_ownBy_100 : decode cX6_ownBy 100 = .ok (.iinc 7 1, 3) := by decide +kernel
theorem dX6_ownBy_103 : decode cX6_ownBy 103 = .ok (.goto (-78), 3) := by decide +kernel
theorem dX6_ownBy_106 : decode cX6_ownBy 106 = .ok (.iload 6, 2) := by decide +kernel
theorem dX6_ownBy_108 : decode cX6_ownBy 108 = .ok (.ifCond .eq 26, 3) := by decide +kernel
theorem dX6_ownBy_111 : decode cX6_ownBy 111 = .ok (.iload 5, 2) := by decide +kernel
theorem dX6_ownBy_113 : decode cX6_ownBy 113 = .ok (.iload_n 2, 1) := by decide +kernel
theorem dX6_ownBy_114 : decode cX6_ownBy 114 = .ok (.if_icmp .gt 20, 3) := by decide +kernel
theorem dX6_ownBy_117 : decode cX6_ownBy 117 = .ok (.iload 4, 2) := by decide +kernel
theorem dX6_ownBy_119 : decode cX6_ownBy 119 = .ok (.invokestatic 166, 3) := by decide +kernel
theorem dX6_ownBy_122 : decode cX6_ownBy 122 = .ok (.iload_n 3, 1) := by decide +kernel
theorem dX6_ownBy_123 : decode cX6_ownBy 123 = .ok (.if_icmp .le 11, 3) := by decide +kernel
theorem dX6_ownBy_126 : decode cX6_ownBy 126 = .ok (.iload 4, 2) := by decide +kernel
theorem dX6_ownBy_128 : decode cX6_ownBy 128 = .ok (.invokestatic 166, 3) := by decide +kernel
theorem dX6_ownBy_131 : decode cX6_ownBy 131 = .ok (.goto 4, 3) := by decide +kernel
theorem dX6_ownBy_134 : decode cX6_ownBy 134 = .ok (.iload_n 3, 1) := by decide +kernel
theorem dX6_ownBy_135 : decode cX6_ownBy 135 = .ok (.istore_n 3, 1) := by decide +kernel
theorem dX6_ownBy_136 : decode cX6_ownBy 136 = .ok (.iinc 4 1, 3) := by decide +kernel
theorem dX6_ownBy_139 : decode cX6_ownBy 139 = .ok (.goto (-134), 3) := by decide +kernel
theorem dX6_ownBy_142 : decode cX6_ownBy 142 = .ok (.iload_n 3, 1) := by decide +kernel
theorem dX6_ownBy_143 : decode cX6_ownBy 143 = .ok (.ireturn, 1) := by decide +kernel
theorem dX6_duel_0 : decode cX6_duel 0 = .ok (.iload_n 1, 1) := by decide +kernel
theorem dX6_duel_1 : decode cX6_duel 1 = .ok (.iconst 0, 1) := by decide +kernel
theorem dX6_duel_2 : decode cX6_duel 2 = .ok (.iconst 3, 1) := by decide +kernel
theorem dX6_duel_3 : decode cX6_duel 3 = .ok (.invokestatic 69, 3) := by decide +kernel
theorem dX6_duel_6 : decode cX6_duel 6 = .ok (.ifCond .ne 5, 3) := by decide +kernel
theorem dX6_duel_9 : decode cX6_duel 9 = .ok (.iconst (-1), 1) := by decide +kernel
theorem dX6_duel_10 : decode cX6_duel 10 = .ok (.ireturn, 1) := by decide +kernel
theorem dX6_duel_11 : decode cX6_duel 11 = .ok (.aload_n 0, 1) := by decide +kernel
theorem dX6_duel_12 : decode cX6_duel 12 = .ok (.getfield 66, 3) := by decide +kernel
theorem dX6_duel_15 : decode cX6_duel 15 = .ok (.ifCond .ne 8, 3) := by decide +kernel
theorem dX6_duel_18 : decode cX6_duel 18 = .ok (.bipush (-4), 2) := by decide +kernel
theorem dX6_duel_20 : decode cX6_duel 20 = .ok (.goto 20, 3) := by decide +kernel
theorem dX6_duel_23 : decode cX6_duel 23 = .ok (.aload_n 0, 1) := by decide +kernel
theorem dX6_duel_24 : decode cX6_duel 24 = .ok (.aload_n 0, 1) := by decide +kernel
theorem dX6_duel_25 : decode cX6_duel 25 = .ok (.iconst 0, 1) := by decide +kernel
theorem dX6_duel_26 : decode cX6_duel 26 = .ok (.iload_n 1, 1) := by decide +kernel
theorem dX6_duel_27 : decode cX6_duel 27 = .ok (.invokevirtual 236, 3) := by decide +kernel
theorem dX6_duel_30 : decode cX6_duel 30 = .ok (.aload_n 0, 1) := by decide +kernel
theorem dX6_duel_31 : decode cX6_duel 31 = .ok (.iconst 1, 1) := by decide +kernel
theorem dX6_duel_32 : decode cX6_duel 32 = .ok (.iload_n 1, 1) := by decide +kernel
theorem dX6_duel_33 : decode cX6_duel 33 = .ok (.invokevirtual 236, 3) := by decide +kernel
theorem dX6_duel_36 : decode cX6_duel 36 = .ok (.isub, 1) := by decide +kernel
theorem dX6_duel_37 : decode cX6_duel 37 = .ok (.invokevirtual 81, 3) := by decide +kernel
theorem dX6_duel_40 : decode cX6_duel 40 = .ok (.ireturn, 1) := by decide +kernel
theorem dX6_tellsPart_0 : decode cX6_tellsPart 0 = .ok (.lload_n 1, 1) := by decide +kernel
theorem dX6_tellsPart_1 : decode cX6_tellsPart 1 = .ok (.lstore 5, 2) := by decide +kernel
theorem dX6_tellsPart_3 : decode cX6_tellsPart 3 = .ok (.lload_n 3, 1) := by decide +kernel
theorem dX6_tellsPart_4 : decode cX6_tellsPart 4 = .ok (.lstore 7, 2) := by decide +kernel
theorem dX6_tellsPart_6 : decode cX6_tellsPart 6 = .ok (.lload 7, 2) := by decide +kernel
theorem dX6_tellsPart_8 : decode cX6_tellsPart 8 = .ok (.lconst 0, 1) := by decide +kernel
theorem dX6_tellsPart_9 : decode cX6_tellsPart 9 = .ok (.lcmp, 1) := by decide +kernel
theorem dX6_tellsPart_10 : decode cX6_tellsPart 10 = .ok (.ifCond .le 21, 3) := by decide +kernel
theorem dX6_tellsPart_13 : decode cX6_tellsPart 13 = .ok (.lload 5, 2) := by decide +kernel
theorem dX6_tellsPart_15 : decode cX6_tellsPart 15 = .ok (.lload 7, 2) := by decide +kernel
theorem dX6_tellsPart_17 : decode cX6_tellsPart 17 = .ok (.lrem, 1) := by decide +kernel
theorem dX6_tellsPart_18 : decode cX6_tellsPart 18 = .ok (.lstore 9, 2) := by decide +kernel
theorem dX6_tellsPart_20 : decode cX6_tellsPart 20 = .ok (.lload 7, 2) := by decide +kernel
theorem dX6_tellsPart_22 : decode cX6_tellsPart 22 = .ok (.lstore 5, 2) := by decide +kernel
theorem dX6_tellsPart_24 : decode cX6_tellsPart 24 = .ok (.lload 9, 2) := by decide +kernel
theorem dX6_tellsPart_26 : decode cX6_tellsPart 26 = .ok (.lstore 7, 2) := by decide +kernel
theorem dX6_tellsPart_28 : decode cX6_tellsPart 28 = .ok (.goto (-22), 3) := by decide +kernel
theorem dX6_tellsPart_31 : decode cX6_tellsPart 31 = .ok (.aload_n 0, 1) := by decide +kernel
theorem dX6_tellsPart_32 : decode cX6_tellsPart 32 = .ok (.lload_n 1, 1) := by decide +kernel
theorem dX6_tellsPart_33 : decode cX6_tellsPart 33 = .ok (.lload 5, 2) := by decide +kernel
theorem dX6_tellsPart_35 : decode cX6_tellsPart 35 = .ok (.ldiv, 1) := by decide +kernel
theorem dX6_tellsPart_36 : decode cX6_tellsPart 36 = .ok (.putfield 233, 3) := by decide +kernel
theorem dX6_tellsPart_39 : decode cX6_tellsPart 39 = .ok (.aload_n 0, 1) := by decide +kernel
theorem dX6_tellsPart_40 : decode cX6_tellsPart 40 = .ok (.lload_n 3, 1) := by decide +kernel
theorem dX6_tellsPart_41 : decode cX6_tellsPart 41 = .ok (.lload 5, 2) := by decide +kernel
theorem dX6_tellsPart_43 : decode cX6_tellsPart 43 = .ok (.ldiv, 1) := by decide +kernel
theorem dX6_tellsPart_44 : decode cX6_tellsPart 44 = .ok (.putfield 25, 3) := by decide +kernel
theorem dX6_tellsPart_47 : decode cX6_tellsPart 47 = .ok (.return_, 1) := by decide +kernel
theorem dX6_waysOf_0 : decode cX6_waysOf 0 = .ok (.lconst 1, 1) := by decide +kernel
theorem dX6_waysOf_1 : decode cX6_waysOf 1 = .ok (.lstore_n 3, 1) := by decide +kernel
theorem dX6_waysOf_2 : decode cX6_waysOf 2 = .ok (.iconst 0, 1) := by decide +kernel
theorem dX6_waysOf_3 : decode cX6_waysOf 3 = .ok (.istore 5, 2) := by decide +kernel
theorem dX6_waysOf_5 : decode cX6_waysOf 5 = .ok (.iload 5, 2) := by decide +kernel
theorem dX6_waysOf_7 : decode cX6_waysOf 7 = .ok (.iload_n 1, 1) := by decide +kernel
theorem dX6_waysOf_8 : decode cX6_waysOf 8 = .ok (.if_icmp .ge 23, 3) := by decide +kernel
theorem dX6_waysOf_11 : decode cX6_waysOf 11 = .ok (.lload_n 3, 1) := by decide +kernel
theorem dX6_waysOf_12 : decode cX6_waysOf 12 = .ok (.iload_n 0, 1) := by decide +kernel
theorem dX6_waysOf_13 : decode cX6_waysOf 13 = .ok (.iload 5, 2) := by decide +kernel
theorem dX6_waysOf_15 : decode cX6_waysOf 15 = .ok (.isub, 1) := by decide +kernel
theorem dX6_waysOf_16 : decode cX6_waysOf 16 = .ok (.i2l, 1) := by decide +kernel
theorem dX6_waysOf_17 : decode cX6_waysOf 17 = .ok (.lmul, 1) := by decide +kernel
theorem dX6_waysOf_18 : decode cX6_waysOf 18 = .ok (.iload 5, 2) := by decide +kernel
theorem dX6_waysOf_20 : decode cX6_waysOf 20 = .ok (.iconst 1, 1) := by decide +kernel
theorem dX6_waysOf_21 : decode cX6_waysOf 21 = .ok (.iadd, 1) := by decide +kernel
theorem dX6_waysOf_22 : decode cX6_waysOf 22 = .ok (.i2l, 1) := by decide +kernel
theorem dX6_waysOf_23 : decode cX6_waysOf 23 = .ok (.ldiv, 1) := by decide +kernel
theorem dX6_waysOf_24 : decode cX6_waysOf 24 = .ok (.lstore_n 3, 1) := by decide +kernel
theorem dX6_waysOf_25 : decode cX6_waysOf 25 = .ok (.iinc 5 1, 3) := by decide +kernel
theorem dX6_waysOf_28 : decode cX6_waysOf 28 = .ok (.goto (-23), 3) := by decide +kernel
theorem dX6_waysOf_31 : decode cX6_waysOf 31 = .ok (.iconst 0, 1) := by decide +kernel
theorem dX6_waysOf_32 : decode cX6_waysOf 32 = .ok (.istore 5, 2) := by decide +kernel
theorem dX6_waysOf_34 : decode cX6_waysOf 34 = .ok (.iload 5, 2) := by decide +kernel
theorem dX6_waysOf_36 : decode cX6_waysOf 36 = .ok (.iload_n 0, 1) := by decide +kernel
theorem dX6_waysOf_37 : decode cX6_waysOf 37 = .ok (.if_icmp .ge 28, 3) := by decide +kernel
theorem dX6_waysOf_40 : decode cX6_waysOf 40 = .ok (.lload_n 3, 1) := by decide +kernel
theorem dX6_waysOf_41 : decode cX6_waysOf 41 = .ok (.iload 5, 2) := by decide +kernel
theorem dX6_waysOf_43 : decode cX6_waysOf 43 = .ok (.iload_n 1, 1) := by decide +kernel
theorem dX6_waysOf_44 : decode cX6_waysOf 44 = .ok (.if_icmp .ge 8, 3) := by decide +kernel
theorem dX6_waysOf_47 : decode cX6_waysOf 47 = .ok (.iload_n 2, 1) := by decide +kernel
theorem dX6_waysOf_48 : decode cX6_waysOf 48 = .ok (.i2l, 1) := by decide +kernel
theorem dX6_waysOf_49 : decode cX6_waysOf 49 = .ok (.goto 8, 3) := by decide +kernel
theorem dX6_waysOf_52 : decode cX6_waysOf 52 = .ok (.bipush 12, 2) := by decide +kernel
theorem dX6_waysOf_54 : decode cX6_waysOf 54 = .ok (.iload_n 2, 1) := by decide +kernel
theorem dX6_waysOf_55 : decode cX6_waysOf 55 = .ok (.isub, 1) := by decide +kernel
theorem dX6_waysOf_56 : decode cX6_waysOf 56 = .ok (.i2l, 1) := by decide +kernel
theorem dX6_waysOf_57 : decode cX6_waysOf 57 = .ok (.lmul, 1) := by decide +kernel
theorem dX6_waysOf_58 : decode cX6_waysOf 58 = .ok (.lstore_n 3, 1) := by decide +kernel
theorem dX6_waysOf_59 : decode cX6_waysOf 59 = .ok (.iinc 5 1, 3) := by decide +kernel
theorem dX6_waysOf_62 : decode cX6_waysOf 62 = .ok (.goto (-28), 3) := by decide +kernel
theorem dX6_waysOf_65 : decode cX6_waysOf 65 = .ok (.lload_n 3, 1) := by decide +kernel
theorem dX6_waysOf_66 : decode cX6_waysOf 66 = .ok (.lreturn, 1) := by decide +kernel
theorem dX6_whole_0 : decode cX6_whole 0 = .ok (.lconst 1, 1) := by decide +kernel
theorem dX6_whole_1 : decode cX6_whole 1 = .ok (.lstore_n 1, 1) := by decide +kernel
theorem dX6_whole_2 : decode cX6_whole 2 = .ok (.iconst 0, 1) := by decide +kernel
theorem dX6_whole_3 : decode cX6_whole 3 = .ok (.istore_n 3, 1) := by decide +kernel
theorem dX6_whole_4 : decode cX6_whole 4 = .ok (.iload_n 3, 1) := by decide +kernel
theorem dX6_whole_5 : decode cX6_whole 5 = .ok (.iload_n 0, 1) := by decide +kernel
theorem dX6_whole_6 : decode cX6_whole 6 = .ok (.if_icmp .ge 15, 3) := by decide +kernel
theorem dX6_whole_9 : decode cX6_whole 9 = .ok (.lload_n 1, 1) := by decide +kernel
theorem dX6_whole_10 : decode cX6_whole 10 = .ok (.ldc2_w 239, 3) := by decide +kernel
theorem dX6_whole_13 : decode cX6_whole 13 = .ok (.lmul, 1) := by decide +kernel
theorem dX6_whole_14 : decode cX6_whole 14 = .ok (.lstore_n 1, 1) := by decide +kernel
theorem dX6_whole_15 : decode cX6_whole 15 = .ok (.iinc 3 1, 3) := by decide +kernel
theorem dX6_whole_18 : decode cX6_whole 18 = .ok (.goto (-14), 3) := by decide +kernel
theorem dX6_whole_21 : decode cX6_whole 21 = .ok (.lload_n 1, 1) := by decide +kernel
theorem dX6_whole_22 : decode cX6_whole 22 = .ok (.lreturn, 1) := by decide +kernel
theorem dX6_odds_0 : decode cX6_odds 0 = .ok (.aload_n 0, 1) := by decide +kernel
theorem dX6_odds_1 : decode cX6_odds 1 = .ok (.iload_n 1, 1) := by decide +kernel
theorem dX6_odds_2 : decode cX6_odds 2 = .ok (.invokevirtual 150, 3) := by decide +kernel
theorem dX6_odds_5 : decode cX6_odds 5 = .ok (.ifCond .eq 23, 3) := by decide +kernel
theorem dX6_odds_8 : decode cX6_odds 8 = .ok (.iload_n 2, 1) := by decide +kernel
theorem dX6_odds_9 : decode cX6_odds 9 = .ok (.iconst 0, 1) := by decide +kernel
theorem dX6_odds_10 : decode cX6_odds 10 = .ok (.bipush 8, 2) := by decide +kernel
theorem dX6_odds_12 : decode cX6_odds 12 = .ok (.invokestatic 69, 3) := by decide +kernel
theorem dX6_odds_15 : decode cX6_odds 15 = .ok (.ifCond .eq 13, 3) := by decide +kernel
theorem dX6_odds_18 : decode cX6_odds 18 = .ok (.iload_n 3, 1) := by decide +kernel
theorem dX6_odds_19 : decode cX6_odds 19 = .ok (.iconst 0, 1) := by decide +kernel
theorem dX6_odds_20 : decode cX6_odds 20 = .ok (.bipush 12, 2) := by decide +kernel
theorem dX6_odds_22 : decode cX6_odds 22 = .ok (.invokestatic 69, 3) := by decide +kernel
theorem dX6_odds_25 : decode cX6_odds 25 = .ok (.ifCond .ne 5, 3) := by decide +kernel
theorem dX6_odds_28 : decode cX6_odds 28 = .ok (.iconst (-1), 1) := by decide +kernel
theorem dX6_odds_29 : decode cX6_odds 29 = .ok (.ireturn, 1) := by decide +kernel
theorem dX6_odds_30 : decode cX6_odds 30 = .ok (.aload_n 0, 1) := by decide +kernel
theorem dX6_odds_31 : decode cX6_odds 31 = .ok (.iload_n 1, 1) := by decide +kernel
theorem dX6_odds_32 : decode cX6_odds 32 = .ok (.invokevirtual 147, 3) := by decide +kernel
theorem dX6_odds_35 : decode cX6_odds 35 = .ok (.istore 4, 2) := by decide +kernel
theorem dX6_odds_37 : decode cX6_odds 37 = .ok (.lconst 0, 1) := by decide +kernel
theorem dX6_odds_38 : decode cX6_odds 38 = .ok (.lstore 5, 2) := by decide +kernel
theorem dX6_odds_40 : decode cX6_odds 40 = .ok (.iconst 0, 1) := by decide +kernel
theorem dX6_odds_41 : decode cX6_odds 41 = .ok (.istore 7, 2) := by decide +kernel
theorem dX6_odds_43 : decode cX6_odds 43 = .ok (.iload 7, 2) := by decide +kernel
theorem dX6_odds_45 : decode cX6_odds 45 = .ok (.iload_n 2, 1) := by decide +kernel
theorem dX6_odds_46 : decode cX6_odds 46 = .ok (.if_icmp .gt 39, 3) := by decide +kernel
theorem dX6_odds_49 : decode cX6_odds 49 = .ok (.lload 5, 2) := by decide +kernel
theorem dX6_odds_51 : decode cX6_odds 51 = .ok (.iload 4, 2) := by decide +kernel
theorem dX6_odds_53 : decode cX6_odds 53 = .ok (.bipush (-9), 2) := by decide +kernel
theorem dX6_odds_55 : decode cX6_odds 55 = .ok (.if_icmp .eq 20, 3) := by decide +kernel
theorem dX6_odds_58 : decode cX6_odds 58 = .ok (.iload 7, 2) := by decide +kernel
theorem dX6_odds_60 : decode cX6_odds 60 = .ok (.iload 4, 2) := by decide +kernel
theorem dX6_odds_62 : decode cX6_odds 62 = .ok (.if_icmp .lt 13, 3) := by decide +kernel
theorem dX6_odds_65 : decode cX6_odds 65 = .ok (.iload_n 2, 1) := by decide +kernel
theorem dX6_odds_66 : decode cX6_odds 66 = .ok (.iload 7, 2) := by decide +kernel
theorem dX6_odds_68 : decode cX6_odds 68 = .ok (.iload_n 3, 1) := by decide +kernel
theorem dX6_odds_69 : decode cX6_odds 69 = .ok (.invokestatic 241, 3) := by decide +kernel
theorem dX6_odds_72 : decode cX6_odds 72 = .ok (.goto 4, 3) := by decide +kernel
theorem dX6_odds_75 : decode cX6_odds 75 = .ok (.lconst 0, 1) := by decide +kernel
theorem dX6_odds_76 : decode cX6_odds 76 = .ok (.ladd, 1) := by decide +kernel
theorem dX6_odds_77 : decode cX6_odds 77 = .ok (.lstore 5, 2) := by decide +kernel
theorem dX6_odds_79 : decode cX6_odds 79 = .ok (.iinc 7 1, 3) := by decide +kernel
theorem dX6_odds_82 : decode cX6_odds 82 = .ok (.goto (-39), 3) := by decide +kernel
theorem dX6_odds_85 : decode cX6_odds 85 = .ok (.aload_n 0, 1) := by decide +kernel
theorem dX6_odds_86 : decode cX6_odds 86 = .ok (.lload 5, 2) := by decide +kernel
theorem dX6_odds_88 : decode cX6_odds 88 = .ok (.iload_n 2, 1) := by decide +kernel
theorem dX6_odds_89 : decode cX6_odds 89 = .ok (.invokestatic 245, 3) := by decide +kernel
theorem dX6_odds_92 : decode cX6_odds 92 = .ok (.invokevirtual 249, 3) := by decide +kernel
theorem dX6_odds_95 : decode cX6_odds 95 = .ok (.iconst 1, 1) := by decide +kernel
theorem dX6_odds_96 : decode cX6_odds 96 = .ok (.ireturn, 1) := by decide +kernel
theorem dX6_mid_0 : decode cX6_mid 0 = .ok (.aload_n 0, 1) := by decide +kernel
theorem dX6_mid_1 : decode cX6_mid 1 = .ok (.iload_n 1, 1) := by decide +kernel
theorem dX6_mid_2 : decode cX6_mid 2 = .ok (.invokevirtual 150, 3) := by decide +kernel
theorem dX6_mid_5 : decode cX6_mid 5 = .ok (.ifCond .eq 23, 3) := by decide +kernel
theorem dX6_mid_8 : decode cX6_mid 8 = .ok (.iload_n 2, 1) := by decide +kernel
theorem dX6_mid_9 : decode cX6_mid 9 = .ok (.iconst 0, 1) := by decide +kernel
theorem dX6_mid_10 : decode cX6_mid 10 = .ok (.bipush 8, 2) := by decide +kernel
theorem dX6_mid_12 : decode cX6_mid 12 = .ok (.invokestatic 69, 3) := by decide +kernel
theorem dX6_mid_15 : decode cX6_mid 15 = .ok (.ifCond .eq 13, 3) := by decide +kernel
theorem dX6_mid_18 : decode cX6_mid 18 = .ok (.iload_n 3, 1) := by decide +kernel
theorem dX6_mid_19 : decode cX6_mid 19 = .ok (.iconst 0, 1) := by decide +kernel
theorem dX6_mid_20 : decode cX6_mid 20 = .ok (.bipush 12, 2) := by decide +kernel
theorem dX6_mid_22 : decode cX6_mid 22 = .ok (.invokestatic 69, 3) := by decide +kernel
theorem dX6_mid_25 : decode cX6_mid 25 = .ok (.ifCond .ne 5, 3) := by decide +kernel
theorem dX6_mid_28 : decode cX6_mid 28 = .ok (.iconst (-1), 1) := by decide +kernel
theorem dX6_mid_29 : decode cX6_mid 29 = .ok (.ireturn, 1) := by decide +kernel
theorem dX6_mid_30 : decode cX6_mid 30 = .ok (.aload_n 0, 1) := by decide +kernel
theorem dX6_mid_31 : decode cX6_mid 31 = .ok (.iload_n 1, 1) := by decide +kernel
theorem dX6_mid_32 : decode cX6_mid 32 = .ok (.invokevirtual 147, 3) := by decide +kernel
theorem dX6_mid_35 : decode cX6_mid 35 = .ok (.istore 4, 2) := by decide +kernel
theorem dX6_mid_37 : decode cX6_mid 37 = .ok (.iload 4, 2) := by decide +kernel
theorem dX6_mid_39 : decode cX6_mid 39 = .ok (.bipush (-9), 2) := by decide +kernel
theorem dX6_mid_41 : decode cX6_mid 41 = .ok (.if_icmp .ne 9, 3) := by decide +kernel
theorem dX6_mid_44 : decode cX6_mid 44 = .ok (.aload_n 0, 1) := by decide +kernel
theorem dX6_mid_45 : decode cX6_mid 45 = .ok (.iconst 4, 1) := by decide +kernel
theorem dX6_mid_46 : decode cX6_mid 46 = .ok (.invokevirtual 73, 3) := by decide +kernel
theorem dX6_mid_49 : decode cX6_mid 49 = .ok (.ireturn, 1) := by decide +kernel
theorem dX6_mid_50 : decode cX6_mid 50 = .ok (.lconst 0, 1) := by decide +kernel
theorem dX6_mid_51 : decode cX6_mid 51 = .ok (.lstore 5, 2) := by decide +kernel
theorem dX6_mid_53 : decode cX6_mid 53 = .ok (.iconst 0, 1) := by decide +kernel
theorem dX6_mid_54 : decode cX6_mid 54 = .ok (.istore 7, 2) := by decide +kernel
theorem dX6_mid_56 : decode cX6_mid 56 = .ok (.iload 7, 2) := by decide +kernel
theorem dX6_mid_58 : decode cX6_mid 58 = .ok (.iload_n 2, 1) := by decide +kernel
theorem dX6_mid_59 : decode cX6_mid 59 = .ok (.if_icmp .gt 39, 3) := by decide +kernel
theorem dX6_mid_62 : decode cX6_mid 62 = .ok (.lload 5, 2) := by decide +kernel
theorem dX6_mid_64 : decode cX6_mid 64 = .ok (.iload 7, 2) := by decide +kernel
theorem dX6_mid_66 : decode cX6_mid 66 = .ok (.iload 4, 2) := by decide +kernel
theorem dX6_mid_68 : decode cX6_mid 68 = .ok (.if_icmp .ge 20, 3) := by decide +kernel
theorem dX6_mid_71 : decode cX6_mid 71 = .ok (.iload_n 2, 1) := by decide +kernel
theorem dX6_mid_72 : decode cX6_mid 72 = .ok (.iload 7, 2) := by decide +kernel
theorem dX6_mid_74 : decode cX6_mid 74 = .ok (.iload_n 3, 1) := by decide +kernel
theorem dX6_mid_75 : decode cX6_mid 75 = .ok (.invokestatic 241, 3) := by decide +kernel
theorem dX6_mid_78 : decode cX6_mid 78 = .ok (.iload 4, 2) := by decide +kernel
theorem dX6_mid_80 : decode cX6_mid 80 = .ok (.iload 7, 2) := by decide +kernel
theorem dX6_mid_82 : decode cX6_mid 82 = .ok (.isub, 1) := by decide +kernel
theorem dX6_mid_83 : decode cX6_mid 83 = .ok (.i2l, 1) := by decide +kernel
theorem dX6_mid_84 : decode cX6_mid 84 = .ok (.lmul, 1) := by decide +kernel
theorem dX6_mid_85 : decode cX6_mid 85 = .ok (.goto 4, 3) := by decide +kernel
theorem dX6_mid_88 : decode cX6_mid 88 = .ok (.lconst 0, 1) := by decide +kernel
theorem dX6_mid_89 : decode cX6_mid 89 = .ok (.ladd, 1) := by decide +kernel
theorem dX6_mid_90 : decode cX6_mid 90 = .ok (.lstore 5, 2) := by decide +kernel
theorem dX6_mid_92 : decode cX6_mid 92 = .ok (.iinc 7 1, 3) := by decide +kernel
theorem dX6_mid_95 : decode cX6_mid 95 = .ok (.goto (-39), 3) := by decide +kernel
theorem dX6_mid_98 : decode cX6_mid 98 = .ok (.aload_n 0, 1) := by decide +kernel
theorem dX6_mid_99 : decode cX6_mid 99 = .ok (.lload 5, 2) := by decide +kernel
theorem dX6_mid_101 : decode cX6_mid 101 = .ok (.iload_n 2, 1) := by decide +kernel
theorem dX6_mid_102 : decode cX6_mid 102 = .ok (.invokestatic 245, 3) := by decide +kernel
theorem dX6_mid_105 : decode cX6_mid 105 = .ok (.invokevirtual 249, 3) := by decide +kernel
theorem dX6_mid_108 : decode cX6_mid 108 = .ok (.iconst 1, 1) := by decide +kernel
theorem dX6_mid_109 : decode cX6_mid 109 = .ok (.ireturn, 1) := by decide +kernel
theorem dX6_lots_0 : decode cX6_lots 0 = .ok (.iload_n 1, 1) := by decide +kernel
theorem dX6_lots_1 : decode cX6_lots 1 = .ok (.iconst 1, 1) := by decide +kernel
theorem dX6_lots_2 : decode cX6_lots 2 = .ok (.bipush 20, 2) := by decide +kernel
theorem dX6_lots_4 : decode cX6_lots 4 = .ok (.invokestatic 69, 3) := by decide +kernel
theorem dX6_lots_7 : decode cX6_lots 7 = .ok (.ifCond .eq 13, 3) := by decide +kernel
theorem dX6_lots_10 : decode cX6_lots 10 = .ok (.iload_n 2, 1) := by decide +kernel
theorem dX6_lots_11 : decode cX6_lots 11 = .ok (.iconst 1, 1) := by decide +kernel
theorem dX6_lots_12 : decode cX6_lots 12 = .ok (.ldc 253, 2) := by decide +kernel
theorem dX6_lots_14 : decode cX6_lots 14 = .ok (.invokestatic 69, 3) := by decide +kernel
theorem dX6_lots_17 : decode cX6_lots 17 = .ok (.ifCond .ne 5, 3) := by decide +kernel
theorem dX6_lots_20 : decode cX6_lots 20 = .ok (.iconst (-1), 1) := by decide +kernel
theorem dX6_lots_21 : decode cX6_lots 21 = .ok (.ireturn, 1) := by decide +kernel
theorem dX6_lots_22 : decode cX6_lots 22 = .ok (.aload_n 0, 1) := by decide +kernel
theorem dX6_lots_23 : decode cX6_lots 23 = .ok (.getfield 66, 3) := by decide +kernel
theorem dX6_lots_26 : decode cX6_lots 26 = .ok (.ifCond .ne 6, 3) := by decide +kernel
theorem dX6_lots_29 : decode cX6_lots 29 = .ok (.bipush (-4), 2) := by decide +kernel
theorem dX6_lots_31 : decode cX6_lots 31 = .ok (.ireturn, 1) := by decide +kernel
theorem dX6_lots_32 : decode cX6_lots 32 = .ok (.aload_n 0, 1) := by decide +kernel
theorem dX6_lots_33 : decode cX6_lots 33 = .ok (.getfield 134, 3) := by decide +kernel
theorem dX6_lots_36 : decode cX6_lots 36 = .ok (.iload_n 1, 1) := by decide +kernel
theorem dX6_lots_37 : decode cX6_lots 37 = .ok (.iadd, 1) := by decide +kernel
theorem dX6_lots_38 : decode cX6_lots 38 = .ok (.bipush 40, 2) := by decide +kernel
theorem dX6_lots_40 : decode cX6_lots 40 = .ok (.if_icmp .le 6, 3) := by decide +kernel
theorem dX6_lots_43 : decode cX6_lots 43 = .ok (.bipush (-2), 2) := by decide +kernel
theorem dX6_lots_45 : decode cX6_lots 45 = .ok (.ireturn, 1) := by decide +kernel
theorem dX6_lots_46 : decode cX6_lots 46 = .ok (.iload_n 2, 1) := by decide +kernel
theorem dX6_lots_47 : decode cX6_lots 47 = .ok (.i2l, 1) := by decide +kernel
theorem dX6_lots_48 : decode cX6_lots 48 = .ok (.lstore_n 3, 1) := by decide +kernel
theorem dX6_lots_49 : decode cX6_lots 49 = .ok (.iconst 0, 1) := by decide +kernel
theorem dX6_lots_50 : decode cX6_lots 50 = .ok (.istore 5, 2) := by decide +kernel
theorem dX6_lots_52 : decode cX6_lots 52 = .ok (.iload 5, 2) := by decide +kernel
theorem dX6_lots_54 : decode cX6_lots 54 = .ok (.iload_n 1, 1) := by decide +kernel
theorem dX6_lots_55 : decode cX6_lots 55 = .ok (.if_icmp .ge 114, 3) := by decide +kernel
theorem dX6_lots_58 : decode cX6_lots 58 = .ok (.lload_n 3, 1) := by decide +kernel
theorem dX6_lots_59 : decode cX6_lots 59 = .ok (.ldc2_w 254, 3) := by decide +kernel
theorem dX6_lots_62 : decode cX6_lots 62 = .ok (.lmul, 1) := by decide +kernel
theorem dX6_lots_63 : decode cX6_lots 63 = .ok (.ldc2_w 256, 3) := by decide +kernel
theorem dX6_lots_66 : decode cX6_lots 66 = .ok (.lrem, 1) := by decide +kernel
theorem dX6_lots_67 : decode cX6_lots 67 = .ok (.lstore_n 3, 1) := by decide +kernel
theorem dX6_lots_68 : decode cX6_lots 68 = .ok (.lload_n 3, 1) := by decide +kernel
theorem dX6_lots_69 : decode cX6_lots 69 = .ok (.ldc2_w 258, 3) := by decide +kernel
theorem dX6_lots_72 : decode cX6_lots 72 = .ok (.ldiv, 1) := by decide +kernel
theorem dX6_lots_73 : decode cX6_lots 73 = .ok (.ldc2_w 258, 3) := by decide +kernel
theorem dX6_lots_76 : decode cX6_lots 76 = .ok (.lrem, 1) := by decide +kernel
theorem dX6_lots_77 : decode cX6_lots 77 = .ok (.l2i, 1) := by decide +kernel
theorem dX6_lots_78 : decode cX6_lots 78 = .ok (.istore 6, 2) := by decide +kernel
theorem dX6_lots_80 : decode cX6_lots 80 = .ok (.lload_n 3, 1) := by decide +kernel
theorem dX6_lots_81 : decode cX6_lots 81 = .ok (.aload_n 0, 1) := by decide +kernel
theorem dX6_lots_82 : decode cX6_lots 82 = .ok (.getfield 66, 3) := by decide +kernel
theorem dX6_lots_85 : decode cX6_lots 85 = .ok (.i2l, 1) := by decide +kernel
theorem dX6_lots_86 : decode cX6_lots 86 = .ok (.lrem, 1) := by decide +kernel
theorem dX6_lots_87 : decode cX6_lots 87 = .ok (.l2i, 1) := by decide +kernel
theorem dX6_lots_88 : decode cX6_lots 88 = .ok (.istore 7, 2) := by decide +kernel
theorem dX6_lots_90 : decode cX6_lots 90 = .ok (.aload_n 0, 1) := by decide +kernel
theorem dX6_lots_91 : decode cX6_lots 91 = .ok (.invokevirtual 179, 3) := by decide +kernel
theorem dX6_lots_94 : decode cX6_lots 94 = .ok (.iload 6, 2) := by decide +kernel
theorem dX6_lots_96 : decode cX6_lots 96 = .ok (.iconst 2, 1) := by decide +kernel
theorem dX6_lots_97 : decode cX6_lots 97 = .ok (.if_icmp .ge 12, 3) := by decide +kernel
theorem dX6_lots_100 : decode cX6_lots 100 = .ok (.aload_n 0, 1) := by decide +kernel
theorem dX6_lots_101 : decode cX6_lots 101 = .ok (.iload 7, 2) := by decide +kernel
theorem dX6_lots_103 : decode cX6_lots 103 = .ok (.invokevirtual 182, 3) := by decide +kernel
theorem dX6_lots_106 : decode cX6_lots 106 = .ok (.goto 57, 3) := by decide +kernel
theorem dX6_lots_109 : decode cX6_lots 109 = .ok (.iload 6, 2) := by decide +kernel
theorem dX6_lots_111 : decode cX6_lots 111 = .ok (.bipush 6, 2) := by decide +kernel
theorem dX6_lots_113 : decode cX6_lots 113 = .ok (.if_icmp .ge 10, 3) := by decide +kernel
theorem dX6_lots_116 : decode cX6_lots 116 = .ok (.aload_n 0, 1) := by decide +kernel
theorem dX6_lots_117 : decode cX6_lots 117 = .ok (.invokevirtual 186, 3) := by decide +kernel
theorem dX6_lots_120 : decode cX6_lots 120 = .ok (.goto 43, 3) := by decide +kernel
theorem dX6_lots_123 : decode cX6_lots 123 = .ok (.iload 6, 2) := by decide +kernel
theorem dX6_lots_125 : decode cX6_lots 125 = .ok (.bipush 6, 2) := by decide +kernel
theorem dX6_lots_127 : decode cX6_lots 127 = .ok (.if_icmp .ne 22, 3) := by decide +kernel
theorem dX6_lots_130 : decode cX6_lots 130 = .ok (.aload_n 0, 1) := by decide +kernel
theorem dX6_lots_131 : decode cX6_lots 131 = .ok (.iload 7, 2) := by decide +kernel
theorem dX6_lots_133 : decode cX6_lots 133 = .ok (.lload_n 3, 1) := by decide +kernel
theorem dX6_lots_134 : decode cX6_lots 134 = .ok (.ldc2_w 260, 3) := by decide +kernel
theorem dX6_lots_137 : decode cX6_lots 137 = .ok (.ldiv, 1) := by decide +kernel
theorem dX6_lots_138 : decode cX6_lots 138 = .ok (.ldc2_w 262, 3) := by decide +kernel
theorem dX6_lots_141 : decode cX6_lots 141 = .ok (.lrem, 1) := by decide +kernel
theorem dX6_lots_142 : decode cX6_lots 142 = .ok (.l2i, 1) := by decide +kernel
theorem dX6_lots_143 : decode cX6_lots 143 = .ok (.invokevirtual 189, 3) := by decide +kernel
theorem dX6_lots_146 : decode cX6_lots 146 = .ok (.goto 17, 3) := by decide +kernel
theorem dX6_lots_149 : decode cX6_lots 149 = .ok (.aload_n 0, 1) := by decide +kernel
theorem dX6_lots_150 : decode cX6_lots 150 = .ok (.getfield 38, 3) := by decide +kernel
theorem dX6_lots_153 : decode cX6_lots 153 = .ok (.iconst 3, 1) := by decide +kernel
theorem dX6_lots_154 : decode cX6_lots 154 = .ok (.iconst 1, 1) := by decide +kernel
theorem dX6_lots_155 : decode cX6_lots 155 = .ok (.aload_n 0, 1) := by decide +kernel
theorem dX6_lots_156 : decode cX6_lots 156 = .ok (.getfield 38, 3) := by decide +kernel
theorem dX6_lots_159 : decode cX6_lots 159 = .ok (.iconst 3, 1) := by decide +kernel
theorem dX6_lots_160 : decode cX6_lots 160 = .ok (.iaload, 1) := by decide +kernel
theorem dX6_lots_161 : decode cX6_lots 161 = .ok (.isub, 1) := by decide +kernel
theorem dX6_lots_162 : decode cX6_lots 162 = .ok (.iastore, 1) := by decide +kernel
theorem dX6_lots_163 : decode cX6_lots 163 = .ok (.iinc 5 1, 3) := by decide +kernel
theorem dX6_lots_166 : decode cX6_lots 166 = .ok (.goto (-114), 3) := by decide +kernel
theorem dX6_lots_169 : decode cX6_lots 169 = .ok (.aload_n 0, 1) := by decide +kernel
theorem dX6_lots_170 : decode cX6_lots 170 = .ok (.invokevirtual 163, 3) := by decide +kernel
theorem dX6_lots_173 : decode cX6_lots 173 = .ok (.invokestatic 166, 3) := by decide +kernel
theorem dX6_lots_176 : decode cX6_lots 176 = .ok (.ireturn, 1) := by decide +kernel
theorem dX6_asked_0 : decode cX6_asked 0 = .ok (.aload_n 0, 1) := by decide +kernel
theorem dX6_asked_1 : decode cX6_asked 1 = .ok (.getfield 63, 3) := by decide +kernel
theorem dX6_asked_4 : decode cX6_asked 4 = .ok (.ireturn, 1) := by decide +kernel
theorem dX6_upper_0 : decode cX6_upper 0 = .ok (.aload_n 0, 1) := by decide +kernel
theorem dX6_upper_1 : decode cX6_upper 1 = .ok (.getfield 233, 3) := by decide +kernel
theorem dX6_upper_4 : decode cX6_upper 4 = .ok (.lreturn, 1) := by decide +kernel
theorem dX6_lower_0 : decode cX6_lower 0 = .ok (.aload_n 0, 1) := by decide +kernel
theorem dX6_lower_1 : decode cX6_lower 1 = .ok (.getfield 25, 3) := by decide +kernel
theorem dX6_lower_4 : decode cX6_lower 4 = .ok (.lreturn, 1) := by decide +kernel
theorem dX6_thereOf_0 : decode cX6_thereOf 0 = .ok (.iconst 0, 1) := by decide +kernel
theorem dX6_thereOf_1 : decode cX6_thereOf 1 = .ok (.istore_n 1, 1) := by decide +kernel
theorem dX6_thereOf_2 : decode cX6_thereOf 2 = .ok (.aload_n 0, 1) := by decide +kernel
theorem dX6_thereOf_3 : decode cX6_thereOf 3 = .ok (.astore_n 2, 1) := by decide +kernel
theorem dX6_thereOf_4 : decode cX6_thereOf 4 = .ok (.aload_n 2, 1) := by decide +kernel
theorem dX6_thereOf_5 : decode cX6_thereOf 5 = .ok (.arraylength, 1) := by decide +kernel
theorem dX6_thereOf_6 : decode cX6_thereOf 6 = .ok (.istore_n 3, 1) := by decide +kernel
theorem dX6_thereOf_7 : decode cX6_thereOf 7 = .ok (.iconst 0, 1) := by decide +kernel
theorem dX6_thereOf_8 : decode cX6_thereOf 8 = .ok (.istore 4, 2) := by decide +kernel
theorem dX6_thereOf_10 : decode cX6_thereOf 10 = .ok (.iload 4, 2) := by decide +kernel
theorem dX6_thereOf_12 : decode cX6_thereOf 12 = .ok (.iload_n 3, 1) := by decide +kernel
theorem dX6_thereOf_13 : decode cX6_thereOf 13 = .ok (.if_icmp .ge 28, 3) := by decide +kernel
theorem dX6_thereOf_16 : decode cX6_thereOf 16 = .ok (.aload_n 2, 1) := by decide +kernel
theorem dX6_thereOf_17 : decode cX6_thereOf 17 = .ok (.iload 4, 2) := by decide +kernel
theorem dX6_thereOf_19 : decode cX6_thereOf 19 = .ok (.iaload, 1) := by decide +kernel
theorem dX6_thereOf_20 : decode cX6_thereOf 20 = .ok (.istore 5, 2) := by decide +kernel
theorem dX6_thereOf_22 : decode cX6_thereOf 22 = .ok (.iload_n 1, 1) := by decide +kernel
theorem dX6_thereOf_23 : decode cX6_thereOf 23 = .ok (.iload 5, 2) := by decide +kernel
theorem dX6_thereOf_25 : decode cX6_thereOf 25 = .ok (.ifCond .ge 7, 3) := by decide +kernel
theorem dX6_thereOf_28 : decode cX6_thereOf 28 = .ok (.iconst 0, 1) := by decide +kernel
theorem dX6_thereOf_29 : decode cX6_thereOf 29 = .ok (.goto 4, 3) := by decide +kernel
theorem dX6_thereOf_32 : decode cX6_thereOf 32 = .ok (.iconst 1, 1) := by decide +kernel
theorem dX6_thereOf_33 : decode cX6_thereOf 33 = .ok (.iadd, 1) := by decide +kernel
theorem dX6_thereOf_34 : decode cX6_thereOf 34 = .ok (.istore_n 1, 1) := by decide +kernel
theorem dX6_thereOf_35 : decode cX6_thereOf 35 = .ok (.iinc 4 1, 3) := by decide +kernel
theorem dX6_thereOf_38 : decode cX6_thereOf 38 = .ok (.goto (-28), 3) := by decide +kernel
theorem dX6_thereOf_41 : decode cX6_thereOf 41 = .ok (.iload_n 1, 1) := by decide +kernel
theorem dX6_thereOf_42 : decode cX6_thereOf 42 = .ok (.ireturn, 1) := by decide +kernel
theorem dX6_kindMany_0 : decode cX6_kindMany 0 = .ok (.iconst 0, 1) := by decide +kernel
theorem dX6_kindMany_1 : decode cX6_kindMany 1 = .ok (.istore_n 2, 1) := by decide +kernel
theorem dX6_kindMany_2 : decode cX6_kindMany 2 = .ok (.iconst 0, 1) := by decide +kernel
theorem dX6_kindMany_3 : decode cX6_kindMany 3 = .ok (.istore_n 3, 1) := by decide +kernel
theorem dX6_kindMany_4 : decode cX6_kindMany 4 = .ok (.iload_n 3, 1) := by decide +kernel
theorem dX6_kindMany_5 : decode cX6_kindMany 5 = .ok (.aload_n 0, 1) := by decide +kernel
theorem dX6_kindMany_6 : decode cX6_kindMany 6 = .ok (.getfield 66, 3) := by decide +kernel
theorem dX6_kindMany_9 : decode cX6_kindMany 9 = .ok (.if_icmp .ge 30, 3) := by decide +kernel
theorem dX6_kindMany_12 : decode cX6_kindMany 12 = .ok (.iload_n 2, 1) := by decide +kernel
theorem dX6_kindMany_13 : decode cX6_kindMany 13 = .ok (.aload_n 0, 1) := by decide +kernel
theorem dX6_kindMany_14 : decode cX6_kindMany 14 = .ok (.getfield 32, 3) := by decide +kernel
theorem dX6_kindMany_17 : decode cX6_kindMany 17 = .ok (.iload_n 3, 1) := by decide +kernel
theorem dX6_kindMany_18 : decode cX6_kindMany 18 = .ok (.iaload, 1) := by decide +kernel
theorem dX6_kindMany_19 : decode cX6_kindMany 19 = .ok (.iload_n 1, 1) := by decide +kernel
theorem dX6_kindMany_20 : decode cX6_kindMany 20 = .ok (.invokestatic 156, 3) := by decide +kernel
theorem dX6_kindMany_23 : decode cX6_kindMany 23 = .ok (.ifCond .eq 7, 3) := by decide +kernel
theorem dX6_kindMany_26 : decode cX6_kindMany 26 = .ok (.iconst 1, 1) := by decide +kernel
theorem dX6_kindMany_27 : decode cX6_kindMany 27 = .ok (.goto 4, 3) := by decide +kernel
theorem dX6_kindMany_30 : decode cX6_kindMany 30 = .ok (.iconst 0, 1) := by decide +kernel
theorem dX6_kindMany_31 : decode cX6_kindMany 31 = .ok (.iadd, 1) := by decide +kernel
theorem dX6_kindMany_32 : decode cX6_kindMany 32 = .ok (.istore_n 2, 1) := by decide +kernel
theorem dX6_kindMany_33 : decode cX6_kindMany 33 = .ok (.iinc 3 1, 3) := by decide +kernel
theorem dX6_kindMany_36 : decode cX6_kindMany 36 = .ok (.goto (-32), 3) := by decide +kernel
theorem dX6_kindMany_39 : decode cX6_kindMany 39 = .ok (.iload_n 2, 1) := by decide +kernel
theorem dX6_kindMany_40 : decode cX6_kindMany 40 = .ok (.ireturn, 1) := by decide +kernel
theorem dX6_count_0 : decode cX6_count 0 = .ok (.iload_n 1, 1) := by decide +kernel
theorem dX6_count_1 : decode cX6_count 1 = .ok (.tableswitch 162 0 13 #[71, 76, 83, 90, 95, 102, 109, 114, 121, 127, 133, 141, 149, 157], 71) := by decide +kernel
theorem dX6_count_72 : decode cX6_count 72 = .ok (.aload_n 0, 1) := by decide +kernel
theorem dX6_count_73 : decode cX6_count 73 = .ok (.getfield 66, 3) := by decide +kernel
theorem dX6_count_76 : decode cX6_count 76 = .ok (.ireturn, 1) := by decide +kernel
theorem dX6_count_77 : decode cX6_count 77 = .ok (.aload_n 0, 1) := by decide +kernel
theorem dX6_count_78 : decode cX6_count 78 = .ok (.getfield 38, 3) := by decide +kernel
theorem dX6_count_81 : decode cX6_count 81 = .ok (.iconst 0, 1) := by decide +kernel
theorem dX6_count_82 : decode cX6_count 82 = .ok (.iaload, 1) := by decide +kernel
theorem dX6_count_83 : decode cX6_count 83 = .ok (.ireturn, 1) := by decide +kernel
theorem dX6_count_84 : decode cX6_count 84 = .ok (.aload_n 0, 1) := by decide +kernel
theorem dX6_count_85 : decode cX6_count 85 = .ok (.getfield 38, 3) := by decide +kernel
theorem dX6_count_88 : decode cX6_count 88 = .ok (.iconst 1, 1) := by decide +kernel
theorem dX6_count_89 : decode cX6_count 89 = .ok (.iaload, 1) := by decide +kernel
theorem dX6_count_90 : decode cX6_count 90 = .ok (.ireturn, 1) := by decide +kernel
theorem dX6_count_91 : decode cX6_count 91 = .ok (.aload_n 0, 1) := by decide +kernel
theorem dX6_count_92 : decode cX6_count 92 = .ok (.getfield 134, 3) := by decide +kernel
theorem dX6_count_95 : decode cX6_count 95 = .ok (.ireturn, 1) := by decide +kernel
theorem dX6_count_96 : decode cX6_count 96 = .ok (.aload_n 0, 1) := by decide +kernel
theorem dX6_count_97 : decode cX6_count 97 = .ok (.getfield 38, 3) := by decide +kernel
theorem dX6_count_100 : decode cX6_count 100 = .ok (.iconst 2, 1) := by decide +kernel
theorem dX6_count_101 : decode cX6_count 101 = .ok (.iaload, 1) := by decide +kernel
theorem dX6_count_102 : decode cX6_count 102 = .ok (.ireturn, 1) := by decide +kernel
theorem dX6_count_103 : decode cX6_count 103 = .ok (.aload_n 0, 1) := by decide +kernel
theorem dX6_count_104 : decode cX6_count 104 = .ok (.getfield 38, 3) := by decide +kernel
theorem dX6_count_107 : decode cX6_count 107 = .ok (.iconst 3, 1) := by decide +kernel
theorem dX6_count_108 : decode cX6_count 108 = .ok (.iaload, 1) := by decide +kernel
theorem dX6_count_109 : decode cX6_count 109 = .ok (.ireturn, 1) := by decide +kernel
theorem dX6_count_110 : decode cX6_count 110 = .ok (.aload_n 0, 1) := by decide +kernel
theorem dX6_count_111 : decode cX6_count 111 = .ok (.invokevirtual 163, 3) := by decide +kernel
theorem dX6_count_114 : decode cX6_count 114 = .ok (.ireturn, 1) := by decide +kernel
theorem dX6_count_115 : decode cX6_count 115 = .ok (.aload_n 0, 1) := by decide +kernel
theorem dX6_count_116 : decode cX6_count 116 = .ok (.getfield 38, 3) := by decide +kernel
theorem dX6_count_119 : decode cX6_count 119 = .ok (.iconst 4, 1) := by decide +kernel
theorem dX6_count_120 : decode cX6_count 120 = .ok (.iaload, 1) := by decide +kernel
theorem dX6_count_121 : decode cX6_count 121 = .ok (.ireturn, 1) := by decide +kernel
theorem dX6_count_122 : decode cX6_count 122 = .ok (.aload_n 0, 1) := by decide +kernel
theorem dX6_count_123 : decode cX6_count 123 = .ok (.iconst 1, 1) := by decide +kernel
theorem dX6_count_124 : decode cX6_count 124 = .ok (.invokevirtual 264, 3) := by decide +kernel
theorem dX6_count_127 : decode cX6_count 127 = .ok (.ireturn, 1) := by decide +kernel
theorem dX6_count_128 : decode cX6_count 128 = .ok (.aload_n 0, 1) := by decide +kernel
theorem dX6_count_129 : decode cX6_count 129 = .ok (.iconst 2, 1) := by decide +kernel
theorem dX6_count_130 : decode cX6_count 130 = .ok (.invokevirtual 264, 3) := by decide +kernel
theorem dX6_count_133 : decode cX6_count 133 = .ok (.ireturn, 1) := by decide +kernel
theorem dX6_count_134 : decode cX6_count 134 = .ok (.aload_n 0, 1) := by decide +kernel
theorem dX6_count_135 : decode cX6_count 135 = .ok (.getfield 7, 3) := by decide +kernel
theorem dX6_count_138 : decode cX6_count 138 = .ok (.invokestatic 267, 3) := by decide +kernel
theorem dX6_count_141 : decode cX6_count 141 = .ok (.ireturn, 1) := by decide +kernel
theorem dX6_count_142 : decode cX6_count 142 = .ok (.aload_n 0, 1) := by decide +kernel
theorem dX6_count_143 : decode cX6_count 143 = .ok (.getfield 16, 3) := by decide +kernel
theorem dX6_count_146 : decode cX6_count 146 = .ok (.invokestatic 267, 3) := by decide +kernel
theorem dX6_count_149 : decode cX6_count 149 = .ok (.ireturn, 1) := by decide +kernel
theorem dX6_count_150 : decode cX6_count 150 = .ok (.aload_n 0, 1) := by decide +kernel
theorem dX6_count_151 : decode cX6_count 151 = .ok (.getfield 50, 3) := by decide +kernel
theorem dX6_count_154 : decode cX6_count 154 = .ok (.invokestatic 267, 3) := by decide +kernel
theorem dX6_count_157 : decode cX6_count 157 = .ok (.ireturn, 1) := by decide +kernel
theorem dX6_count_158 : decode cX6_count 158 = .ok (.aload_n 0, 1) := by decide +kernel
theorem dX6_count_159 : decode cX6_count 159 = .ok (.getfield 131, 3) := by decide +kernel
theorem dX6_count_162 : decode cX6_count 162 = .ok (.ireturn, 1) := by decide +kernel
theorem dX6_count_163 : decode cX6_count 163 = .ok (.iconst (-1), 1) := by decide +kernel
theorem dX6_count_164 : decode cX6_count 164 = .ok (.ireturn, 1) := by decide +kernel
theorem dX6_finding_0 : decode cX6_finding 0 = .ok (.aload_n 0, 1) := by decide +kernel
theorem dX6_finding_1 : decode cX6_finding 1 = .ok (.getfield 59, 3) := by decide +kernel
theorem dX6_finding_4 : decode cX6_finding 4 = .ok (.ireturn, 1) := by decide +kernel
theorem dX6_findings_0 : decode cX6_findings 0 = .ok (.iload_n 1, 1) := by decide +kernel
theorem dX6_findings_1 : decode cX6_findings 1 = .ok (.iconst 1, 1) := by decide +kernel
theorem dX6_findings_2 : decode cX6_findings 2 = .ok (.iconst 5, 1) := by decide +kernel
theorem dX6_findings_3 : decode cX6_findings 3 = .ok (.invokestatic 69, 3) := by decide +kernel
theorem dX6_findings_6 : decode cX6_findings 6 = .ok (.ifCond .eq 12, 3) := by decide +kernel
theorem dX6_findings_9 : decode cX6_findings 9 = .ok (.aload_n 0, 1) := by decide +kernel
theorem dX6_findings_10 : decode cX6_findings 10 = .ok (.getfield 22, 3) := by decide +kernel
theorem dX6_findings_13 : decode cX6_findings 13 = .ok (.iload_n 1, 1) := by decide +kernel
theorem dX6_findings_14 : decode cX6_findings 14 = .ok (.iaload, 1) := by decide +kernel
theorem dX6_findings_15 : decode cX6_findings 15 = .ok (.goto 4, 3) := by decide +kernel
theorem dX6_findings_18 : decode cX6_findings 18 = .ok (.iconst (-1), 1) := by decide +kernel
theorem dX6_findings_19 : decode cX6_findings 19 = .ok (.ireturn, 1) := by decide +kernel
theorem dX6_digest_0 : decode cX6_digest 0 = .ok (.ldc2_w 271, 3) := by decide +kernel
theorem dX6_digest_3 : decode cX6_digest 3 = .ok (.lstore_n 1, 1) := by decide +kernel
theorem dX6_digest_4 : decode cX6_digest 4 = .ok (.iconst 0, 1) := by decide +kernel
theorem dX6_digest_5 : decode cX6_digest 5 = .ok (.istore_n 3, 1) := by decide +kernel
theorem dX6_digest_6 : decode cX6_digest 6 = .ok (.iload_n 3, 1) := by decide +kernel
theorem dX6_digest_7 : decode cX6_digest 7 = .ok (.bipush 14, 2) := by decide +kernel
theorem dX6_digest_9 : decode cX6_digest 9 = .ok (.if_icmp .ge 22, 3) := by decide +kernel
theorem dX6_digest_12 : decode cX6_digest 12 = .ok (.ldc2_w 273, 3) := by decide +kernel
theorem dX6_digest_15 : decode cX6_digest 15 = .ok (.lload_n 1, 1) := by decide +kernel
theorem dX6_digest_16 : decode cX6_digest 16 = .ok (.lmul, 1) := by decide +kernel
theorem dX6_digest_17 : decode cX6_digest 17 = .ok (.aload_n 0, 1) := by decide +kernel
theorem dX6_digest_18 : decode cX6_digest 18 = .ok (.iload_n 3, 1) := by decide +kernel
theorem dX6_digest_19 : decode cX6_digest 19 = .ok (.invokevirtual 275, 3) := by decide +kernel
theorem dX6_digest_22 : decode cX6_digest 22 = .ok (.i2l, 1) := by decide +kernel
theorem dX6_digest_23 : decode cX6_digest 23 = .ok (.ladd, 1) := by decide +kernel
theorem dX6_digest_24 : decode cX6_digest 24 = .ok (.lstore_n 1, 1) := by decide +kernel
theorem dX6_digest_25 : decode cX6_digest 25 = .ok (.iinc 3 1, 3) := by decide +kernel
theorem dX6_digest_28 : decode cX6_digest 28 = .ok (.goto (-22), 3) := by decide +kernel
theorem dX6_digest_31 : decode cX6_digest 31 = .ok (.iconst 0, 1) := by decide +kernel
theorem dX6_digest_32 : decode cX6_digest 32 = .ok (.istore_n 3, 1) := by decide +kernel
theorem dX6_digest_33 : decode cX6_digest 33 = .ok (.iload_n 3, 1) := by decide +kernel
theorem dX6_digest_34 : decode cX6_digest 34 = .ok (.aload_n 0, 1) := by decide +kernel
theorem dX6_digest_35 : decode cX6_digest 35 = .ok (.getfield 66, 3) := by decide +kernel
theorem dX6_digest_38 : decode cX6_digest 38 = .ok (.if_icmp .ge 40, 3) := by decide +kernel
theorem dX6_digest_41 : decode cX6_digest 41 = .ok (.iconst 0, 1) := by decide +kernel
theorem dX6_digest_42 : decode cX6_digest 42 = .ok (.istore 4, 2) := by decide +kernel
theorem dX6_digest_44 : decode cX6_digest 44 = .ok (.iload 4, 2) := by decide +kernel
theorem dX6_digest_46 : decode cX6_digest 46 = .ok (.bipush 6, 2) := by decide +kernel
theorem dX6_digest_48 : decode cX6_digest 48 = .ok (.if_icmp .ge 24, 3) := by decide +kernel
theorem dX6_digest_51 : decode cX6_digest 51 = .ok (.ldc2_w 273, 3) := by decide +kernel
theorem dX6_digest_54 : decode cX6_digest 54 = .ok (.lload_n 1, 1) := by decide +kernel
theorem dX6_digest_55 : decode cX6_digest 55 = .ok (.lmul, 1) := by decide +kernel
theorem dX6_digest_56 : decode cX6_digest 56 = .ok (.aload_n 0, 1) := by decide +kernel
theorem dX6_digest_57 : decode cX6_digest 57 = .ok (.iload_n 3, 1) := by decide +kernel
theorem dX6_digest_58 : decode cX6_digest 58 = .ok (.iload 4, 2) := by decide +kernel
theorem dX6_digest_60 : decode cX6_digest 60 = .ok (.invokevirtual 153, 3) := by decide +kernel
theorem dX6_digest_63 : decode cX6_digest 63 = .ok (.i2l, 1) := by decide +kernel
theorem dX6_digest_64 : decode cX6_digest 64 = .ok (.ladd, 1) := by decide +kernel
theorem dX6_digest_65 : decode cX6_digest 65 = .ok (.lstore_n 1, 1) := by decide +kernel
theorem dX6_digest_66 : decode cX6_digest 66 = .ok (.iinc 4 1, 3) := by decide +kernel
theorem dX6_digest_69 : decode cX6_digest 69 = .ok (.goto (-25), 3) := by decide +kernel
theorem dX6_digest_72 : decode cX6_digest 72 = .ok (.iinc 3 1, 3) := by decide +kernel
theorem dX6_digest_75 : decode cX6_digest 75 = .ok (.goto (-42), 3) := by decide +kernel
theorem dX6_digest_78 : decode cX6_digest 78 = .ok (.iconst 0, 1) := by decide +kernel
theorem dX6_digest_79 : decode cX6_digest 79 = .ok (.istore_n 3, 1) := by decide +kernel
theorem dX6_digest_80 : decode cX6_digest 80 = .ok (.iload_n 3, 1) := by decide +kernel
theorem dX6_digest_81 : decode cX6_digest 81 = .ok (.iconst 3, 1) := by decide +kernel
theorem dX6_digest_82 : decode cX6_digest 82 = .ok (.if_icmp .ge 23, 3) := by decide +kernel
theorem dX6_digest_85 : decode cX6_digest 85 = .ok (.ldc2_w 273, 3) := by decide +kernel
theorem dX6_digest_88 : decode cX6_digest 88 = .ok (.lload_n 1, 1) := by decide +kernel
theorem dX6_digest_89 : decode cX6_digest 89 = .ok (.lmul, 1) := by decide +kernel
theorem dX6_digest_90 : decode cX6_digest 90 = .ok (.aload_n 0, 1) := by decide +kernel
theorem dX6_digest_91 : decode cX6_digest 91 = .ok (.getfield 50, 3) := by decide +kernel
theorem dX6_digest_94 : decode cX6_digest 94 = .ok (.iload_n 3, 1) := by decide +kernel
theorem dX6_digest_95 : decode cX6_digest 95 = .ok (.iaload, 1) := by decide +kernel
theorem dX6_digest_96 : decode cX6_digest 96 = .ok (.i2l, 1) := by decide +kernel
theorem dX6_digest_97 : decode cX6_digest 97 = .ok (.ladd, 1) := by decide +kernel
theorem dX6_digest_98 : decode cX6_digest 98 = .ok (.lstore_n 1, 1) := by decide +kernel
theorem dX6_digest_99 : decode cX6_digest 99 = .ok (.iinc 3 1, 3) := by decide +kernel
theorem dX6_digest_102 : decode cX6_digest 102 = .ok (.goto (-22), 3) := by decide +kernel
theorem dX6_digest_105 : decode cX6_digest 105 = .ok (.iconst 0, 1) := by decide +kernel
theorem dX6_digest_106 : decode cX6_digest 106 = .ok (.istore_n 3, 1) := by decide +kernel
theorem dX6_digest_107 : decode cX6_digest 107 = .ok (.iload_n 3, 1) := by decide +kernel
theorem dX6_digest_108 : decode cX6_digest 108 = .ok (.bipush 6, 2) := by decide +kernel
theorem dX6_digest_110 : decode cX6_digest 110 = .ok (.if_icmp .ge 63, 3) := by decide +kernel
theorem dX6_digest_113 : decode cX6_digest 113 = .ok (.ldc2_w 273, 3) := by decide +kernel
theorem dX6_digest_116 : decode cX6_digest 116 = .ok (.lload_n 1, 1) := by decide +kernel
theorem dX6_digest_117 : decode cX6_digest 117 = .ok (.lmul, 1) := by decide +kernel
theorem dX6_digest_118 : decode cX6_digest 118 = .ok (.aload_n 0, 1) := by decide +kernel
theorem dX6_digest_119 : decode cX6_digest 119 = .ok (.getfield 7, 3) := by decide +kernel
theorem dX6_digest_122 : decode cX6_digest 122 = .ok (.iload_n 3, 1) := by decide +kernel
theorem dX6_digest_123 : decode cX6_digest 123 = .ok (.iaload, 1) := by decide +kernel
theorem dX6_digest_124 : decode cX6_digest 124 = .ok (.i2l, 1) := by decide +kernel
theorem dX6_digest_125 : decode cX6_digest 125 = .ok (.ladd, 1) := by decide +kernel
theorem dX6_digest_126 : decode cX6_digest 126 = .ok (.lstore_n 1, 1) := by decide +kernel
theorem dX6_digest_127 : decode cX6_digest 127 = .ok (.iconst 0, 1) := by decide +kernel
theorem dX6_digest_128 : decode cX6_digest 128 = .ok (.istore 4, 2) := by decide +kernel
theorem dX6_digest_130 : decode cX6_digest 130 = .ok (.iload 4, 2) := by decide +kernel
theorem dX6_digest_132 : decode cX6_digest 132 = .ok (.aload_n 0, 1) := by decide +kernel
theorem dX6_digest_133 : decode cX6_digest 133 = .ok (.getfield 7, 3) := by decide +kernel
theorem dX6_digest_136 : decode cX6_digest 136 = .ok (.iload_n 3, 1) := by decide +kernel
theorem dX6_digest_137 : decode cX6_digest 137 = .ok (.iaload, 1) := by decide +kernel
theorem dX6_digest_138 : decode cX6_digest 138 = .ok (.if_icmp .ge 29, 3) := by decide +kernel
theorem dX6_digest_141 : decode cX6_digest 141 = .ok (.ldc2_w 273, 3) := by decide +kernel
theorem dX6_digest_144 : decode cX6_digest 144 = .ok (.lload_n 1, 1) := by decide +kernel
theorem dX6_digest_145 : decode cX6_digest 145 = .ok (.lmul, 1) := by decide +kernel
theorem dX6_digest_146 : decode cX6_digest 146 = .ok (.aload_n 0, 1) := by decide +kernel
theorem dX6_digest_147 : decode cX6_digest 147 = .ok (.getfield 13, 3) := by decide +kernel
theorem dX6_digest_150 : decode cX6_digest 150 = .ok (.bipush 40, 2) := by decide +kernel
theorem dX6_digest_152 : decode cX6_digest 152 = .ok (.iload_n 3, 1) := by decide +kernel
theorem dX6_digest_153 : decode cX6_digest 153 = .ok (.imul, 1) := by decide +kernel
theorem dX6_digest_154 : decode cX6_digest 154 = .ok (.iload 4, 2) := by decide +kernel
theorem dX6_digest_156 : decode cX6_digest 156 = .ok (.iadd, 1) := by decide +kernel
theorem dX6_digest_157 : decode cX6_digest 157 = .ok (.iaload, 1) := by decide +kernel
theorem dX6_digest_158 : decode cX6_digest 158 = .ok (.i2l, 1) := by decide +kernel
theorem dX6_digest_159 : decode cX6_digest 159 = .ok (.ladd, 1) := by decide +kernel
theorem dX6_digest_160 : decode cX6_digest 160 = .ok (.lstore_n 1, 1) := by decide +kernel
theorem dX6_digest_161 : decode cX6_digest 161 = .ok (.iinc 4 1, 3) := by decide +kernel
theorem dX6_digest_164 : decode cX6_digest 164 = .ok (.goto (-34), 3) := by decide +kernel
theorem dX6_digest_167 : decode cX6_digest 167 = .ok (.iinc 3 1, 3) := by decide +kernel
theorem dX6_digest_170 : decode cX6_digest 170 = .ok (.goto (-63), 3) := by decide +kernel
theorem dX6_digest_173 : decode cX6_digest 173 = .ok (.iconst 0, 1) := by decide +kernel
theorem dX6_digest_174 : decode cX6_digest 174 = .ok (.istore_n 3, 1) := by decide +kernel
theorem dX6_digest_175 : decode cX6_digest 175 = .ok (.iload_n 3, 1) := by decide +kernel
theorem dX6_digest_176 : decode cX6_digest 176 = .ok (.iconst 4, 1) := by decide +kernel
theorem dX6_digest_177 : decode cX6_digest 177 = .ok (.if_icmp .ge 63, 3) := by decide +kernel
theorem dX6_digest_180 : decode cX6_digest 180 = .ok (.ldc2_w 273, 3) := by decide +kernel
theorem dX6_digest_183 : decode cX6_digest 183 = .ok (.lload_n 1, 1) := by decide +kernel
theorem dX6_digest_184 : decode cX6_digest 184 = .ok (.lmul, 1) := by decide +kernel
theorem dX6_digest_185 : decode cX6_digest 185 = .ok (.aload_n 0, 1) := by decide +kernel
theorem dX6_digest_186 : decode cX6_digest 186 = .ok (.getfield 16, 3) := by decide +kernel
theorem dX6_digest_189 : decode cX6_digest 189 = .ok (.iload_n 3, 1) := by decide +kernel
theorem dX6_digest_190 : decode cX6_digest 190 = .ok (.iaload, 1) := by decide +kernel
theorem dX6_digest_191 : decode cX6_digest 191 = .ok (.i2l, 1) := by decide +kernel
theorem dX6_digest_192 : decode cX6_digest 192 = .ok (.ladd, 1) := by decide +kernel
theorem dX6_digest_193 : decode cX6_digest 193 = .ok (.lstore_n 1, 1) := by decide +kernel
theorem dX6_digest_194 : decode cX6_digest 194 = .ok (.iconst 0, 1) := by decide +kernel
theorem dX6_digest_195 : decode cX6_digest 195 = .ok (.istore 4, 2) := by decide +kernel
theorem dX6_digest_197 : decode cX6_digest 197 = .ok (.iload 4, 2) := by decide +kernel
theorem dX6_digest_199 : decode cX6_digest 199 = .ok (.aload_n 0, 1) := by decide +kernel
theorem dX6_digest_200 : decode cX6_digest 200 = .ok (.getfield 16, 3) := by decide +kernel
theorem dX6_digest_203 : decode cX6_digest 203 = .ok (.iload_n 3, 1) := by decide +kernel
theorem dX6_digest_204 : decode cX6_digest 204 = .ok (.iaload, 1) := by decide +kernel
theorem dX6_digest_205 : decode cX6_digest 205 = .ok (.if_icmp .ge 29, 3) := by decide +kernel
theorem dX6_digest_208 : decode cX6_digest 208 = .ok (.ldc2_w 273, 3) := by decide +kernel
theorem dX6_digest_211 : decode cX6_digest 211 = .ok (.lload_n 1, 1) := by decide +kernel
theorem dX6_digest_212 : decode cX6_digest 212 = .ok (.lmul, 1) := by decide +kernel
theorem dX6_digest_213 : decode cX6_digest 213 = .ok (.aload_n 0, 1) := by decide +kernel
theorem dX6_digest_214 : decode cX6_digest 214 = .ok (.getfield 19, 3) := by decide +kernel
theorem dX6_digest_217 : decode cX6_digest 217 = .ok (.bipush 60, 2) := by decide +kernel
theorem dX6_digest_219 : decode cX6_digest 219 = .ok (.iload_n 3, 1) := by decide +kernel
theorem dX6_digest_220 : decode cX6_digest 220 = .ok (.imul, 1) := by decide +kernel
theorem dX6_digest_221 : decode cX6_digest 221 = .ok (.iload 4, 2) := by decide +kernel
theorem dX6_digest_223 : decode cX6_digest 223 = .ok (.iadd, 1) := by decide +kernel
theorem dX6_digest_224 : decode cX6_digest 224 = .ok (.iaload, 1) := by decide +kernel
theorem dX6_digest_225 : decode cX6_digest 225 = .ok (.i2l, 1) := by decide +kernel
theorem dX6_digest_226 : decode cX6_digest 226 = .ok (.ladd, 1) := by decide +kernel
theorem dX6_digest_227 : decode cX6_digest 227 = .ok (.lstore_n 1, 1) := by decide +kernel
theorem dX6_digest_228 : decode cX6_digest 228 = .ok (.iinc 4 1, 3) := by decide +kernel
theorem dX6_digest_231 : decode cX6_digest 231 = .ok (.goto (-34), 3) := by decide +kernel
theorem dX6_digest_234 : decode cX6_digest 234 = .ok (.iinc 3 1, 3) := by decide +kernel
theorem dX6_digest_237 : decode cX6_digest 237 = .ok (.goto (-62), 3) := by decide +kernel
theorem dX6_digest_240 : decode cX6_digest 240 = .ok (.lload_n 1, 1) := by decide +kernel
theorem dX6_digest_241 : decode cX6_digest 241 = .ok (.lreturn, 1) := by decide +kernel
end
section
theorem dL_law_0 : decode cL_law 0 = .ok (.new 7, 3) := by decide +kernel
theorem dL_law_3 : decode cL_law 3 = .ok (.dup, 1) := by decide +kernel
theorem dL_law_4 : decode cL_law 4 = .ok (.invokespecial 9, 3) := by decide +kernel
theorem dL_law_7 : decode cL_law 7 = .ok (.astore_n 1, 1) := by decide +kernel
theorem dL_law_8 : decode cL_law 8 = .ok (.new 10, 3) := by decide +kernel
theorem dL_law_11 : decode cL_law 11 = .ok (.dup, 1) := by decide +kernel
theorem dL_law_12 : decode cL_law 12 = .ok (.invokespecial 12, 3) := by decide +kernel
theorem dL_law_15 : decode cL_law 15 = .ok (.astore_n 2, 1) := by decide +kernel
theorem dL_law_16 : decode cL_law 16 = .ok (.iconst 0, 1) := by decide +kernel
theorem dL_law_17 : decode cL_law 17 = .ok (.istore_n 3, 1) := by decide +kernel
theorem dL_law_18 : decode cL_law 18 = .ok (.iload_n 3, 1) := by decide +kernel
theorem dL_law_19 : decode cL_law 19 = .ok (.aload_n 0, 1) := by decide +kernel
theorem dL_law_20 : decode cL_law 20 = .ok (.arraylength, 1) := by decide +kernel
theorem dL_law_21 : decode cL_law 21 = .ok (.bipush 6, 2) := by decide +kernel
theorem dL_law_23 : decode cL_law 23 = .ok (.isub, 1) := by decide +kernel
theorem dL_law_24 : decode cL_law 24 = .ok (.if_icmp .gt 1351, 3) := by decide +kernel
theorem dL_law_27 : decode cL_law 27 = .ok (.aload_n 0, 1) := by decide +kernel
theorem dL_law_28 : decode cL_law 28 = .ok (.iload_n 3, 1) := by decide +kernel
theorem dL_law_29 : decode cL_law 29 = .ok (.iaload, 1) := by decide +kernel
theorem dL_law_30 : decode cL_law 30 = .ok (.bipush 63, 2) := by decide +kernel
theorem dL_law_32 : decode cL_law 32 = .ok (.iand, 1) := by decide +kernel
theorem dL_law_33 : decode cL_law 33 = .ok (.tableswitch 1336 0 43 #[191, 224, 267, 300, 323, 386, 409, 442, 485, 508, 531, 564, 597, 620, 633, 666, 689, 702, 725, 748, 771, 804, 827, 860, 873, 896, 929, 942, 965, 988, 1011, 1034, 1057, 1080, 1103, 1146, 1189, 1222, 1235, 1249, 1263, 1286, 1299, 1322], 191) := by decide +kernel
theorem dL_law_224 : decode cL_law 224 = .ok (.aload_n 1, 1) := by decide +kernel
theorem dL_law_225 : decode cL_law 225 = .ok (.aload_n 0, 1) := by decide +kernel
theorem dL_law_226 : decode cL_law 226 = .ok (.iload_n 3, 1) := by decide +kernel
theorem dL_law_227 : decode cL_law 227 = .ok (.iconst 1, 1) := by decide +kernel
theorem dL_law_228 : decode cL_law 228 = .ok (.iadd, 1) := by decide +kernel
theorem dL_law_229 : decode cL_law 229 = .ok (.iaload, 1) := by decide +kernel
theorem dL_law_230 : decode cL_law 230 = .ok (.aload_n 0, 1) := by decide +kernel
theorem dL_law_231 : decode cL_law 231 = .ok (.iload_n 3, 1) := by decide +kernel
theorem dL_law_232 : decode cL_law 232 = .ok (.iconst 2, 1) := by decide +kernel
theorem dL_law_233 : decode cL_law 233 = .ok (.iadd, 1) := by decide +kernel
theorem dL_law_234 : decode cL_law 234 = .ok (.iaload, 1) := by decide +kernel
theorem dL_law_235 : decode cL_law 235 = .ok (.invokevirtual 13, 3) := by decide +kernel
theorem dL_law_238 : decode cL_law 238 = .ok (.aload_n 2, 1) := by decide +kernel
theorem dL_law_239 : decode cL_law 239 = .ok (.aload_n 0, 1) := by decide +kernel
theorem dL_law_240 : decode cL_law 240 = .ok (.iload_n 3, 1) := by decide +kernel
theorem dL_law_241 : decode cL_law 241 = .ok (.iconst 1, 1) := by decide +kernel
theorem dL_law_242 : decode cL_law 242 = .ok (.iadd, 1) := by decide +kernel
theorem dL_law_243 : decode cL_law 243 = .ok (.iaload, 1) := by decide +kernel
theorem dL_law_244 : decode cL_law 244 = .ok (.aload_n 0, 1) := by decide +kernel
theorem dL_law_245 : decode cL_law 245 = .ok (.iload_n 3, 1) := by decide +kernel
theorem dL_law_246 : decode cL_law 246 = .ok (.iconst 2, 1) := by decide +kernel
theorem dL_law_247 : decode cL_law 247 = .ok (.iadd, 1) := by decide +kernel
theorem dL_law_248 : decode cL_law 248 = .ok (.iaload, 1) := by decide +kernel
theorem dL_law_249 : decode cL_law 249 = .ok (.invokevirtual 17, 3) := by decide +kernel
theorem dL_law_252 : decode cL_law 252 = .ok (.if_icmp .eq 1117, 3) := by decide +kernel
theorem dL_law_255 : decode cL_law 255 = .ok (.iconst 0, 1) := by decide +kernel
theorem dL_law_256 : decode cL_law 256 = .ok (.ireturn, 1) := by decide +kernel
theorem dL_law_257 : decode cL_law 257 = .ok (.aload_n 1, 1) := by decide +kernel
theorem dL_law_258 : decode cL_law 258 = .ok (.aload_n 0, 1) := by decide +kernel
theorem dL_law_259 : decode cL_law 259 = .ok (.iload_n 3, 1) := by decide +kernel
theorem dL_law_260 : decode cL_law 260 = .ok (.iconst 1, 1) := by decide +kernel
theorem dL_law_261 : decode cL_law 261 = .ok (.iadd, 1) := by decide +kernel
theorem dL_law_262 : decode cL_law 262 = .ok (.iaload, 1) := by decide +kernel
theorem dL_law_263 : decode cL_law 263 = .ok (.aload_n 0, 1) := by decide +kernel
theorem dL_law_264 : decode cL_law 264 = .ok (.iload_n 3, 1) := by decide +kernel
theorem dL_law_265 : decode cL_law 265 = .ok (.iconst 2, 1) := by decide +kernel
theorem dL_law_266 : decode cL_law 266 = .ok (.iadd, 1) := by decide +kernel
theorem dL_law_267 : decode cL_law 267 = .ok (.iaload, 1) := by decide +kernel
theorem dL_law_268 : decode cL_law 268 = .ok (.aload_n 0, 1) := by decide +kernel
theorem dL_law_269 : decode cL_law 269 = .ok (.iload_n 3, 1) := by decide +kernel
theorem dL_law_270 : decode cL_law 270 = .ok (.iconst 3, 1) := by decide +kernel
theorem dL_law_271 : decode cL_law 271 = .ok (.iadd, 1) := by decide +kernel
theorem dL_law_272 : decode cL_law 272 = .ok (.iaload, 1) := by decide +kernel
theorem dL_law_273 : decode cL_law 273 = .ok (.invokevirtual 18, 3) := by decide +kernel
theorem dL_law_276 : decode cL_law 276 = .ok (.aload_n 2, 1) := by decide +kernel
theorem dL_law_277 : decode cL_law 277 = .ok (.aload_n 0, 1) := by decide +kernel
theorem dL_law_278 : decode cL_law 278 = .ok (.iload_n 3, 1) := by decide +kernel
theorem dL_law_279 : decode cL_law 279 = .ok (.iconst 1, 1) := by decide +kernel
theorem dL_law_280 : decode cL_law 280 = .ok (.iadd, 1) := by decide +kernel
theorem dL_law_281 : decode cL_law 281 = .ok (.iaload, 1) := by decide +kernel
theorem dL_law_282 : decode cL_law 282 = .ok (.aload_n 0, 1) := by decide +kernel
theorem dL_law_283 : decode cL_law 283 = .ok (.iload_n 3, 1) := by decide +kernel
theorem dL_law_284 : decode cL_law 284 = .ok (.iconst 2, 1) := by decide +kernel
theorem dL_law_285 : decode cL_law 285 = .ok (.iadd, 1) := by decide +kernel
theorem dL_law_286 : decode cL_law 286 = .ok (.iaload, 1) := by decide +kernel
theorem dL_law_287 : decode cL_law 287 = .ok (.aload_n 0, 1) := by decide +kernel
theorem dL_law_288 : decode cL_law 288 = .ok (.iload_n 3, 1) := by decide +kernel
theorem dL_law_289 : decode cL_law 289 = .ok (.iconst 3, 1) := by decide +kernel
theorem dL_law_290 : decode cL_law 290 = .ok (.iadd, 1) := by decide +kernel
theorem dL_law_291 : decode cL_law 291 = .ok (.iaload, 1) := by decide +kernel
theorem dL_law_292 : decode cL_law 292 = .ok (.invokevirtual 22, 3) := by decide +kernel
theorem dL_law_295 : decode cL_law 295 = .ok (.if_icmp .eq 1074, 3) := by decide +kernel
theorem dL_law_298 : decode cL_law 298 = .ok (.iconst 0, 1) := by decide +kernel
theorem dL_law_299 : decode cL_law 299 = .ok (.ireturn, 1) := by decide +kernel
theorem dL_law_300 : decode cL_law 300 = .ok (.aload_n 1, 1) := by decide +kernel
theorem dL_law_301 : decode cL_law 301 = .ok (.aload_n 0, 1) := by decide +kernel
theorem dL_law_302 : decode cL_law 302 = .ok (.iload_n 3, 1) := by decide +kernel
theorem dL_law_303 : decode cL_law 303 = .ok (.iconst 1, 1) := by decide +kernel
theorem dL_law_304 : decode cL_law 304 = .ok (.iadd, 1) := by decide +kernel
theorem dL_law_305 : decode cL_law 305 = .ok (.iaload, 1) := by decide +kernel
theorem dL_law_306 : decode cL_law 306 = .ok (.aload_n 0, 1) := by decide +kernel
theorem dL_law_307 : decode cL_law 307 = .ok (.iload_n 3, 1) := by decide +kernel
theorem dL_law_308 : decode cL_law 308 = .ok (.iconst 2, 1) := by decide +kernel
theorem dL_law_309 : decode cL_law 309 = .ok (.iadd, 1) := by decide +kernel
theorem dL_law_310 : decode cL_law 310 = .ok (.iaload, 1) := by decide +kernel
theorem dL_law_311 : decode cL_law 311 = .ok (.invokevirtual 23, 3) := by decide +kernel
theorem dL_law_314 : decode cL_law 314 = .ok (.aload_n 2, 1) := by decide +kernel
theorem dL_law_315 : decode cL_law 315 = .ok (.aload_n 0, 1) := by decide +kernel
theorem dL_law_316 : decode cL_law 316 = .ok (.iload_n 3, 1) := by decide +kernel
theorem dL_law_317 : decode cL_law 317 = .ok (.iconst 1, 1) := by decide +kernel
theorem dL_law_318 : decode cL_law 318 = .ok (.iadd, 1) := by decide +kernel
theorem dL_law_319 : decode cL_law 319 = .ok (.iaload, 1) := by decide +kernel
theorem dL_law_320 : decode cL_law 320 = .ok (.aload_n 0, 1) := by decide +kernel
theorem dL_law_321 : decode cL_law 321 = .ok (.iload_n 3, 1) := by decide +kernel
theorem dL_law_322 : decode cL_law 322 = .ok (.iconst 2, 1) := by decide +kernel
theorem dL_law_323 : decode cL_law 323 = .ok (.iadd, 1) := by decide +kernel
theorem dL_law_324 : decode cL_law 324 = .ok (.iaload, 1) := by decide +kernel
theorem dL_law_325 : decode cL_law 325 = .ok (.invokevirtual 26, 3) := by decide +kernel
theorem dL_law_328 : decode cL_law 328 = .ok (.if_icmp .eq 1041, 3) := by decide +kernel
theorem dL_law_331 : decode cL_law 331 = .ok (.iconst 0, 1) := by decide +kernel
theorem dL_law_332 : decode cL_law 332 = .ok (.ireturn, 1) := by decide +kernel
theorem dL_law_333 : decode cL_law 333 = .ok (.aload_n 1, 1) := by decide +kernel
theorem dL_law_334 : decode cL_law 334 = .ok (.aload_n 0, 1) := by decide +kernel
theorem dL_law_335 : decode cL_law 335 = .ok (.iload_n 3, 1) := by decide +kernel
theorem dL_law_336 : decode cL_law 336 = .ok (.iconst 1, 1) := by decide +kernel
theorem dL_law_337 : decode cL_law 337 = .ok (.iadd, 1) := by decide +kernel
theorem dL_law_338 : decode cL_law 338 = .ok (.iaload, 1) := by decide +kernel
theorem dL_law_339 : decode cL_law 339 = .ok (.invokevirtual 27, 3) := by decide +kernel
theorem dL_law_342 : decode cL_law 342 = .ok (.aload_n 2, 1) := by decide +kernel
theorem dL_law_343 : decode cL_law 343 = .ok (.aload_n 0, 1) := by decide +kernel
theorem dL_law_344 : decode cL_law 344 = .ok (.iload_n 3, 1) := by decide +kernel
theorem dL_law_345 : decode cL_law 345 = .ok (.iconst 1, 1) := by decide +kernel
theorem dL_law_346 : decode cL_law 346 = .ok (.iadd, 1) := by decide +kernel
theorem dL_law_347 : decode cL_law 347 = .ok (.iaload, 1) := by decide +kernel
theorem dL_law_348 : decode cL_law 348 = .ok (.invokevirtual 31, 3) := by decide +kernel
theorem dL_law_351 : decode cL_law 351 = .ok (.if_icmp .eq 1018, 3) := by decide +kernel
theorem dL_law_354 : decode cL_law 354 = .ok (.iconst 0, 1) := by decide +kernel
theorem dL_law_355 : decode cL_law 355 = .ok (.ireturn, 1) := by decide +kernel
theorem dL_law_356 : decode cL_law 356 = .ok (.aload_n 1, 1) := by decide +kernel
theorem dL_law_357 : decode cL_law 357 = .ok (.aload_n 0, 1) := by decide +kernel
theorem dL_law_358 : decode cL_law 358 = .ok (.iload_n 3, 1) := by decide +kernel
theorem dL_law_359 : decode cL_law 359 = .ok (.iconst 1, 1) := by decide +kernel
theorem dL_law_360 : decode cL_law 360 = .ok (.iadd, 1) := by decide +kernel
theorem dL_law_361 : decode cL_law 361 = .ok (.iaload, 1) := by decide +kernel
theorem dL_law_362 : decode cL_law 362 = .ok (.aload_n 0, 1) := by decide +kernel
theorem dL_law_363 : decode cL_law 363 = .ok (.iload_n 3, 1) := by decide +kernel
theorem dL_law_364 : decode cL_law 364 = .ok (.iconst 2, 1) := by decide +kernel
theorem dL_law_365 : decode cL_law 365 = .ok (.iadd, 1) := by decide +kernel
theorem dL_law_366 : decode cL_law 366 = .ok (.iaload, 1) := by decide +kernel
theorem dL_law_367 : decode cL_law 367 = .ok (.aload_n 0, 1) := by decide +kernel
theorem dL_law_368 : decode cL_law 368 = .ok (.iload_n 3, 1) := by decide +kernel
theorem dL_law_369 : decode cL_law 369 = .ok (.iconst 3, 1) := by decide +kernel
theorem dL_law_370 : decode cL_law 370 = .ok (.iadd, 1) := by decide +kernel
theorem dL_law_371 : decode cL_law 371 = .ok (.iaload, 1) := by decide +kernel
theorem dL_law_372 : decode cL_law 372 = .ok (.aload_n 0, 1) := by decide +kernel
theorem dL_law_373 : decode cL_law 373 = .ok (.iload_n 3, 1) := by decide +kernel
theorem dL_law_374 : decode cL_law 374 = .ok (.iconst 4, 1) := by decide +kernel
theorem dL_law_375 : decode cL_law 375 = .ok (.iadd, 1) := by decide +kernel
theorem dL_law_376 : decode cL_law 376 = .ok (.iaload, 1) := by decide +kernel
theorem dL_law_377 : decode cL_law 377 = .ok (.aload_n 0, 1) := by decide +kernel
theorem dL_law_378 : decode cL_law 378 = .ok (.iload_n 3, 1) := by decide +kernel
theorem dL_law_379 : decode cL_law 379 = .ok (.iconst 5, 1) := by decide +kernel
theorem dL_law_380 : decode cL_law 380 = .ok (.iadd, 1) := by decide +kernel
theorem dL_law_381 : decode cL_law 381 = .ok (.iaload, 1) := by decide +kernel
theorem dL_law_382 : decode cL_law 382 = .ok (.invokevirtual 32, 3) := by decide +kernel
theorem dL_law_385 : decode cL_law 385 = .ok (.aload_n 2, 1) := by decide +kernel
theorem dL_law_386 : decode cL_law 386 = .ok (.aload_n 0, 1) := by decide +kernel
theorem dL_law_387 : decode cL_law 387 = .ok (.iload_n 3, 1) := by decide +kernel
theorem dL_law_388 : decode cL_law 388 = .ok (.iconst 1, 1) := by decide +kernel
theorem dL_law_389 : decode cL_law 389 = .ok (.iadd, 1) := by decide +kernel
theorem dL_law_390 : decode cL_law 390 = .ok (.iaload, 1) := by decide +kernel
theorem dL_law_391 : decode cL_law 391 = .ok (.aload_n 0, 1) := by decide +kernel
theorem dL_law_392 : decode cL_law 392 = .ok (.iload_n 3, 1) := by decide +kernel
theorem dL_law_393 : decode cL_law 393 = .ok (.iconst 2, 1) := by decide +kernel
theorem dL_law_394 : decode cL_law 394 = .ok (.iadd, 1) := by decide +kernel
theorem dL_law_395 : decode cL_law 395 = .ok (.iaload, 1) := by decide +kernel
theorem dL_law_396 : decode cL_law 396 = .ok (.aload_n 0, 1) := by decide +kernel
theorem dL_law_397 : decode cL_law 397 = .ok (.iload_n 3, 1) := by decide +kernel
theorem dL_law_398 : decode cL_law 398 = .ok (.iconst 3, 1) := by decide +kernel
theorem dL_law_399 : decode cL_law 399 = .ok (.iadd, 1) := by decide +kernel
theorem dL_law_400 : decode cL_law 400 = .ok (.iaload, 1) := by decide +kernel
theorem dL_law_401 : decode cL_law 401 = .ok (.aload_n 0, 1) := by decide +kernel
theorem dL_law_402 : decode cL_law 402 = .ok (.iload_n 3, 1) := by decide +kernel
theorem dL_law_403 : decode cL_law 403 = .ok (.iconst 4, 1) := by decide +kernel
theorem dL_law_404 : decode cL_law 404 = .ok (.iadd, 1) := by decide +kernel
theorem dL_law_405 : decode cL_law 405 = .ok (.iaload, 1) := by decide +kernel
theorem dL_law_406 : decode cL_law 406 = .ok (.aload_n 0, 1) := by decide +kernel
theorem dL_law_407 : decode cL_law 407 = .ok (.iload_n 3, 1) := by decide +kernel
theorem dL_law_408 : decode cL_law 408 = .ok (.iconst 5, 1) := by decide +kernel
theorem dL_law_409 : decode cL_law 409 = .ok (.iadd, 1) := by decide +kernel
theorem dL_law_410 : decode cL_law 410 = .ok (.iaload, 1) := by decide +kernel
theorem dL_law_411 : decode cL_law 411 = .ok (.invokevirtual 36, 3) := by decide +kernel
theorem dL_law_414 : decode cL_law 414 = .ok (.if_icmp .eq 955, 3) := by decide +kernel
theorem dL_law_417 : decode cL_law 417 = .ok (.iconst 0, 1) := by decide +kernel
theorem dL_law_418 : decode cL_law 418 = .ok (.ireturn, 1) := by decide +kernel
theorem dL_law_419 : decode cL_law 419 = .ok (.aload_n 1, 1) := by decide +kernel
theorem dL_law_420 : decode cL_law 420 = .ok (.aload_n 0, 1) := by decide +kernel
theorem dL_law_421 : decode cL_law 421 = .ok (.iload_n 3, 1) := by decide +kernel
theorem dL_law_422 : decode cL_law 422 = .ok (.iconst 1, 1) := by decide +kernel
theorem dL_law_423 : decode cL_law 423 = .ok (.iadd, 1) := by decide +kernel
theorem dL_law_424 : decode cL_law 424 = .ok (.iaload, 1) := by decide +kernel
theorem dL_law_425 : decode cL_law 425 = .ok (.invokevirtual 37, 3) := by decide +kernel
theorem dL_law_428 : decode cL_law 428 = .ok (.aload_n 2, 1) := by decide +kernel
theorem dL_law_429 : decode cL_law 429 = .ok (.aload_n 0, 1) := by decide +kernel
theorem dL_law_430 : decode cL_law 430 = .ok (.iload_n 3, 1) := by decide +kernel
theorem dL_law_431 : decode cL_law 431 = .ok (.iconst 1, 1) := by decide +kernel
theorem dL_law_432 : decode cL_law 432 = .ok (.iadd, 1) := by decide +kernel
theorem dL_law_433 : decode cL_law 433 = .ok (.iaload, 1) := by decide +kernel
theorem dL_law_434 : decode cL_law 434 = .ok (.invokevirtual 40, 3) := by decide +kernel
theorem dL_law_437 : decode cL_law 437 = .ok (.if_icmp .eq 932, 3) := by decide +kernel
theorem dL_law_440 : decode cL_law 440 = .ok (.iconst 0, 1) := by decide +kernel
theorem dL_law_441 : decode cL_law 441 = .ok (.ireturn, 1) := by decide +kernel
theorem dL_law_442 : decode cL_law 442 = .ok (.aload_n 1, 1) := by decide +kernel
theorem dL_law_443 : decode cL_law 443 = .ok (.aload_n 0, 1) := by decide +kernel
theorem dL_law_444 : decode cL_law 444 = .ok (.iload_n 3, 1) := by decide +kernel
theorem dL_law_445 : decode cL_law 445 = .ok (.iconst 1, 1) := by decide +kernel
theorem dL_law_446 : decode cL_law 446 = .ok (.iadd, 1) := by decide +kernel
theorem dL_law_447 : decode cL_law 447 = .ok (.iaload, 1) := by decide +kernel
theorem dL_law_448 : decode cL_law 448 = .ok (.aload_n 0, 1) := by decide +kernel
theorem dL_law_449 : decode cL_law 449 = .ok (.iload_n 3, 1) := by decide +kernel
theorem dL_law_450 : decode cL_law 450 = .ok (.iconst 2, 1) := by decide +kernel
theorem dL_law_451 : decode cL_law 451 = .ok (.iadd, 1) := by decide +kernel
theorem dL_law_452 : decode cL_law 452 = .ok (.iaload, 1) := by decide +kernel
theorem dL_law_453 : decode cL_law 453 = .ok (.invokevirtual 41, 3) := by decide +kernel
theorem dL_law_456 : decode cL_law 456 = .ok (.aload_n 2, 1) := by decide +kernel
theorem dL_law_457 : decode cL_law 457 = .ok (.aload_n 0, 1) := by decide +kernel
theorem dL_law_458 : decode cL_law 458 = .ok (.iload_n 3, 1) := by decide +kernel
theorem dL_law_459 : decode cL_law 459 = .ok (.iconst 1, 1) := by decide +kernel
theorem dL_law_460 : decode cL_law 460 = .ok (.iadd, 1) := by decide +kernel
theorem dL_law_461 : decode cL_law 461 = .ok (.iaload, 1) := by decide +kernel
theorem dL_law_462 : decode cL_law 462 = .ok (.aload_n 0, 1) := by decide +kernel
theorem dL_law_463 : decode cL_law 463 = .ok (.iload_n 3, 1) := by decide +kernel
theorem dL_law_464 : decode cL_law 464 = .ok (.iconst 2, 1) := by decide +kernel
theorem dL_law_465 : decode cL_law 465 = .ok (.iadd, 1) := by decide +kernel
theorem dL_law_466 : decode cL_law 466 = .ok (.iaload, 1) := by decide +kernel
theorem dL_law_467 : decode cL_law 467 = .ok (.invokevirtual 44, 3) := by decide +kernel
theorem dL_law_470 : decode cL_law 470 = .ok (.if_icmp .eq 899, 3) := by decide +kernel
theorem dL_law_473 : decode cL_law 473 = .ok (.iconst 0, 1) := by decide +kernel
theorem dL_law_474 : decode cL_law 474 = .ok (.ireturn, 1) := by decide +kernel
theorem dL_law_475 : decode cL_law 475 = .ok (.aload_n 1, 1) := by decide +kernel
theorem dL_law_476 : decode cL_law 476 = .ok (.aload_n 0, 1) := by decide +kernel
theorem dL_law_477 : decode cL_law 477 = .ok (.iload_n 3, 1) := by decide +kernel
theorem dL_law_478 : decode cL_law 478 = .ok (.iconst 1, 1) := by decide +kernel
theorem dL_law_479 : decode cL_law 479 = .ok (.iadd, 1) := by decide +kernel
theorem dL_law_480 : decode cL_law 480 = .ok (.iaload, 1) := by decide +kernel
theorem dL_law_481 : decode cL_law 481 = .ok (.aload_n 0, 1) := by decide +kernel
theorem dL_law_482 : decode cL_law 482 = .ok (.iload_n 3, 1) := by decide +kernel
theorem dL_law_483 : decode cL_law 483 = .ok (.iconst 2, 1) := by decide +kernel
theorem dL_law_484 : decode cL_law 484 = .ok (.iadd, 1) := by decide +kernel
theorem dL_law_485 : decode cL_law 485 = .ok (.iaload, 1) := by decide +kernel
theorem dL_law_486 : decode cL_law 486 = .ok (.aload_n 0, 1) := by decide +kernel
theorem dL_law_487 : decode cL_law 487 = .ok (.iload_n 3, 1) := by decide +kernel
theorem dL_law_488 : decode cL_law 488 = .ok (.iconst 3, 1) := by decide +kernel
theorem dL_law_489 : decode cL_law 489 = .ok (.iadd, 1) := by decide +kernel
theorem dL_law_490 : decode cL_law 490 = .ok (.iaload, 1) := by decide +kernel
theorem dL_law_491 : decode cL_law 491 = .ok (.invokevirtual 45, 3) := by decide +kernel
theorem dL_law_494 : decode cL_law 494 = .ok (.aload_n 2, 1) := by decide +kernel
theorem dL_law_495 : decode cL_law 495 = .ok (.aload_n 0, 1) := by decide +kernel
theorem dL_law_496 : decode cL_law 496 = .ok (.iload_n 3, 1) := by decide +kernel
theorem dL_law_497 : decode cL_law 497 = .ok (.iconst 1, 1) := by decide +kernel
theorem dL_law_498 : decode cL_law 498 = .ok (.iadd, 1) := by decide +kernel
theorem dL_law_499 : decode cL_law 499 = .ok (.iaload, 1) := by decide +kernel
theorem dL_law_500 : decode cL_law 500 = .ok (.aload_n 0, 1) := by decide +kernel
theorem dL_law_501 : decode cL_law 501 = .ok (.iload_n 3, 1) := by decide +kernel
theorem dL_law_502 : decode cL_law 502 = .ok (.iconst 2, 1) := by decide +kernel
theorem dL_law_503 : decode cL_law 503 = .ok (.iadd, 1) := by decide +kernel
theorem dL_law_504 : decode cL_law 504 = .ok (.iaload, 1) := by decide +kernel
theorem dL_law_505 : decode cL_law 505 = .ok (.aload_n 0, 1) := by decide +kernel
theorem dL_law_506 : decode cL_law 506 = .ok (.iload_n 3, 1) := by decide +kernel
theorem dL_law_507 : decode cL_law 507 = .ok (.iconst 3, 1) := by decide +kernel
theorem dL_law_508 : decode cL_law 508 = .ok (.iadd, 1) := by decide +kernel
theorem dL_law_509 : decode cL_law 509 = .ok (.iaload, 1) := by decide +kernel
theorem dL_law_510 : decode cL_law 510 = .ok (.invokevirtual 48, 3) := by decide +kernel
theorem dL_law_513 : decode cL_law 513 = .ok (.if_icmp .eq 856, 3) := by decide +kernel
theorem dL_law_516 : decode cL_law 516 = .ok (.iconst 0, 1) := by decide +kernel
theorem dL_law_517 : decode cL_law 517 = .ok (.ireturn, 1) := by decide +kernel
theorem dL_law_518 : decode cL_law 518 = .ok (.aload_n 1, 1) := by decide +kernel
theorem dL_law_519 : decode cL_law 519 = .ok (.aload_n 0, 1) := by decide +kernel
theorem dL_law_520 : decode cL_law 520 = .ok (.iload_n 3, 1) := by decide +kernel
theorem dL_law_521 : decode cL_law 521 = .ok (.iconst 1, 1) := by decide +kernel
theorem dL_law_522 : decode cL_law 522 = .ok (.iadd, 1) := by decide +kernel
theorem dL_law_523 : decode cL_law 523 = .ok (.iaload, 1) := by decide +kernel
theorem dL_law_524 : decode cL_law 524 = .ok (.invokevirtual 49, 3) := by decide +kernel
theorem dL_law_527 : decode cL_law 527 = .ok (.aload_n 2, 1) := by decide +kernel
theorem dL_law_528 : decode cL_law 528 = .ok (.aload_n 0, 1) := by decide +kernel
theorem dL_law_529 : decode cL_law 529 = .ok (.iload_n 3, 1) := by decide +kernel
theorem dL_law_530 : decode cL_law 530 = .ok (.iconst 1, 1) := by decide +kernel
theorem dL_law_531 : decode cL_law 531 = .ok (.iadd, 1) := by decide +kernel
theorem dL_law_532 : decode cL_law 532 = .ok (.iaload, 1) := by decide +kernel
theorem dL_law_533 : decode cL_law 533 = .ok (.invokevirtual 52, 3) := by decide +kernel
theorem dL_law_536 : decode cL_law 536 = .ok (.if_icmp .eq 833, 3) := by decide +kernel
theorem dL_law_539 : decode cL_law 539 = .ok (.iconst 0, 1) := by decide +kernel
theorem dL_law_540 : decode cL_law 540 = .ok (.ireturn, 1) := by decide +kernel
theorem dL_law_541 : decode cL_law 541 = .ok (.aload_n 1, 1) := by decide +kernel
theorem dL_law_542 : decode cL_law 542 = .ok (.aload_n 0, 1) := by decide +kernel
theorem dL_law_543 : decode cL_law 543 = .ok (.iload_n 3, 1) := by decide +kernel
theorem dL_law_544 : decode cL_law 544 = .ok (.iconst 1, 1) := by decide +kernel
theorem dL_law_545 : decode cL_law 545 = .ok (.iadd, 1) := by decide +kernel
theorem dL_law_546 : decode cL_law 546 = .ok (.iaload, 1) := by decide +kernel
theorem dL_law_547 : decode cL_law 547 = .ok (.invokevirtual 53, 3) := by decide +kernel
theorem dL_law_550 : decode cL_law 550 = .ok (.aload_n 2, 1) := by decide +kernel
theorem dL_law_551 : decode cL_law 551 = .ok (.aload_n 0, 1) := by decide +kernel
theorem dL_law_552 : decode cL_law 552 = .ok (.iload_n 3, 1) := by decide +kernel
theorem dL_law_553 : decode cL_law 553 = .ok (.iconst 1, 1) := by decide +kernel
theorem dL_law_554 : decode cL_law 554 = .ok (.iadd, 1) := by decide +kernel
theorem dL_law_555 : decode cL_law 555 = .ok (.iaload, 1) := by decide +kernel
theorem dL_law_556 : decode cL_law 556 = .ok (.invokevirtual 56, 3) := by decide +kernel
theorem dL_law_559 : decode cL_law 559 = .ok (.if_icmp .eq 810, 3) := by decide +kernel
theorem dL_law_562 : decode cL_law 562 = .ok (.iconst 0, 1) := by decide +kernel
theorem dL_law_563 : decode cL_law 563 = .ok (.ireturn, 1) := by decide +kernel
theorem dL_law_564 : decode cL_law 564 = .ok (.aload_n 1, 1) := by decide +kernel
theorem dL_law_565 : decode cL_law 565 = .ok (.aload_n 0, 1) := by decide +kernel
theorem dL_law_566 : decode cL_law 566 = .ok (.iload_n 3, 1) := by decide +kernel
theorem dL_law_567 : decode cL_law 567 = .ok (.iconst 1, 1) := by decide +kernel
theorem dL_law_568 : decode cL_law 568 = .ok (.iadd, 1) := by decide +kernel
theorem dL_law_569 : decode cL_law 569 = .ok (.iaload, 1) := by decide +kernel
theorem dL_law_570 : decode cL_law 570 = .ok (.aload_n 0, 1) := by decide +kernel
theorem dL_law_571 : decode cL_law 571 = .ok (.iload_n 3, 1) := by decide +kernel
theorem dL_law_572 : decode cL_law 572 = .ok (.iconst 2, 1) := by decide +kernel
theorem dL_law_573 : decode cL_law 573 = .ok (.iadd, 1) := by decide +kernel
theorem dL_law_574 : decode cL_law 574 = .ok (.iaload, 1) := by decide +kernel
theorem dL_law_575 : decode cL_law 575 = .ok (.invokevirtual 57, 3) := by decide +kernel
theorem dL_law_578 : decode cL_law 578 = .ok (.aload_n 2, 1) := by decide +kernel
theorem dL_law_579 : decode cL_law 579 = .ok (.aload_n 0, 1) := by decide +kernel
theorem dL_law_580 : decode cL_law 580 = .ok (.iload_n 3, 1) := by decide +kernel
theorem dL_law_581 : decode cL_law 581 = .ok (.iconst 1, 1) := by decide +kernel
theorem dL_law_582 : decode cL_law 582 = .ok (.iadd, 1) := by decide +kernel
theorem dL_law_583 : decode cL_law 583 = .ok (.iaload, 1) := by decide +kernel
theorem dL_law_584 : decode cL_law 584 = .ok (.aload_n 0, 1) := by decide +kernel
theorem dL_law_585 : decode cL_law 585 = .ok (.iload_n 3, 1) := by decide +kernel
theorem dL_law_586 : decode cL_law 586 = .ok (.iconst 2, 1) := by decide +kernel
theorem dL_law_587 : decode cL_law 587 = .ok (.iadd, 1) := by decide +kernel
theorem dL_law_588 : decode cL_law 588 = .ok (.iaload, 1) := by decide +kernel
theorem dL_law_589 : decode cL_law 589 = .ok (.invokevirtual 60, 3) := by decide +kernel
theorem dL_law_592 : decode cL_law 592 = .ok (.if_icmp .eq 777, 3) := by decide +kernel
theorem dL_law_595 : decode cL_law 595 = .ok (.iconst 0, 1) := by decide +kernel
theorem dL_law_596 : decode cL_law 596 = .ok (.ireturn, 1) := by decide +kernel
theorem dL_law_597 : decode cL_law 597 = .ok (.aload_n 1, 1) := by decide +kernel
theorem dL_law_598 : decode cL_law 598 = .ok (.aload_n 0, 1) := by decide +kernel
theorem dL_law_599 : decode cL_law 599 = .ok (.iload_n 3, 1) := by decide +kernel
theorem dL_law_600 : decode cL_law 600 = .ok (.iconst 1, 1) := by decide +kernel
theorem dL_law_601 : decode cL_law 601 = .ok (.iadd, 1) := by decide +kernel
theorem dL_law_602 : decode cL_law 602 = .ok (.iaload, 1) := by decide +kernel
theorem dL_law_603 : decode cL_law 603 = .ok (.aload_n 0, 1) := by decide +kernel
theorem dL_law_604 : decode cL_law 604 = .ok (.iload_n 3, 1) := by decide +kernel
theorem dL_law_605 : decode cL_law 605 = .ok (.iconst 2, 1) := by decide +kernel
theorem dL_law_606 : decode cL_law 606 = .ok (.iadd, 1) := by decide +kernel
theorem dL_law_607 : decode cL_law 607 = .ok (.iaload, 1) := by decide +kernel
theorem dL_law_608 : decode cL_law 608 = .ok (.invokevirtual 61, 3) := by decide +kernel
theorem dL_law_611 : decode cL_law 611 = .ok (.aload_n 2, 1) := by decide +kernel
theorem dL_law_612 : decode cL_law 612 = .ok (.aload_n 0, 1) := by decide +kernel
theorem dL_law_613 : decode cL_law 613 = .ok (.iload_n 3, 1) := by decide +kernel
theorem dL_law_614 : decode cL_law 614 = .ok (.iconst 1, 1) := by decide +kernel
theorem dL_law_615 : decode cL_law 615 = .ok (.iadd, 1) := by decide +kernel
theorem dL_law_616 : decode cL_law 616 = .ok (.iaload, 1) := by decide +kernel
theorem dL_law_617 : decode cL_law 617 = .ok (.aload_n 0, 1) := by decide +kernel
theorem dL_law_618 : decode cL_law 618 = .ok (.iload_n 3, 1) := by decide +kernel
theorem dL_law_619 : decode cL_law 619 = .ok (.iconst 2, 1) := by decide +kernel
theorem dL_law_620 : decode cL_law 620 = .ok (.iadd, 1) := by decide +kernel
theorem dL_law_621 : decode cL_law 621 = .ok (.iaload, 1) := by decide +kernel
theorem dL_law_622 : decode cL_law 622 = .ok (.invokevirtual 64, 3) := by decide +kernel
theorem dL_law_625 : decode cL_law 625 = .ok (.if_icmp .eq 744, 3) := by decide +kernel
theorem dL_law_628 : decode cL_law 628 = .ok (.iconst 0, 1) := by decide +kernel
theorem dL_law_629 : decode cL_law 629 = .ok (.ireturn, 1) := by decide +kernel
theorem dL_law_630 : decode cL_law 630 = .ok (.aload_n 1, 1) := by decide +kernel
theorem dL_law_631 : decode cL_law 631 = .ok (.aload_n 0, 1) := by decide +kernel
theorem dL_law_632 : decode cL_law 632 = .ok (.iload_n 3, 1) := by decide +kernel
theorem dL_law_633 : decode cL_law 633 = .ok (.iconst 1, 1) := by decide +kernel
theorem dL_law_634 : decode cL_law 634 = .ok (.iadd, 1) := by decide +kernel
theorem dL_law_635 : decode cL_law 635 = .ok (.iaload, 1) := by decide +kernel
theorem dL_law_636 : decode cL_law 636 = .ok (.invokevirtual 65, 3) := by decide +kernel
theorem dL_law_639 : decode cL_law 639 = .ok (.aload_n 2, 1) := by decide +kernel
theorem dL_law_640 : decode cL_law 640 = .ok (.aload_n 0, 1) := by decide +kernel
theorem dL_law_641 : decode cL_law 641 = .ok (.iload_n 3, 1) := by decide +kernel
theorem dL_law_642 : decode cL_law 642 = .ok (.iconst 1, 1) := by decide +kernel
theorem dL_law_643 : decode cL_law 643 = .ok (.iadd, 1) := by decide +kernel
theorem dL_law_644 : decode cL_law 644 = .ok (.iaload, 1) := by decide +kernel
theorem dL_law_645 : decode cL_law 645 = .ok (.invokevirtual 68, 3) := by decide +kernel
theorem dL_law_648 : decode cL_law 648 = .ok (.if_icmp .eq 721, 3) := by decide +kernel
theorem dL_law_651 : decode cL_law 651 = .ok (.iconst 0, 1) := by decide +kernel
theorem dL_law_652 : decode cL_law 652 = .ok (.ireturn, 1) := by decide +kernel
theorem dL_law_653 : decode cL_law 653 = .ok (.aload_n 1, 1) := by decide +kernel
theorem dL_law_654 : decode cL_law 654 = .ok (.invokevirtual 69, 3) := by decide +kernel
theorem dL_law_657 : decode cL_law 657 = .ok (.aload_n 2, 1) := by decide +kernel
theorem dL_law_658 : decode cL_law 658 = .ok (.invokevirtual 73, 3) := by decide +kernel
theorem dL_law_661 : decode cL_law 661 = .ok (.if_icmp .eq 708, 3) := by decide +kernel
theorem dL_law_664 : decode cL_law 664 = .ok (.iconst 0, 1) := by decide +kernel
theorem dL_law_665 : decode cL_law 665 = .ok (.ireturn, 1) := by decide +kernel
theorem dL_law_666 : decode cL_law 666 = .ok (.aload_n 1, 1) := by decide +kernel
theorem dL_law_667 : decode cL_law 667 = .ok (.aload_n 0, 1) := by decide +kernel
theorem dL_law_668 : decode cL_law 668 = .ok (.iload_n 3, 1) := by decide +kernel
theorem dL_law_669 : decode cL_law 669 = .ok (.iconst 1, 1) := by decide +kernel
theorem dL_law_670 : decode cL_law 670 = .ok (.iadd, 1) := by decide +kernel
theorem dL_law_671 : decode cL_law 671 = .ok (.iaload, 1) := by decide +kernel
theorem dL_law_672 : decode cL_law 672 = .ok (.aload_n 0, 1) := by decide +kernel
theorem dL_law_673 : decode cL_law 673 = .ok (.iload_n 3, 1) := by decide +kernel
theorem dL_law_674 : decode cL_law 674 = .ok (.iconst 2, 1) := by decide +kernel
theorem dL_law_675 : decode cL_law 675 = .ok (.iadd, 1) := by decide +kernel
theorem dL_law_676 : decode cL_law 676 = .ok (.iaload, 1) := by decide +kernel
theorem dL_law_677 : decode cL_law 677 = .ok (.invokevirtual 74, 3) := by decide +kernel
theorem dL_law_680 : decode cL_law 680 = .ok (.aload_n 2, 1) := by decide +kernel
theorem dL_law_681 : decode cL_law 681 = .ok (.aload_n 0, 1) := by decide +kernel
theorem dL_law_682 : decode cL_law 682 = .ok (.iload_n 3, 1) := by decide +kernel
theorem dL_law_683 : decode cL_law 683 = .ok (.iconst 1, 1) := by decide +kernel
theorem dL_law_684 : decode cL_law 684 = .ok (.iadd, 1) := by decide +kernel
theorem dL_law_685 : decode cL_law 685 = .ok (.iaload, 1) := by decide +kernel
theorem dL_law_686 : decode cL_law 686 = .ok (.aload_n 0, 1) := by decide +kernel
theorem dL_law_687 : decode cL_law 687 = .ok (.iload_n 3, 1) := by decide +kernel
theorem dL_law_688 : decode cL_law 688 = .ok (.iconst 2, 1) := by decide +kernel
theorem dL_law_689 : decode cL_law 689 = .ok (.iadd, 1) := by decide +kernel
theorem dL_law_690 : decode cL_law 690 = .ok (.iaload, 1) := by decide +kernel
theorem dL_law_691 : decode cL_law 691 = .ok (.invokevirtual 77, 3) := by decide +kernel
theorem dL_law_694 : decode cL_law 694 = .ok (.if_icmp .eq 675, 3) := by decide +kernel
theorem dL_law_697 : decode cL_law 697 = .ok (.iconst 0, 1) := by decide +kernel
theorem dL_law_698 : decode cL_law 698 = .ok (.ireturn, 1) := by decide +kernel
theorem dL_law_699 : decode cL_law 699 = .ok (.aload_n 1, 1) := by decide +kernel
theorem dL_law_700 : decode cL_law 700 = .ok (.aload_n 0, 1) := by decide +kernel
theorem dL_law_701 : decode cL_law 701 = .ok (.iload_n 3, 1) := by decide +kernel
theorem dL_law_702 : decode cL_law 702 = .ok (.iconst 1, 1) := by decide +kernel
theorem dL_law_703 : decode cL_law 703 = .ok (.iadd, 1) := by decide +kernel
theorem dL_law_704 : decode cL_law 704 = .ok (.iaload, 1) := by decide +kernel
theorem dL_law_705 : decode cL_law 705 = .ok (.invokevirtual 78, 3) := by decide +kernel
theorem dL_law_708 : decode cL_law 708 = .ok (.aload_n 2, 1) := by decide +kernel
theorem dL_law_709 : decode cL_law 709 = .ok (.aload_n 0, 1) := by decide +kernel
theorem dL_law_710 : decode cL_law 710 = .ok (.iload_n 3, 1) := by decide +kernel
theorem dL_law_711 : decode cL_law 711 = .ok (.iconst 1, 1) := by decide +kernel
theorem dL_law_712 : decode cL_law 712 = .ok (.iadd, 1) := by decide +kernel
theorem dL_law_713 : decode cL_law 713 = .ok (.iaload, 1) := by decide +kernel
theorem dL_law_714 : decode cL_law 714 = .ok (.invokevirtual 81, 3) := by decide +kernel
theorem dL_law_717 : decode cL_law 717 = .ok (.if_icmp .eq 652, 3) := by decide +kernel
theorem dL_law_720 : decode cL_law 720 = .ok (.iconst 0, 1) := by decide +kernel
theorem dL_law_721 : decode cL_law 721 = .ok (.ireturn, 1) := by decide +kernel
theorem dL_law_722 : decode cL_law 722 = .ok (.aload_n 1, 1) := by decide +kernel
theorem dL_law_723 : decode cL_law 723 = .ok (.invokevirtual 82, 3) := by decide +kernel
theorem dL_law_726 : decode cL_law 726 = .ok (.aload_n 2, 1) := by decide +kernel
theorem dL_law_727 : decode cL_law 727 = .ok (.invokevirtual 85, 3) := by decide +kernel
theorem dL_law_730 : decode cL_law 730 = .ok (.if_icmp .eq 639, 3) := by decide +kernel
theorem dL_law_733 : decode cL_law 733 = .ok (.iconst 0, 1) := by decide +kernel
theorem dL_law_734 : decode cL_law 734 = .ok (.ireturn, 1) := by decide +kernel
theorem dL_law_735 : decode cL_law 735 = .ok (.aload_n 1, 1) := by decide +kernel
theorem dL_law_736 : decode cL_law 736 = .ok (.aload_n 0, 1) := by decide +kernel
theorem dL_law_737 : decode cL_law 737 = .ok (.iload_n 3, 1) := by decide +kernel
theorem dL_law_738 : decode cL_law 738 = .ok (.iconst 1, 1) := by decide +kernel
theorem dL_law_739 : decode cL_law 739 = .ok (.iadd, 1) := by decide +kernel
theorem dL_law_740 : decode cL_law 740 = .ok (.iaload, 1) := by decide +kernel
theorem dL_law_741 : decode cL_law 741 = .ok (.invokevirtual 86, 3) := by decide +kernel
theorem dL_law_744 : decode cL_law 744 = .ok (.aload_n 2, 1) := by decide +kernel
theorem dL_law_745 : decode cL_law 745 = .ok (.aload_n 0, 1) := by decide +kernel
theorem dL_law_746 : decode cL_law 746 = .ok (.iload_n 3, 1) := by decide +kernel
theorem dL_law_747 : decode cL_law 747 = .ok (.iconst 1, 1) := by decide +kernel
theorem dL_law_748 : decode cL_law 748 = .ok (.iadd, 1) := by decide +kernel
theorem dL_law_749 : decode cL_law 749 = .ok (.iaload, 1) := by decide +kernel
theorem dL_law_750 : decode cL_law 750 = .ok (.invokevirtual 89, 3) := by decide +kernel
theorem dL_law_753 : decode cL_law 753 = .ok (.if_icmp .eq 616, 3) := by decide +kernel
theorem dL_law_756 : decode cL_law 756 = .ok (.iconst 0, 1) := by decide +kernel
theorem dL_law_757 : decode cL_law 757 = .ok (.ireturn, 1) := by decide +kernel
theorem dL_law_758 : decode cL_law 758 = .ok (.aload_n 1, 1) := by decide +kernel
theorem dL_law_759 : decode cL_law 759 = .ok (.aload_n 0, 1) := by decide +kernel
theorem dL_law_760 : decode cL_law 760 = .ok (.iload_n 3, 1) := by decide +kernel
theorem dL_law_761 : decode cL_law 761 = .ok (.iconst 1, 1) := by decide +kernel
theorem dL_law_762 : decode cL_law 762 = .ok (.iadd, 1) := by decide +kernel
theorem dL_law_763 : decode cL_law 763 = .ok (.iaload, 1) := by decide +kernel
theorem dL_law_764 : decode cL_law 764 = .ok (.invokevirtual 90, 3) := by decide +kernel
theorem dL_law_767 : decode cL_law 767 = .ok (.aload_n 2, 1) := by decide +kernel
theorem dL_law_768 : decode cL_law 768 = .ok (.aload_n 0, 1) := by decide +kernel
theorem dL_law_769 : decode cL_law 769 = .ok (.iload_n 3, 1) := by decide +kernel
theorem dL_law_770 : decode cL_law 770 = .ok (.iconst 1, 1) := by decide +kernel
theorem dL_law_771 : decode cL_law 771 = .ok (.iadd, 1) := by decide +kernel
theorem dL_law_772 : decode cL_law 772 = .ok (.iaload, 1) := by decide +kernel
theorem dL_law_773 : decode cL_law 773 = .ok (.invokevirtual 93, 3) := by decide +kernel
theorem dL_law_776 : decode cL_law 776 = .ok (.if_icmp .eq 593, 3) := by decide +kernel
theorem dL_law_779 : decode cL_law 779 = .ok (.iconst 0, 1) := by decide +kernel
theorem dL_law_780 : decode cL_law 780 = .ok (.ireturn, 1) := by decide +kernel
theorem dL_law_781 : decode cL_law 781 = .ok (.aload_n 1, 1) := by decide +kernel
theorem dL_law_782 : decode cL_law 782 = .ok (.aload_n 0, 1) := by decide +kernel
theorem dL_law_783 : decode cL_law 783 = .ok (.iload_n 3, 1) := by decide +kernel
theorem dL_law_784 : decode cL_law 784 = .ok (.iconst 1, 1) := by decide +kernel
theorem dL_law_785 : decode cL_law 785 = .ok (.iadd, 1) := by decide +kernel
theorem dL_law_786 : decode cL_law 786 = .ok (.iaload, 1) := by decide +kernel
theorem dL_law_787 : decode cL_law 787 = .ok (.invokevirtual 94, 3) := by decide +kernel
theorem dL_law_790 : decode cL_law 790 = .ok (.aload_n 2, 1) := by decide +kernel
theorem dL_law_791 : decode cL_law 791 = .ok (.aload_n 0, 1) := by decide +kernel
theorem dL_law_792 : decode cL_law 792 = .ok (.iload_n 3, 1) := by decide +kernel
theorem dL_law_793 : decode cL_law 793 = .ok (.iconst 1, 1) := by decide +kernel
theorem dL_law_794 : decode cL_law 794 = .ok (.iadd, 1) := by decide +kernel
theorem dL_law_795 : decode cL_law 795 = .ok (.iaload, 1) := by decide +kernel
theorem dL_law_796 : decode cL_law 796 = .ok (.invokevirtual 97, 3) := by decide +kernel
theorem dL_law_799 : decode cL_law 799 = .ok (.if_icmp .eq 570, 3) := by decide +kernel
theorem dL_law_802 : decode cL_law 802 = .ok (.iconst 0, 1) := by decide +kernel
theorem dL_law_803 : decode cL_law 803 = .ok (.ireturn, 1) := by decide +kernel
theorem dL_law_804 : decode cL_law 804 = .ok (.aload_n 1, 1) := by decide +kernel
theorem dL_law_805 : decode cL_law 805 = .ok (.aload_n 0, 1) := by decide +kernel
theorem dL_law_806 : decode cL_law 806 = .ok (.iload_n 3, 1) := by decide +kernel
theorem dL_law_807 : decode cL_law 807 = .ok (.iconst 1, 1) := by decide +kernel
theorem dL_law_808 : decode cL_law 808 = .ok (.iadd, 1) := by decide +kernel
theorem dL_law_809 : decode cL_law 809 = .ok (.iaload, 1) := by decide +kernel
theorem dL_law_810 : decode cL_law 810 = .ok (.aload_n 0, 1) := by decide +kernel
theorem dL_law_811 : decode cL_law 811 = .ok (.iload_n 3, 1) := by decide +kernel
theorem dL_law_812 : decode cL_law 812 = .ok (.iconst 2, 1) := by decide +kernel
theorem dL_law_813 : decode cL_law 813 = .ok (.iadd, 1) := by decide +kernel
theorem dL_law_814 : decode cL_law 814 = .ok (.iaload, 1) := by decide +kernel
theorem dL_law_815 : decode cL_law 815 = .ok (.invokevirtual 98, 3) := by decide +kernel
theorem dL_law_818 : decode cL_law 818 = .ok (.aload_n 2, 1) := by decide +kernel
theorem dL_law_819 : decode cL_law 819 = .ok (.aload_n 0, 1) := by decide +kernel
theorem dL_law_820 : decode cL_law 820 = .ok (.iload_n 3, 1) := by decide +kernel
theorem dL_law_821 : decode cL_law 821 = .ok (.iconst 1, 1) := by decide +kernel
theorem dL_law_822 : decode cL_law 822 = .ok (.iadd, 1) := by decide +kernel
theorem dL_law_823 : decode cL_law 823 = .ok (.iaload, 1) := by decide +kernel
theorem dL_law_824 : decode cL_law 824 = .ok (.aload_n 0, 1) := by decide +kernel
theorem dL_law_825 : decode cL_law 825 = .ok (.iload_n 3, 1) := by decide +kernel
theorem dL_law_826 : decode cL_law 826 = .ok (.iconst 2, 1) := by decide +kernel
theorem dL_law_827 : decode cL_law 827 = .ok (.iadd, 1) := by decide +kernel
theorem dL_law_828 : decode cL_law 828 = .ok (.iaload, 1) := by decide +kernel
theorem dL_law_829 : decode cL_law 829 = .ok (.invokevirtual 101, 3) := by decide +kernel
theorem dL_law_832 : decode cL_law 832 = .ok (.if_icmp .eq 537, 3) := by decide +kernel
theorem dL_law_835 : decode cL_law 835 = .ok (.iconst 0, 1) := by decide +kernel
theorem dL_law_836 : decode cL_law 836 = .ok (.ireturn, 1) := by decide +kernel
theorem dL_law_837 : decode cL_law 837 = .ok (.aload_n 1, 1) := by decide +kernel
theorem dL_law_838 : decode cL_law 838 = .ok (.aload_n 0, 1) := by decide +kernel
theorem dL_law_839 : decode cL_law 839 = .ok (.iload_n 3, 1) := by decide +kernel
theorem dL_law_840 : decode cL_law 840 = .ok (.iconst 1, 1) := by decide +kernel
theorem dL_law_841 : decode cL_law 841 = .ok (.iadd, 1) := by decide +kernel
theorem dL_law_842 : decode cL_law 842 = .ok (.iaload, 1) := by decide +kernel
theorem dL_law_843 : decode cL_law 843 = .ok (.invokevirtual 102, 3) := by decide +kernel
theorem dL_law_846 : decode cL_law 846 = .ok (.aload_n 2, 1) := by decide +kernel
theorem dL_law_847 : decode cL_law 847 = .ok (.aload_n 0, 1) := by decide +kernel
theorem dL_law_848 : decode cL_law 848 = .ok (.iload_n 3, 1) := by decide +kernel
theorem dL_law_849 : decode cL_law 849 = .ok (.iconst 1, 1) := by decide +kernel
theorem dL_law_850 : decode cL_law 850 = .ok (.iadd, 1) := by decide +kernel
theorem dL_law_851 : decode cL_law 851 = .ok (.iaload, 1) := by decide +kernel
theorem dL_law_852 : decode cL_law 852 = .ok (.invokevirtual 105, 3) := by decide +kernel
theorem dL_law_855 : decode cL_law 855 = .ok (.if_icmp .eq 514, 3) := by decide +kernel
theorem dL_law_858 : decode cL_law 858 = .ok (.iconst 0, 1) := by decide +kernel
theorem dL_law_859 : decode cL_law 859 = .ok (.ireturn, 1) := by decide +kernel
theorem dL_law_860 : decode cL_law 860 = .ok (.aload_n 1, 1) := by decide +kernel
theorem dL_law_861 : decode cL_law 861 = .ok (.aload_n 0, 1) := by decide +kernel
theorem dL_law_862 : decode cL_law 862 = .ok (.iload_n 3, 1) := by decide +kernel
theorem dL_law_863 : decode cL_law 863 = .ok (.iconst 1, 1) := by decide +kernel
theorem dL_law_864 : decode cL_law 864 = .ok (.iadd, 1) := by decide +kernel
theorem dL_law_865 : decode cL_law 865 = .ok (.iaload, 1) := by decide +kernel
theorem dL_law_866 : decode cL_law 866 = .ok (.aload_n 0, 1) := by decide +kernel
theorem dL_law_867 : decode cL_law 867 = .ok (.iload_n 3, 1) := by decide +kernel
theorem dL_law_868 : decode cL_law 868 = .ok (.iconst 2, 1) := by decide +kernel
theorem dL_law_869 : decode cL_law 869 = .ok (.iadd, 1) := by decide +kernel
theorem dL_law_870 : decode cL_law 870 = .ok (.iaload, 1) := by decide +kernel
theorem dL_law_871 : decode cL_law 871 = .ok (.invokevirtual 106, 3) := by decide +kernel
theorem dL_law_874 : decode cL_law 874 = .ok (.aload_n 2, 1) := by decide +kernel
theorem dL_law_875 : decode cL_law 875 = .ok (.aload_n 0, 1) := by decide +kernel
theorem dL_law_876 : decode cL_law 876 = .ok (.iload_n 3, 1) := by decide +kernel
theorem dL_law_877 : decode cL_law 877 = .ok (.iconst 1, 1) := by decide +kernel
theorem dL_law_878 : decode cL_law 878 = .ok (.iadd, 1) := by decide +kernel
theorem dL_law_879 : decode cL_law 879 = .ok (.iaload, 1) := by decide +kernel
theorem dL_law_880 : decode cL_law 880 = .ok (.aload_n 0, 1) := by decide +kernel
theorem dL_law_881 : decode cL_law 881 = .ok (.iload_n 3, 1) := by decide +kernel
theorem dL_law_882 : decode cL_law 882 = .ok (.iconst 2, 1) := by decide +kernel
theorem dL_law_883 : decode cL_law 883 = .ok (.iadd, 1) := by decide +kernel
theorem dL_law_884 : decode cL_law 884 = .ok (.iaload, 1) := by decide +kernel
theorem dL_law_885 : decode cL_law 885 = .ok (.invokevirtual 109, 3) := by decide +kernel
theorem dL_law_888 : decode cL_law 888 = .ok (.if_icmp .eq 481, 3) := by decide +kernel
theorem dL_law_891 : decode cL_law 891 = .ok (.iconst 0, 1) := by decide +kernel
theorem dL_law_892 : decode cL_law 892 = .ok (.ireturn, 1) := by decide +kernel
theorem dL_law_893 : decode cL_law 893 = .ok (.aload_n 1, 1) := by decide +kernel
theorem dL_law_894 : decode cL_law 894 = .ok (.invokevirtual 110, 3) := by decide +kernel
theorem dL_law_897 : decode cL_law 897 = .ok (.aload_n 2, 1) := by decide +kernel
theorem dL_law_898 : decode cL_law 898 = .ok (.invokevirtual 113, 3) := by decide +kernel
theorem dL_law_901 : decode cL_law 901 = .ok (.if_icmp .eq 468, 3) := by decide +kernel
theorem dL_law_904 : decode cL_law 904 = .ok (.iconst 0, 1) := by decide +kernel
theorem dL_law_905 : decode cL_law 905 = .ok (.ireturn, 1) := by decide +kernel
theorem dL_law_906 : decode cL_law 906 = .ok (.aload_n 1, 1) := by decide +kernel
theorem dL_law_907 : decode cL_law 907 = .ok (.aload_n 0, 1) := by decide +kernel
theorem dL_law_908 : decode cL_law 908 = .ok (.iload_n 3, 1) := by decide +kernel
theorem dL_law_909 : decode cL_law 909 = .ok (.iconst 1, 1) := by decide +kernel
theorem dL_law_910 : decode cL_law 910 = .ok (.iadd, 1) := by decide +kernel
theorem dL_law_911 : decode cL_law 911 = .ok (.iaload, 1) := by decide +kernel
theorem dL_law_912 : decode cL_law 912 = .ok (.invokevirtual 114, 3) := by decide +kernel
theorem dL_law_915 : decode cL_law 915 = .ok (.aload_n 2, 1) := by decide +kernel
theorem dL_law_916 : decode cL_law 916 = .ok (.aload_n 0, 1) := by decide +kernel
theorem dL_law_917 : decode cL_law 917 = .ok (.iload_n 3, 1) := by decide +kernel
theorem dL_law_918 : decode cL_law 918 = .ok (.iconst 1, 1) := by decide +kernel
theorem dL_law_919 : decode cL_law 919 = .ok (.iadd, 1) := by decide +kernel
theorem dL_law_920 : decode cL_law 920 = .ok (.iaload, 1) := by decide +kernel
theorem dL_law_921 : decode cL_law 921 = .ok (.invokevirtual 117, 3) := by decide +kernel
theorem dL_law_924 : decode cL_law 924 = .ok (.if_icmp .eq 445, 3) := by decide +kernel
theorem dL_law_927 : decode cL_law 927 = .ok (.iconst 0, 1) := by decide +kernel
theorem dL_law_928 : decode cL_law 928 = .ok (.ireturn, 1) := by decide +kernel
theorem dL_law_929 : decode cL_law 929 = .ok (.aload_n 1, 1) := by decide +kernel
theorem dL_law_930 : decode cL_law 930 = .ok (.aload_n 0, 1) := by decide +kernel
theorem dL_law_931 : decode cL_law 931 = .ok (.iload_n 3, 1) := by decide +kernel
theorem dL_law_932 : decode cL_law 932 = .ok (.iconst 1, 1) := by decide +kernel
theorem dL_law_933 : decode cL_law 933 = .ok (.iadd, 1) := by decide +kernel
theorem dL_law_934 : decode cL_law 934 = .ok (.iaload, 1) := by decide +kernel
theorem dL_law_935 : decode cL_law 935 = .ok (.aload_n 0, 1) := by decide +kernel
theorem dL_law_936 : decode cL_law 936 = .ok (.iload_n 3, 1) := by decide +kernel
theorem dL_law_937 : decode cL_law 937 = .ok (.iconst 2, 1) := by decide +kernel
theorem dL_law_938 : decode cL_law 938 = .ok (.iadd, 1) := by decide +kernel
theorem dL_law_939 : decode cL_law 939 = .ok (.iaload, 1) := by decide +kernel
theorem dL_law_940 : decode cL_law 940 = .ok (.invokevirtual 118, 3) := by decide +kernel
theorem dL_law_943 : decode cL_law 943 = .ok (.aload_n 2, 1) := by decide +kernel
theorem dL_law_944 : decode cL_law 944 = .ok (.aload_n 0, 1) := by decide +kernel
theorem dL_law_945 : decode cL_law 945 = .ok (.iload_n 3, 1) := by decide +kernel
theorem dL_law_946 : decode cL_law 946 = .ok (.iconst 1, 1) := by decide +kernel
theorem dL_law_947 : decode cL_law 947 = .ok (.iadd, 1) := by decide +kernel
theorem dL_law_948 : decode cL_law 948 = .ok (.iaload, 1) := by decide +kernel
theorem dL_law_949 : decode cL_law 949 = .ok (.aload_n 0, 1) := by decide +kernel
theorem dL_law_950 : decode cL_law 950 = .ok (.iload_n 3, 1) := by decide +kernel
theorem dL_law_951 : decode cL_law 951 = .ok (.iconst 2, 1) := by decide +kernel
theorem dL_law_952 : decode cL_law 952 = .ok (.iadd, 1) := by decide +kernel
theorem dL_law_953 : decode cL_law 953 = .ok (.iaload, 1) := by decide +kernel
theorem dL_law_954 : decode cL_law 954 = .ok (.invokevirtual 121, 3) := by decide +kernel
theorem dL_law_957 : decode cL_law 957 = .ok (.if_icmp .eq 412, 3) := by decide +kernel
theorem dL_law_960 : decode cL_law 960 = .ok (.iconst 0, 1) := by decide +kernel
theorem dL_law_961 : decode cL_law 961 = .ok (.ireturn, 1) := by decide +kernel
theorem dL_law_962 : decode cL_law 962 = .ok (.aload_n 1, 1) := by decide +kernel
theorem dL_law_963 : decode cL_law 963 = .ok (.invokevirtual 122, 3) := by decide +kernel
theorem dL_law_966 : decode cL_law 966 = .ok (.aload_n 2, 1) := by decide +kernel
theorem dL_law_967 : decode cL_law 967 = .ok (.invokevirtual 125, 3) := by decide +kernel
theorem dL_law_970 : decode cL_law 970 = .ok (.if_icmp .eq 399, 3) := by decide +kernel
theorem dL_law_973 : decode cL_law 973 = .ok (.iconst 0, 1) := by decide +kernel
theorem dL_law_974 : decode cL_law 974 = .ok (.ireturn, 1) := by decide +kernel
theorem dL_law_975 : decode cL_law 975 = .ok (.aload_n 1, 1) := by decide +kernel
theorem dL_law_976 : decode cL_law 976 = .ok (.aload_n 0, 1) := by decide +kernel
theorem dL_law_977 : decode cL_law 977 = .ok (.iload_n 3, 1) := by decide +kernel
theorem dL_law_978 : decode cL_law 978 = .ok (.iconst 1, 1) := by decide +kernel
theorem dL_law_979 : decode cL_law 979 = .ok (.iadd, 1) := by decide +kernel
theorem dL_law_980 : decode cL_law 980 = .ok (.iaload, 1) := by decide +kernel
theorem dL_law_981 : decode cL_law 981 = .ok (.invokevirtual 126, 3) := by decide +kernel
theorem dL_law_984 : decode cL_law 984 = .ok (.aload_n 2, 1) := by decide +kernel
theorem dL_law_985 : decode cL_law 985 = .ok (.aload_n 0, 1) := by decide +kernel
theorem dL_law_986 : decode cL_law 986 = .ok (.iload_n 3, 1) := by decide +kernel
theorem dL_law_987 : decode cL_law 987 = .ok (.iconst 1, 1) := by decide +kernel
theorem dL_law_988 : decode cL_law 988 = .ok (.iadd, 1) := by decide +kernel
theorem dL_law_989 : decode cL_law 989 = .ok (.iaload, 1) := by decide +kernel
theorem dL_law_990 : decode cL_law 990 = .ok (.invokevirtual 129, 3) := by decide +kernel
theorem dL_law_993 : decode cL_law 993 = .ok (.if_icmp .eq 376, 3) := by decide +kernel
theorem dL_law_996 : decode cL_law 996 = .ok (.iconst 0, 1) := by decide +kernel
theorem dL_law_997 : decode cL_law 997 = .ok (.ireturn, 1) := by decide +kernel
theorem dL_law_998 : decode cL_law 998 = .ok (.aload_n 1, 1) := by decide +kernel
theorem dL_law_999 : decode cL_law 999 = .ok (.aload_n 0, 1) := by decide +kernel
theorem dL_law_1000 : decode cL_law 1000 = .ok (.iload_n 3, 1) := by decide +kernel
theorem dL_law_1001 : decode cL_law 1001 = .ok (.iconst 1, 1) := by decide +kernel
theorem dL_law_1002 : decode cL_law 1002 = .ok (.iadd, 1) := by decide +kernel
theorem dL_law_1003 : decode cL_law 1003 = .ok (.iaload, 1) := by decide +kernel
theorem dL_law_1004 : decode cL_law 1004 = .ok (.invokevirtual 130, 3) := by decide +kernel
theorem dL_law_1007 : decode cL_law 1007 = .ok (.aload_n 2, 1) := by decide +kernel
theorem dL_law_1008 : decode cL_law 1008 = .ok (.aload_n 0, 1) := by decide +kernel
theorem dL_law_1009 : decode cL_law 1009 = .ok (.iload_n 3, 1) := by decide +kernel
theorem dL_law_1010 : decode cL_law 1010 = .ok (.iconst 1, 1) := by decide +kernel
theorem dL_law_1011 : decode cL_law 1011 = .ok (.iadd, 1) := by decide +kernel
theorem dL_law_1012 : decode cL_law 1012 = .ok (.iaload, 1) := by decide +kernel
theorem dL_law_1013 : decode cL_law 1013 = .ok (.invokevirtual 133, 3) := by decide +kernel
theorem dL_law_1016 : decode cL_law 1016 = .ok (.if_icmp .eq 353, 3) := by decide +kernel
theorem dL_law_1019 : decode cL_law 1019 = .ok (.iconst 0, 1) := by decide +kernel
theorem dL_law_1020 : decode cL_law 1020 = .ok (.ireturn, 1) := by decide +kernel
theorem dL_law_1021 : decode cL_law 1021 = .ok (.aload_n 1, 1) := by decide +kernel
theorem dL_law_1022 : decode cL_law 1022 = .ok (.aload_n 0, 1) := by decide +kernel
theorem dL_law_1023 : decode cL_law 1023 = .ok (.iload_n 3, 1) := by decide +kernel
theorem dL_law_1024 : decode cL_law 1024 = .ok (.iconst 1, 1) := by decide +kernel
theorem dL_law_1025 : decode cL_law 1025 = .ok (.iadd, 1) := by decide +kernel
theorem dL_law_1026 : decode cL_law 1026 = .ok (.iaload, 1) := by decide +kernel
theorem dL_law_1027 : decode cL_law 1027 = .ok (.invokevirtual 134, 3) := by decide +kernel
theorem dL_law_1030 : decode cL_law 1030 = .ok (.aload_n 2, 1) := by decide +kernel
theorem dL_law_1031 : decode cL_law 1031 = .ok (.aload_n 0, 1) := by decide +kernel
theorem dL_law_1032 : decode cL_law 1032 = .ok (.iload_n 3, 1) := by decide +kernel
theorem dL_law_1033 : decode cL_law 1033 = .ok (.iconst 1, 1) := by decide +kernel
theorem dL_law_1034 : decode cL_law 1034 = .ok (.iadd, 1) := by decide +kernel
theorem dL_law_1035 : decode cL_law 1035 = .ok (.iaload, 1) := by decide +kernel
theorem dL_law_1036 : decode cL_law 1036 = .ok (.invokevirtual 137, 3) := by decide +kernel
theorem dL_law_1039 : decode cL_law 1039 = .ok (.if_icmp .eq 330, 3) := by decide +kernel
theorem dL_law_1042 : decode cL_law 1042 = .ok (.iconst 0, 1) := by decide +kernel
theorem dL_law_1043 : decode cL_law 1043 = .ok (.ireturn, 1) := by decide +kernel
theorem dL_law_1044 : decode cL_law 1044 = .ok (.aload_n 1, 1) := by decide +kernel
theorem dL_law_1045 : decode cL_law 1045 = .ok (.aload_n 0, 1) := by decide +kernel
theorem dL_law_1046 : decode cL_law 1046 = .ok (.iload_n 3, 1) := by decide +kernel
theorem dL_law_1047 : decode cL_law 1047 = .ok (.iconst 1, 1) := by decide +kernel
theorem dL_law_1048 : decode cL_law 1048 = .ok (.iadd, 1) := by decide +kernel
theorem dL_law_1049 : decode cL_law 1049 = .ok (.iaload, 1) := by decide +kernel
theorem dL_law_1050 : decode cL_law 1050 = .ok (.invokevirtual 138, 3) := by decide +kernel
theorem dL_law_1053 : decode cL_law 1053 = .ok (.aload_n 2, 1) := by decide +kernel
theorem dL_law_1054 : decode cL_law 1054 = .ok (.aload_n 0, 1) := by decide +kernel
theorem dL_law_1055 : decode cL_law 1055 = .ok (.iload_n 3, 1) := by decide +kernel
theorem dL_law_1056 : decode cL_law 1056 = .ok (.iconst 1, 1) := by decide +kernel
theorem dL_law_1057 : decode cL_law 1057 = .ok (.iadd, 1) := by decide +kernel
theorem dL_law_1058 : decode cL_law 1058 = .ok (.iaload, 1) := by decide +kernel
theorem dL_law_1059 : decode cL_law 1059 = .ok (.invokevirtual 141, 3) := by decide +kernel
theorem dL_law_1062 : decode cL_law 1062 = .ok (.if_icmp .eq 307, 3) := by decide +kernel
theorem dL_law_1065 : decode cL_law 1065 = .ok (.iconst 0, 1) := by decide +kernel
theorem dL_law_1066 : decode cL_law 1066 = .ok (.ireturn, 1) := by decide +kernel
theorem dL_law_1067 : decode cL_law 1067 = .ok (.aload_n 1, 1) := by decide +kernel
theorem dL_law_1068 : decode cL_law 1068 = .ok (.aload_n 0, 1) := by decide +kernel
theorem dL_law_1069 : decode cL_law 1069 = .ok (.iload_n 3, 1) := by decide +kernel
theorem dL_law_1070 : decode cL_law 1070 = .ok (.iconst 1, 1) := by decide +kernel
theorem dL_law_1071 : decode cL_law 1071 = .ok (.iadd, 1) := by decide +kernel
theorem dL_law_1072 : decode cL_law 1072 = .ok (.iaload, 1) := by decide +kernel
theorem dL_law_1073 : decode cL_law 1073 = .ok (.invokevirtual 142, 3) := by decide +kernel
theorem dL_law_1076 : decode cL_law 1076 = .ok (.aload_n 2, 1) := by decide +kernel
theorem dL_law_1077 : decode cL_law 1077 = .ok (.aload_n 0, 1) := by decide +kernel
theorem dL_law_1078 : decode cL_law 1078 = .ok (.iload_n 3, 1) := by decide +kernel
theorem dL_law_1079 : decode cL_law 1079 = .ok (.iconst 1, 1) := by decide +kernel
theorem dL_law_1080 : decode cL_law 1080 = .ok (.iadd, 1) := by decide +kernel
theorem dL_law_1081 : decode cL_law 1081 = .ok (.iaload, 1) := by decide +kernel
theorem dL_law_1082 : decode cL_law 1082 = .ok (.invokevirtual 145, 3) := by decide +kernel
theorem dL_law_1085 : decode cL_law 1085 = .ok (.if_icmp .eq 284, 3) := by decide +kernel
theorem dL_law_1088 : decode cL_law 1088 = .ok (.iconst 0, 1) := by decide +kernel
theorem dL_law_1089 : decode cL_law 1089 = .ok (.ireturn, 1) := by decide +kernel
theorem dL_law_1090 : decode cL_law 1090 = .ok (.aload_n 1, 1) := by decide +kernel
theorem dL_law_1091 : decode cL_law 1091 = .ok (.aload_n 0, 1) := by decide +kernel
theorem dL_law_1092 : decode cL_law 1092 = .ok (.iload_n 3, 1) := by decide +kernel
theorem dL_law_1093 : decode cL_law 1093 = .ok (.iconst 1, 1) := by decide +kernel
theorem dL_law_1094 : decode cL_law 1094 = .ok (.iadd, 1) := by decide +kernel
theorem dL_law_1095 : decode cL_law 1095 = .ok (.iaload, 1) := by decide +kernel
theorem dL_law_1096 : decode cL_law 1096 = .ok (.invokevirtual 146, 3) := by decide +kernel
theorem dL_law_1099 : decode cL_law 1099 = .ok (.aload_n 2, 1) := by decide +kernel
theorem dL_law_1100 : decode cL_law 1100 = .ok (.aload_n 0, 1) := by decide +kernel
theorem dL_law_1101 : decode cL_law 1101 = .ok (.iload_n 3, 1) := by decide +kernel
theorem dL_law_1102 : decode cL_law 1102 = .ok (.iconst 1, 1) := by decide +kernel
theorem dL_law_1103 : decode cL_law 1103 = .ok (.iadd, 1) := by decide +kernel
theorem dL_law_1104 : decode cL_law 1104 = .ok (.iaload, 1) := by decide +kernel
theorem dL_law_1105 : decode cL_law 1105 = .ok (.invokevirtual 149, 3) := by decide +kernel
theorem dL_law_1108 : decode cL_law 1108 = .ok (.if_icmp .eq 261, 3) := by decide +kernel
theorem dL_law_1111 : decode cL_law 1111 = .ok (.iconst 0, 1) := by decide +kernel
theorem dL_law_1112 : decode cL_law 1112 = .ok (.ireturn, 1) := by decide +kernel
theorem dL_law_1113 : decode cL_law 1113 = .ok (.aload_n 1, 1) := by decide +kernel
theorem dL_law_1114 : decode cL_law 1114 = .ok (.aload_n 0, 1) := by decide +kernel
theorem dL_law_1115 : decode cL_law 1115 = .ok (.iload_n 3, 1) := by decide +kernel
theorem dL_law_1116 : decode cL_law 1116 = .ok (.iconst 1, 1) := by decide +kernel
theorem dL_law_1117 : decode cL_law 1117 = .ok (.iadd, 1) := by decide +kernel
theorem dL_law_1118 : decode cL_law 1118 = .ok (.iaload, 1) := by decide +kernel
theorem dL_law_1119 : decode cL_law 1119 = .ok (.invokevirtual 150, 3) := by decide +kernel
theorem dL_law_1122 : decode cL_law 1122 = .ok (.aload_n 2, 1) := by decide +kernel
theorem dL_law_1123 : decode cL_law 1123 = .ok (.aload_n 0, 1) := by decide +kernel
theorem dL_law_1124 : decode cL_law 1124 = .ok (.iload_n 3, 1) := by decide +kernel
theorem dL_law_1125 : decode cL_law 1125 = .ok (.iconst 1, 1) := by decide +kernel
theorem dL_law_1126 : decode cL_law 1126 = .ok (.iadd, 1) := by decide +kernel
theorem dL_law_1127 : decode cL_law 1127 = .ok (.iaload, 1) := by decide +kernel
theorem dL_law_1128 : decode cL_law 1128 = .ok (.invokevirtual 153, 3) := by decide +kernel
theorem dL_law_1131 : decode cL_law 1131 = .ok (.if_icmp .eq 238, 3) := by decide +kernel
theorem dL_law_1134 : decode cL_law 1134 = .ok (.iconst 0, 1) := by decide +kernel
theorem dL_law_1135 : decode cL_law 1135 = .ok (.ireturn, 1) := by decide +kernel
theorem dL_law_1136 : decode cL_law 1136 = .ok (.aload_n 1, 1) := by decide +kernel
theorem dL_law_1137 : decode cL_law 1137 = .ok (.aload_n 0, 1) := by decide +kernel
theorem dL_law_1138 : decode cL_law 1138 = .ok (.iload_n 3, 1) := by decide +kernel
theorem dL_law_1139 : decode cL_law 1139 = .ok (.iconst 1, 1) := by decide +kernel
theorem dL_law_1140 : decode cL_law 1140 = .ok (.iadd, 1) := by decide +kernel
theorem dL_law_1141 : decode cL_law 1141 = .ok (.iaload, 1) := by decide +kernel
theorem dL_law_1142 : decode cL_law 1142 = .ok (.aload_n 0, 1) := by decide +kernel
theorem dL_law_1143 : decode cL_law 1143 = .ok (.iload_n 3, 1) := by decide +kernel
theorem dL_law_1144 : decode cL_law 1144 = .ok (.iconst 2, 1) := by decide +kernel
theorem dL_law_1145 : decode cL_law 1145 = .ok (.iadd, 1) := by decide +kernel
theorem dL_law_1146 : decode cL_law 1146 = .ok (.iaload, 1) := by decide +kernel
theorem dL_law_1147 : decode cL_law 1147 = .ok (.aload_n 0, 1) := by decide +kernel
theorem dL_law_1148 : decode cL_law 1148 = .ok (.iload_n 3, 1) := by decide +kernel
theorem dL_law_1149 : decode cL_law 1149 = .ok (.iconst 3, 1) := by decide +kernel
theorem dL_law_1150 : decode cL_law 1150 = .ok (.iadd, 1) := by decide +kernel
theorem dL_law_1151 : decode cL_law 1151 = .ok (.iaload, 1) := by decide +kernel
theorem dL_law_1152 : decode cL_law 1152 = .ok (.invokevirtual 154, 3) := by decide +kernel
theorem dL_law_1155 : decode cL_law 1155 = .ok (.aload_n 2, 1) := by decide +kernel
theorem dL_law_1156 : decode cL_law 1156 = .ok (.aload_n 0, 1) := by decide +kernel
theorem dL_law_1157 : decode cL_law 1157 = .ok (.iload_n 3, 1) := by decide +kernel
theorem dL_law_1158 : decode cL_law 1158 = .ok (.iconst 1, 1) := by decide +kernel
theorem dL_law_1159 : decode cL_law 1159 = .ok (.iadd, 1) := by decide +kernel
theorem dL_law_1160 : decode cL_law 1160 = .ok (.iaload, 1) := by decide +kernel
theorem dL_law_1161 : decode cL_law 1161 = .ok (.aload_n 0, 1) := by decide +kernel
theorem dL_law_1162 : decode cL_law 1162 = .ok (.iload_n 3, 1) := by decide +kernel
theorem dL_law_1163 : decode cL_law 1163 = .ok (.iconst 2, 1) := by decide +kernel
theorem dL_law_1164 : decode cL_law 1164 = .ok (.iadd, 1) := by decide +kernel
theorem dL_law_1165 : decode cL_law 1165 = .ok (.iaload, 1) := by decide +kernel
theorem dL_law_1166 : decode cL_law 1166 = .ok (.aload_n 0, 1) := by decide +kernel
theorem dL_law_1167 : decode cL_law 1167 = .ok (.iload_n 3, 1) := by decide +kernel
theorem dL_law_1168 : decode cL_law 1168 = .ok (.iconst 3, 1) := by decide +kernel
theorem dL_law_1169 : decode cL_law 1169 = .ok (.iadd, 1) := by decide +kernel
theorem dL_law_1170 : decode cL_law 1170 = .ok (.iaload, 1) := by decide +kernel
theorem dL_law_1171 : decode cL_law 1171 = .ok (.invokevirtual 157, 3) := by decide +kernel
theorem dL_law_1174 : decode cL_law 1174 = .ok (.if_icmp .eq 195, 3) := by decide +kernel
theorem dL_law_1177 : decode cL_law 1177 = .ok (.iconst 0, 1) := by decide +kernel
theorem dL_law_1178 : decode cL_law 1178 = .ok (.ireturn, 1) := by decide +kernel
theorem dL_law_1179 : decode cL_law 1179 = .ok (.aload_n 1, 1) := by decide +kernel
theorem dL_law_1180 : decode cL_law 1180 = .ok (.aload_n 0, 1) := by decide +kernel
theorem dL_law_1181 : decode cL_law 1181 = .ok (.iload_n 3, 1) := by decide +kernel
theorem dL_law_1182 : decode cL_law 1182 = .ok (.iconst 1, 1) := by decide +kernel
theorem dL_law_1183 : decode cL_law 1183 = .ok (.iadd, 1) := by decide +kernel
theorem dL_law_1184 : decode cL_law 1184 = .ok (.iaload, 1) := by decide +kernel
theorem dL_law_1185 : decode cL_law 1185 = .ok (.aload_n 0, 1) := by decide +kernel
theorem dL_law_1186 : decode cL_law 1186 = .ok (.iload_n 3, 1) := by decide +kernel
theorem dL_law_1187 : decode cL_law 1187 = .ok (.iconst 2, 1) := by decide +kernel
theorem dL_law_1188 : decode cL_law 1188 = .ok (.iadd, 1) := by decide +kernel
theorem dL_law_1189 : decode cL_law 1189 = .ok (.iaload, 1) := by decide +kernel
theorem dL_law_1190 : decode cL_law 1190 = .ok (.aload_n 0, 1) := by decide +kernel
theorem dL_law_1191 : decode cL_law 1191 = .ok (.iload_n 3, 1) := by decide +kernel
theorem dL_law_1192 : decode cL_law 1192 = .ok (.iconst 3, 1) := by decide +kernel
theorem dL_law_1193 : decode cL_law 1193 = .ok (.iadd, 1) := by decide +kernel
theorem dL_law_1194 : decode cL_law 1194 = .ok (.iaload, 1) := by decide +kernel
theorem dL_law_1195 : decode cL_law 1195 = .ok (.invokevirtual 158, 3) := by decide +kernel
theorem dL_law_1198 : decode cL_law 1198 = .ok (.aload_n 2, 1) := by decide +kernel
theorem dL_law_1199 : decode cL_law 1199 = .ok (.aload_n 0, 1) := by decide +kernel
theorem dL_law_1200 : decode cL_law 1200 = .ok (.iload_n 3, 1) := by decide +kernel
theorem dL_law_1201 : decode cL_law 1201 = .ok (.iconst 1, 1) := by decide +kernel
theorem dL_law_1202 : decode cL_law 1202 = .ok (.iadd, 1) := by decide +kernel
theorem dL_law_1203 : decode cL_law 1203 = .ok (.iaload, 1) := by decide +kernel
theorem dL_law_1204 : decode cL_law 1204 = .ok (.aload_n 0, 1) := by decide +kernel
theorem dL_law_1205 : decode cL_law 1205 = .ok (.iload_n 3, 1) := by decide +kernel
theorem dL_law_1206 : decode cL_law 1206 = .ok (.iconst 2, 1) := by decide +kernel
theorem dL_law_1207 : decode cL_law 1207 = .ok (.iadd, 1) := by decide +kernel
theorem dL_law_1208 : decode cL_law 1208 = .ok (.iaload, 1) := by decide +kernel
theorem dL_law_1209 : decode cL_law 1209 = .ok (.aload_n 0, 1) := by decide +kernel
theorem dL_law_1210 : decode cL_law 1210 = .ok (.iload_n 3, 1) := by decide +kernel
theorem dL_law_1211 : decode cL_law 1211 = .ok (.iconst 3, 1) := by decide +kernel
theorem dL_law_1212 : decode cL_law 1212 = .ok (.iadd, 1) := by decide +kernel
theorem dL_law_1213 : decode cL_law 1213 = .ok (.iaload, 1) := by decide +kernel
theorem dL_law_1214 : decode cL_law 1214 = .ok (.invokevirtual 161, 3) := by decide +kernel
theorem dL_law_1217 : decode cL_law 1217 = .ok (.if_icmp .eq 152, 3) := by decide +kernel
theorem dL_law_1220 : decode cL_law 1220 = .ok (.iconst 0, 1) := by decide +kernel
theorem dL_law_1221 : decode cL_law 1221 = .ok (.ireturn, 1) := by decide +kernel
theorem dL_law_1222 : decode cL_law 1222 = .ok (.aload_n 1, 1) := by decide +kernel
theorem dL_law_1223 : decode cL_law 1223 = .ok (.aload_n 0, 1) := by decide +kernel
theorem dL_law_1224 : decode cL_law 1224 = .ok (.iload_n 3, 1) := by decide +kernel
theorem dL_law_1225 : decode cL_law 1225 = .ok (.iconst 1, 1) := by decide +kernel
theorem dL_law_1226 : decode cL_law 1226 = .ok (.iadd, 1) := by decide +kernel
theorem dL_law_1227 : decode cL_law 1227 = .ok (.iaload, 1) := by decide +kernel
theorem dL_law_1228 : decode cL_law 1228 = .ok (.aload_n 0, 1) := by decide +kernel
theorem dL_law_1229 : decode cL_law 1229 = .ok (.iload_n 3, 1) := by decide +kernel
theorem dL_law_1230 : decode cL_law 1230 = .ok (.iconst 2, 1) := by decide +kernel
theorem dL_law_1231 : decode cL_law 1231 = .ok (.iadd, 1) := by decide +kernel
theorem dL_law_1232 : decode cL_law 1232 = .ok (.iaload, 1) := by decide +kernel
theorem dL_law_1233 : decode cL_law 1233 = .ok (.invokevirtual 162, 3) := by decide +kernel
theorem dL_law_1236 : decode cL_law 1236 = .ok (.aload_n 2, 1) := by decide +kernel
theorem dL_law_1237 : decode cL_law 1237 = .ok (.aload_n 0, 1) := by decide +kernel
theorem dL_law_1238 : decode cL_law 1238 = .ok (.iload_n 3, 1) := by decide +kernel
theorem dL_law_1239 : decode cL_law 1239 = .ok (.iconst 1, 1) := by decide +kernel
theorem dL_law_1240 : decode cL_law 1240 = .ok (.iadd, 1) := by decide +kernel
theorem dL_law_1241 : decode cL_law 1241 = .ok (.iaload, 1) := by decide +kernel
theorem dL_law_1242 : decode cL_law 1242 = .ok (.aload_n 0, 1) := by decide +kernel
theorem dL_law_1243 : decode cL_law 1243 = .ok (.iload_n 3, 1) := by decide +kernel
theorem dL_law_1244 : decode cL_law 1244 = .ok (.iconst 2, 1) := by decide +kernel
theorem dL_law_1245 : decode cL_law 1245 = .ok (.iadd, 1) := by decide +kernel
theorem dL_law_1246 : decode cL_law 1246 = .ok (.iaload, 1) := by decide +kernel
theorem dL_law_1247 : decode cL_law 1247 = .ok (.invokevirtual 165, 3) := by decide +kernel
theorem dL_law_1250 : decode cL_law 1250 = .ok (.if_icmp .eq 119, 3) := by decide +kernel
theorem dL_law_1253 : decode cL_law 1253 = .ok (.iconst 0, 1) := by decide +kernel
theorem dL_law_1254 : decode cL_law 1254 = .ok (.ireturn, 1) := by decide +kernel
theorem dL_law_1255 : decode cL_law 1255 = .ok (.aload_n 1, 1) := by decide +kernel
theorem dL_law_1256 : decode cL_law 1256 = .ok (.invokevirtual 166, 3) := by decide +kernel
theorem dL_law_1259 : decode cL_law 1259 = .ok (.aload_n 2, 1) := by decide +kernel
theorem dL_law_1260 : decode cL_law 1260 = .ok (.invokevirtual 169, 3) := by decide +kernel
theorem dL_law_1263 : decode cL_law 1263 = .ok (.if_icmp .eq 106, 3) := by decide +kernel
theorem dL_law_1266 : decode cL_law 1266 = .ok (.iconst 0, 1) := by decide +kernel
theorem dL_law_1267 : decode cL_law 1267 = .ok (.ireturn, 1) := by decide +kernel
theorem dL_law_1268 : decode cL_law 1268 = .ok (.aload_n 1, 1) := by decide +kernel
theorem dL_law_1269 : decode cL_law 1269 = .ok (.invokevirtual 170, 3) := by decide +kernel
theorem dL_law_1272 : decode cL_law 1272 = .ok (.aload_n 2, 1) := by decide +kernel
theorem dL_law_1273 : decode cL_law 1273 = .ok (.invokevirtual 174, 3) := by decide +kernel
theorem dL_law_1276 : decode cL_law 1276 = .ok (.lcmp, 1) := by decide +kernel
theorem dL_law_1277 : decode cL_law 1277 = .ok (.ifCond .eq 92, 3) := by decide +kernel
theorem dL_law_1280 : decode cL_law 1280 = .ok (.iconst 0, 1) := by decide +kernel
theorem dL_law_1281 : decode cL_law 1281 = .ok (.ireturn, 1) := by decide +kernel
theorem dL_law_1282 : decode cL_law 1282 = .ok (.aload_n 1, 1) := by decide +kernel
theorem dL_law_1283 : decode cL_law 1283 = .ok (.invokevirtual 175, 3) := by decide +kernel
theorem dL_law_1286 : decode cL_law 1286 = .ok (.aload_n 2, 1) := by decide +kernel
theorem dL_law_1287 : decode cL_law 1287 = .ok (.invokevirtual 178, 3) := by decide +kernel
theorem dL_law_1290 : decode cL_law 1290 = .ok (.lcmp, 1) := by decide +kernel
theorem dL_law_1291 : decode cL_law 1291 = .ok (.ifCond .eq 78, 3) := by decide +kernel
theorem dL_law_1294 : decode cL_law 1294 = .ok (.iconst 0, 1) := by decide +kernel
theorem dL_law_1295 : decode cL_law 1295 = .ok (.ireturn, 1) := by decide +kernel
theorem dL_law_1296 : decode cL_law 1296 = .ok (.aload_n 1, 1) := by decide +kernel
theorem dL_law_1297 : decode cL_law 1297 = .ok (.aload_n 0, 1) := by decide +kernel
theorem dL_law_1298 : decode cL_law 1298 = .ok (.iload_n 3, 1) := by decide +kernel
theorem dL_law_1299 : decode cL_law 1299 = .ok (.iconst 1, 1) := by decide +kernel
theorem dL_law_1300 : decode cL_law 1300 = .ok (.iadd, 1) := by decide +kernel
theorem dL_law_1301 : decode cL_law 1301 = .ok (.iaload, 1) := by decide +kernel
theorem dL_law_1302 : decode cL_law 1302 = .ok (.invokevirtual 179, 3) := by decide +kernel
theorem dL_law_1305 : decode cL_law 1305 = .ok (.aload_n 2, 1) := by decide +kernel
theorem dL_law_1306 : decode cL_law 1306 = .ok (.aload_n 0, 1) := by decide +kernel
theorem dL_law_1307 : decode cL_law 1307 = .ok (.iload_n 3, 1) := by decide +kernel
theorem dL_law_1308 : decode cL_law 1308 = .ok (.iconst 1, 1) := by decide +kernel
theorem dL_law_1309 : decode cL_law 1309 = .ok (.iadd, 1) := by decide +kernel
theorem dL_law_1310 : decode cL_law 1310 = .ok (.iaload, 1) := by decide +kernel
theorem dL_law_1311 : decode cL_law 1311 = .ok (.invokevirtual 182, 3) := by decide +kernel
theorem dL_law_1314 : decode cL_law 1314 = .ok (.if_icmp .eq 55, 3) := by decide +kernel
theorem dL_law_1317 : decode cL_law 1317 = .ok (.iconst 0, 1) := by decide +kernel
theorem dL_law_1318 : decode cL_law 1318 = .ok (.ireturn, 1) := by decide +kernel
theorem dL_law_1319 : decode cL_law 1319 = .ok (.aload_n 1, 1) := by decide +kernel
theorem dL_law_1320 : decode cL_law 1320 = .ok (.invokevirtual 183, 3) := by decide +kernel
theorem dL_law_1323 : decode cL_law 1323 = .ok (.aload_n 2, 1) := by decide +kernel
theorem dL_law_1324 : decode cL_law 1324 = .ok (.invokevirtual 186, 3) := by decide +kernel
theorem dL_law_1327 : decode cL_law 1327 = .ok (.if_icmp .eq 42, 3) := by decide +kernel
theorem dL_law_1330 : decode cL_law 1330 = .ok (.iconst 0, 1) := by decide +kernel
theorem dL_law_1331 : decode cL_law 1331 = .ok (.ireturn, 1) := by decide +kernel
theorem dL_law_1332 : decode cL_law 1332 = .ok (.aload_n 1, 1) := by decide +kernel
theorem dL_law_1333 : decode cL_law 1333 = .ok (.aload_n 0, 1) := by decide +kernel
theorem dL_law_1334 : decode cL_law 1334 = .ok (.iload_n 3, 1) := by decide +kernel
theorem dL_law_1335 : decode cL_law 1335 = .ok (.iconst 1, 1) := by decide +kernel
theorem dL_law_1336 : decode cL_law 1336 = .ok (.iadd, 1) := by decide +kernel
theorem dL_law_1337 : decode cL_law 1337 = .ok (.iaload, 1) := by decide +kernel
theorem dL_law_1338 : decode cL_law 1338 = .ok (.invokevirtual 187, 3) := by decide +kernel
theorem dL_law_1341 : decode cL_law 1341 = .ok (.aload_n 2, 1) := by decide +kernel
theorem dL_law_1342 : decode cL_law 1342 = .ok (.aload_n 0, 1) := by decide +kernel
theorem dL_law_1343 : decode cL_law 1343 = .ok (.iload_n 3, 1) := by decide +kernel
theorem dL_law_1344 : decode cL_law 1344 = .ok (.iconst 1, 1) := by decide +kernel
theorem dL_law_1345 : decode cL_law 1345 = .ok (.iadd, 1) := by decide +kernel
theorem dL_law_1346 : decode cL_law 1346 = .ok (.iaload, 1) := by decide +kernel
theorem dL_law_1347 : decode cL_law 1347 = .ok (.invokevirtual 190, 3) := by decide +kernel
theorem dL_law_1350 : decode cL_law 1350 = .ok (.if_icmp .eq 19, 3) := by decide +kernel
theorem dL_law_1353 : decode cL_law 1353 = .ok (.iconst 0, 1) := by decide +kernel
theorem dL_law_1354 : decode cL_law 1354 = .ok (.ireturn, 1) := by decide +kernel
theorem dL_law_1355 : decode cL_law 1355 = .ok (.aload_n 1, 1) := by decide +kernel
theorem dL_law_1356 : decode cL_law 1356 = .ok (.invokevirtual 191, 3) := by decide +kernel
theorem dL_law_1359 : decode cL_law 1359 = .ok (.aload_n 2, 1) := by decide +kernel
theorem dL_law_1360 : decode cL_law 1360 = .ok (.invokevirtual 194, 3) := by decide +kernel
theorem dL_law_1363 : decode cL_law 1363 = .ok (.lcmp, 1) := by decide +kernel
theorem dL_law_1364 : decode cL_law 1364 = .ok (.ifCond .eq 5, 3) := by decide +kernel
theorem dL_law_1367 : decode cL_law 1367 = .ok (.iconst 0, 1) := by decide +kernel
theorem dL_law_1368 : decode cL_law 1368 = .ok (.ireturn, 1) := by decide +kernel
theorem dL_law_1369 : decode cL_law 1369 = .ok (.iinc 3 6, 3) := by decide +kernel
theorem dL_law_1372 : decode cL_law 1372 = .ok (.goto (-1354), 3) := by decide +kernel
theorem dL_law_1375 : decode cL_law 1375 = .ok (.iconst 1, 1) := by decide +kernel
theorem dL_law_1376 : decode cL_law 1376 = .ok (.ireturn, 1) := by decide +kernel
end
section
/-- the tables' words that go with a call -/
def WA : List Cond := lw_tbl.filter goodWord
theorem mW (i : Nat) {w : Cond} (h : lw_tbl[i]? = some w) (g : goodWord w = true) : w ∈ WA := List.mem_filter.mpr ⟨List.mem_of_getElem? h, g⟩
theorem mWt {w : Cond} (h : w ∈ WA) : w ∈ lw_tbl := (List.mem_filter.mp h).1
theorem mWs {ws : List Cond} (ps : List Nat) (hp : ws = ps.filterMap (fun i => lw_tbl[i]?)) (g : ws.all goodWord = true) : ∀ w ∈ ws, w ∈ WA := by
  intro w hw
  refine List.mem_filter.mpr ⟨?_, List.all_eq_true.mp g w hw⟩
  rw [hp] at hw
  obtain ⟨i, -, hi⟩ := List.mem_filterMap.mp hw
  exact List.mem_of_getElem? hi
theorem gWA (w0 : Cond) {c : Cond} (h : c ∈ WA) : GoodIn (w0 :: WA) (c :: WA) := fun w hw => (List.mem_cons.mp hw).elim (fun e => ⟨by rw [e]; exact List.mem_cons_of_mem _ h, by rw [e]; exact good_of_word (List.mem_filter.mp h).2⟩) (fun k => ⟨List.mem_cons_of_mem _ k, good_of_word (List.mem_filter.mp k).2⟩)
theorem gWB {c : Cond} (h : c ∈ WA) : GoodIn WA (c :: WA) := fun w hw => (List.mem_cons.mp hw).elim (fun e => ⟨by rw [e]; exact h, by rw [e]; exact good_of_word (List.mem_filter.mp h).2⟩) (fun k => ⟨k, good_of_word (List.mem_filter.mp k).2⟩)
theorem kZ_RL : Cond.initialized "WokenYearsLaw" ∈ WA := mW 58 (by decide +kernel) rfl
theorem kZ_RX5 : Cond.initialized "WokenYears" ∈ WA := mW 59 (by decide +kernel) rfl
theorem kZ_RJ9 : Cond.initialized "java/lang/Math" ∈ WA := mW 60 (by decide +kernel) rfl
theorem kZ_RX0 : Cond.initialized "WokenYears$Ints" ∈ WA := mW 61 (by decide +kernel) rfl
theorem kZ_RX2 : Cond.initialized "WokenYears$Reader" ∈ WA := mW 62 (by decide +kernel) rfl
theorem kZ_RX3 : Cond.initialized "WokenYears$Rounds" ∈ WA := mW 63 (by decide +kernel) rfl
theorem kZ_RX4 : Cond.initialized "WokenYears$Street" ∈ WA := mW 64 (by decide +kernel) rfl
theorem kZ_RX6 : Cond.initialized "WokenYearsModel" ∈ WA := mW 65 (by decide +kernel) rfl
theorem kZ_RJ10 : Cond.initialized "java/lang/System" ∈ WA := mW 66 (by decide +kernel) rfl
theorem kZ_RX1 : Cond.initialized "WokenYears$Kinds" ∈ WA := mW 67 (by decide +kernel) rfl
theorem kZ_RJ6 : Cond.initialized "java/lang/Integer" ∈ WA := mW 68 (by decide +kernel) rfl
theorem kC_L_7 : Cond.classLink "WokenYearsLaw" 7 "WokenYears" ∈ WA := mW 69 (by decide +kernel) rfl
theorem kI_RX5 : Cond.instantiable "WokenYears" 12 ∈ WA := mW 70 (by decide +kernel) rfl
theorem kM_L_9 : Cond.methodLink "WokenYearsLaw" 9 yX5_init ∈ WA := mW 71 (by decide +kernel) rfl
theorem kM_X5_1 : Cond.methodLink "WokenYears" 1 ⟨"java/lang/Object", "<init>", "()V"⟩ ∈ WA := mW 74 (by decide +kernel) rfl
theorem kM_X5_9 : Cond.methodLink "WokenYears" 9 yX5_missing ∈ WA := mW 77 (by decide +kernel) rfl
theorem kM_X5_79 : Cond.methodLink "WokenYears" 79 yJ9_max_7cf53 ∈ WA := mW 80 (by decide +kernel) rfl
theorem kC_X5_37 : Cond.classLink "WokenYears" 37 "WokenYears$Ints" ∈ WA := mW 83 (by decide +kernel) rfl
theorem kA_over : Cond.arrayOver (Jvm.ClassFile.FieldType.object "WokenYears$Ints") ∈ lw_tbl := List.mem_of_getElem? (i := 84) (by decide +kernel)
theorem kI_RX0 : Cond.instantiable "WokenYears$Ints" 2 ∈ WA := mW 85 (by decide +kernel) rfl
theorem kM_X5_39 : Cond.methodLink "WokenYears" 39 yX0_init ∈ WA := mW 86 (by decide +kernel) rfl
theorem kM_X0_1 : Cond.methodLink "WokenYears$Ints" 1 ⟨"java/lang/Object", "<init>", "()V"⟩ ∈ WA := mW 89 (by decide +kernel) rfl
theorem kM_X0_13 : Cond.methodLink "WokenYears$Ints" 13 yJ9_max_7cf53 ∈ WA := mW 90 (by decide +kernel) rfl
theorem kF_X0_19 : Cond.fieldLink "WokenYears$Ints" 19 "WokenYears$Ints" "cells" "[I" ∈ WA := mW 91 (by decide +kernel) rfl
theorem kF_X0_7 : Cond.fieldLink "WokenYears$Ints" 7 "WokenYears$Ints" "size" "I" ∈ WA := mW 92 (by decide +kernel) rfl
theorem kF_X2_44 : Cond.fieldLink "WokenYears$Reader" 44 "WokenYears$Ints" "size" "I" ∈ WA := mW 93 (by decide +kernel) rfl
theorem kF_X4_55 : Cond.fieldLink "WokenYears$Street" 55 "WokenYears$Ints" "size" "I" ∈ WA := mW 94 (by decide +kernel) rfl
theorem kF_X5_85 : Cond.fieldLink "WokenYears" 85 "WokenYears$Ints" "size" "I" ∈ WA := mW 95 (by decide +kernel) rfl
theorem kA_int : Cond.arrayClass Jvm.ClassFile.FieldType.int ∈ WA := mW 101 (by decide +kernel) rfl
theorem kC_X5_23 : Cond.classLink "WokenYears" 23 "WokenYears$Reader" ∈ WA := mW 102 (by decide +kernel) rfl
theorem kI_RX2 : Cond.instantiable "WokenYears$Reader" 3 ∈ WA := mW 103 (by decide +kernel) rfl
theorem kN_X5_25 : Cond.methodLinkNest "WokenYears" 25 yX2_init "WokenYears" ∈ lw_tbl := List.mem_of_getElem? (i := 104) (by decide +kernel)
theorem kM_X2_3 : Cond.methodLink "WokenYears$Reader" 3 ⟨"java/lang/Object", "<init>", "()V"⟩ ∈ WA := mW 107 (by decide +kernel) rfl
theorem kF_X2_9 : Cond.fieldLink "WokenYears$Reader" 9 "WokenYears$Reader" "text" "LWokenYears$Ints;" ∈ WA := mW 108 (by decide +kernel) rfl
theorem kF_X2_15 : Cond.fieldLink "WokenYears$Reader" 15 "WokenYears$Reader" "place" "I" ∈ WA := mW 109 (by decide +kernel) rfl
theorem kF_X2_19 : Cond.fieldLink "WokenYears$Reader" 19 "WokenYears$Reader" "good" "Z" ∈ WA := mW 110 (by decide +kernel) rfl
theorem kC_X5_30 : Cond.classLink "WokenYears" 30 "WokenYears$Rounds" ∈ WA := mW 118 (by decide +kernel) rfl
theorem kI_RX3 : Cond.instantiable "WokenYears$Rounds" 6 ∈ WA := mW 119 (by decide +kernel) rfl
theorem kN_X5_32 : Cond.methodLinkNest "WokenYears" 32 yX3_init "WokenYears" ∈ lw_tbl := List.mem_of_getElem? (i := 120) (by decide +kernel)
theorem kM_X3_3 : Cond.methodLink "WokenYears$Rounds" 3 ⟨"java/lang/Object", "<init>", "()V"⟩ ∈ WA := mW 123 (by decide +kernel) rfl
theorem kC_X3_9 : Cond.classLink "WokenYears$Rounds" 9 "WokenYears$Ints" ∈ WA := mW 124 (by decide +kernel) rfl
theorem kM_X3_11 : Cond.methodLink "WokenYears$Rounds" 11 yX0_init ∈ WA := mW 125 (by decide +kernel) rfl
theorem kF_X3_14 : Cond.fieldLink "WokenYears$Rounds" 14 "WokenYears$Rounds" "ends" "LWokenYears$Ints;" ∈ WA := mW 126 (by decide +kernel) rfl
theorem kF_X3_20 : Cond.fieldLink "WokenYears$Rounds" 20 "WokenYears$Rounds" "order" "LWokenYears$Ints;" ∈ WA := mW 127 (by decide +kernel) rfl
theorem kF_X3_23 : Cond.fieldLink "WokenYears$Rounds" 23 "WokenYears$Rounds" "more" "LWokenYears$Ints;" ∈ WA := mW 128 (by decide +kernel) rfl
theorem kF_X3_26 : Cond.fieldLink "WokenYears$Rounds" 26 "WokenYears$Rounds" "spare" "LWokenYears$Ints;" ∈ WA := mW 129 (by decide +kernel) rfl
theorem kF_X3_29 : Cond.fieldLink "WokenYears$Rounds" 29 "WokenYears$Rounds" "best" "LWokenYears$Ints;" ∈ WA := mW 130 (by decide +kernel) rfl
theorem kF_X5_223 : Cond.fieldLink "WokenYears" 223 "WokenYears$Rounds" "best" "LWokenYears$Ints;" ∈ WA := mW 131 (by decide +kernel) rfl
theorem kF_X3_77 : Cond.fieldLink "WokenYears$Rounds" 77 "WokenYears$Rounds" "bestWalked" "I" ∈ WA := mW 132 (by decide +kernel) rfl
theorem kC_X5_46 : Cond.classLink "WokenYears" 46 "WokenYears$Street" ∈ WA := mW 146 (by decide +kernel) rfl
theorem kI_RX4 : Cond.instantiable "WokenYears$Street" 15 ∈ WA := mW 147 (by decide +kernel) rfl
theorem kM_X5_48 : Cond.methodLink "WokenYears" 48 yX4_init ∈ WA := mW 148 (by decide +kernel) rfl
theorem kM_X4_3 : Cond.methodLink "WokenYears$Street" 3 ⟨"java/lang/Object", "<init>", "()V"⟩ ∈ WA := mW 151 (by decide +kernel) rfl
theorem kC_X4_9 : Cond.classLink "WokenYears$Street" 9 "WokenYears$Ints" ∈ WA := mW 152 (by decide +kernel) rfl
theorem kM_X4_11 : Cond.methodLink "WokenYears$Street" 11 yX0_init ∈ WA := mW 153 (by decide +kernel) rfl
theorem kM_X4_38 : Cond.methodLink "WokenYears$Street" 38 yX0_fill ∈ WA := mW 154 (by decide +kernel) rfl
theorem kM_X0_23 : Cond.methodLink "WokenYears$Ints" 23 yJ9_min_7cf53 ∈ WA := mW 158 (by decide +kernel) rfl
theorem kF_X4_14 : Cond.fieldLink "WokenYears$Street" 14 "WokenYears$Street" "kinds" "LWokenYears$Ints;" ∈ WA := mW 161 (by decide +kernel) rfl
theorem kF_X5_138 : Cond.fieldLink "WokenYears" 138 "WokenYears$Street" "kinds" "LWokenYears$Ints;" ∈ WA := mW 162 (by decide +kernel) rfl
theorem kF_X4_20 : Cond.fieldLink "WokenYears$Street" 20 "WokenYears$Street" "wants" "LWokenYears$Ints;" ∈ WA := mW 163 (by decide +kernel) rfl
theorem kF_X3_48 : Cond.fieldLink "WokenYears$Rounds" 48 "WokenYears$Street" "wants" "LWokenYears$Ints;" ∈ WA := mW 164 (by decide +kernel) rfl
theorem kF_X4_23 : Cond.fieldLink "WokenYears$Street" 23 "WokenYears$Street" "firstDates" "LWokenYears$Ints;" ∈ WA := mW 165 (by decide +kernel) rfl
theorem kF_X4_26 : Cond.fieldLink "WokenYears$Street" 26 "WokenYears$Street" "dates" "LWokenYears$Ints;" ∈ WA := mW 166 (by decide +kernel) rfl
theorem kF_X5_146 : Cond.fieldLink "WokenYears" 146 "WokenYears$Street" "dates" "LWokenYears$Ints;" ∈ WA := mW 167 (by decide +kernel) rfl
theorem kF_X4_29 : Cond.fieldLink "WokenYears$Street" 29 "WokenYears$Street" "tapped" "LWokenYears$Ints;" ∈ WA := mW 168 (by decide +kernel) rfl
theorem kF_X4_32 : Cond.fieldLink "WokenYears$Street" 32 "WokenYears$Street" "years" "LWokenYears$Ints;" ∈ WA := mW 169 (by decide +kernel) rfl
theorem kF_X4_35 : Cond.fieldLink "WokenYears$Street" 35 "WokenYears$Street" "deeds" "LWokenYears$Ints;" ∈ WA := mW 170 (by decide +kernel) rfl
theorem kF_X5_125 : Cond.fieldLink "WokenYears" 125 "WokenYears$Street" "deeds" "LWokenYears$Ints;" ∈ WA := mW 171 (by decide +kernel) rfl
theorem kF_X4_42 : Cond.fieldLink "WokenYears$Street" 42 "WokenYears$Street" "size" "I" ∈ WA := mW 172 (by decide +kernel) rfl
theorem kF_X3_32 : Cond.fieldLink "WokenYears$Rounds" 32 "WokenYears$Street" "size" "I" ∈ WA := mW 173 (by decide +kernel) rfl
theorem kF_X5_131 : Cond.fieldLink "WokenYears" 131 "WokenYears$Street" "size" "I" ∈ WA := mW 174 (by decide +kernel) rfl
theorem kF_X4_49 : Cond.fieldLink "WokenYears$Street" 49 "WokenYears$Street" "quarrel" "I" ∈ WA := mW 175 (by decide +kernel) rfl
theorem kF_X5_312 : Cond.fieldLink "WokenYears" 312 "WokenYears$Street" "quarrel" "I" ∈ WA := mW 176 (by decide +kernel) rfl
theorem kF_X4_46 : Cond.fieldLink "WokenYears$Street" 46 "WokenYears$Street" "firstFrost" "I" ∈ WA := mW 177 (by decide +kernel) rfl
theorem kF_X4_66 : Cond.fieldLink "WokenYears$Street" 66 "WokenYears$Street" "frost" "I" ∈ WA := mW 178 (by decide +kernel) rfl
theorem kF_X5_152 : Cond.fieldLink "WokenYears" 152 "WokenYears$Street" "frost" "I" ∈ WA := mW 179 (by decide +kernel) rfl
theorem kF_X3_54 : Cond.fieldLink "WokenYears$Rounds" 54 "WokenYears$Street" "minute" "I" ∈ WA := mW 180 (by decide +kernel) rfl
theorem kF_X4_56 : Cond.fieldLink "WokenYears$Street" 56 "WokenYears$Street" "minute" "I" ∈ WA := mW 181 (by decide +kernel) rfl
theorem kF_X5_179 : Cond.fieldLink "WokenYears" 179 "WokenYears$Street" "minute" "I" ∈ WA := mW 182 (by decide +kernel) rfl
theorem kF_X4_69 : Cond.fieldLink "WokenYears$Street" 69 "WokenYears$Street" "night" "I" ∈ WA := mW 183 (by decide +kernel) rfl
theorem kF_X5_299 : Cond.fieldLink "WokenYears" 299 "WokenYears$Street" "night" "I" ∈ WA := mW 184 (by decide +kernel) rfl
theorem kF_X4_59 : Cond.fieldLink "WokenYears$Street" 59 "WokenYears$Street" "place" "I" ∈ WA := mW 185 (by decide +kernel) rfl
theorem kF_X3_85 : Cond.fieldLink "WokenYears$Rounds" 85 "WokenYears$Street" "place" "I" ∈ WA := mW 186 (by decide +kernel) rfl
theorem kF_X5_169 : Cond.fieldLink "WokenYears" 169 "WokenYears$Street" "place" "I" ∈ WA := mW 187 (by decide +kernel) rfl
theorem kF_X4_72 : Cond.fieldLink "WokenYears$Street" 72 "WokenYears$Street" "purse" "I" ∈ WA := mW 188 (by decide +kernel) rfl
theorem kF_X5_302 : Cond.fieldLink "WokenYears" 302 "WokenYears$Street" "purse" "I" ∈ WA := mW 189 (by decide +kernel) rfl
theorem kM_X5_60 : Cond.methodLink "WokenYears" 60 yX0_fill ∈ WA := mW 221 (by decide +kernel) rfl
theorem kF_X5_13 : Cond.fieldLink "WokenYears" 13 "WokenYears" "rows" "[LWokenYears$Ints;" ∈ WA := mW 222 (by decide +kernel) rfl
theorem kF_X5_17 : Cond.fieldLink "WokenYears" 17 "WokenYears" "texts" "[LWokenYears$Ints;" ∈ WA := mW 223 (by decide +kernel) rfl
theorem kF_X5_20 : Cond.fieldLink "WokenYears" 20 "WokenYears" "kept" "[LWokenYears$Ints;" ∈ WA := mW 224 (by decide +kernel) rfl
theorem kF_X5_26 : Cond.fieldLink "WokenYears" 26 "WokenYears" "reader" "LWokenYears$Reader;" ∈ WA := mW 225 (by decide +kernel) rfl
theorem kF_X5_33 : Cond.fieldLink "WokenYears" 33 "WokenYears" "rounds" "LWokenYears$Rounds;" ∈ WA := mW 226 (by decide +kernel) rfl
theorem kF_X5_42 : Cond.fieldLink "WokenYears" 42 "WokenYears" "findings" "LWokenYears$Ints;" ∈ WA := mW 227 (by decide +kernel) rfl
theorem kF_X5_49 : Cond.fieldLink "WokenYears" 49 "WokenYears" "street" "LWokenYears$Street;" ∈ WA := mW 228 (by decide +kernel) rfl
theorem kF_X5_53 : Cond.fieldLink "WokenYears" 53 "WokenYears" "draft" "LWokenYears$Street;" ∈ WA := mW 229 (by decide +kernel) rfl
theorem kF_X5_64 : Cond.fieldLink "WokenYears" 64 "WokenYears" "finding" "I" ∈ WA := mW 230 (by decide +kernel) rfl
theorem kF_X5_107 : Cond.fieldLink "WokenYears" 107 "WokenYears" "asked" "I" ∈ WA := mW 231 (by decide +kernel) rfl
theorem kF_X5_277 : Cond.fieldLink "WokenYears" 277 "WokenYears" "upper" "J" ∈ WA := mW 232 (by decide +kernel) rfl
theorem kF_X5_56 : Cond.fieldLink "WokenYears" 56 "WokenYears" "lower" "J" ∈ WA := mW 233 (by decide +kernel) rfl
theorem kM_L_13 : Cond.methodLink "WokenYearsLaw" 13 yX5_row ∈ WA := mW 259 (by decide +kernel) rfl
theorem kM_X5_99 : Cond.methodLink "WokenYears" 99 yX5_pick ∈ WA := mW 263 (by decide +kernel) rfl
theorem kM_X5_88 : Cond.methodLink "WokenYears" 88 yX5_found ∈ WA := mW 266 (by decide +kernel) rfl
theorem kM_X5_68 : Cond.methodLink "WokenYears" 68 yX0_get ∈ WA := mW 270 (by decide +kernel) rfl
theorem kM_X5_72 : Cond.methodLink "WokenYears" 72 yX0_set ∈ WA := mW 274 (by decide +kernel) rfl
theorem kM_L_18 : Cond.methodLink "WokenYearsLaw" 18 yX5_lay ∈ WA := mW 278 (by decide +kernel) rfl
theorem kM_X5_103 : Cond.methodLink "WokenYears" 103 yX5_refusedAt ∈ WA := mW 282 (by decide +kernel) rfl
theorem kM_X5_91 : Cond.methodLink "WokenYears" 91 yX5_refused ∈ WA := mW 286 (by decide +kernel) rfl
theorem kM_X5_95 : Cond.methodLink "WokenYears" 95 yX0_has ∈ WA := mW 290 (by decide +kernel) rfl
theorem kM_L_23 : Cond.methodLink "WokenYearsLaw" 23 yX5_at ∈ WA := mW 294 (by decide +kernel) rfl
theorem kM_L_27 : Cond.methodLink "WokenYearsLaw" 27 yX5_tear ∈ WA := mW 298 (by decide +kernel) rfl
theorem kM_X5_110 : Cond.methodLink "WokenYears" 110 yX0_drop ∈ WA := mW 302 (by decide +kernel) rfl
theorem kM_L_32 : Cond.methodLink "WokenYearsLaw" 32 yX5_copy ∈ WA := mW 306 (by decide +kernel) rfl
theorem kM_X5_113 : Cond.methodLink "WokenYears" 113 yX0_spans ∈ WA := mW 310 (by decide +kernel) rfl
theorem kM_X5_117 : Cond.methodLink "WokenYears" 117 yX0_copyOut ∈ WA := mW 314 (by decide +kernel) rfl
theorem kM_X0_26 : Cond.methodLink "WokenYears$Ints" 26 yX0_spans ∈ WA := mW 318 (by decide +kernel) rfl
theorem kM_X0_30 : Cond.methodLink "WokenYears$Ints" 30 ⟨"java/lang/System", "arraycopy", "(Ljava/lang/Object;ILjava/lang/Object;II)V"⟩ ∈ WA := mW 319 (by decide +kernel) rfl
theorem kNat : Cond.native ⟨"java/lang/System", "arraycopy", "(Ljava/lang/Object;ILjava/lang/Object;II)V"⟩ ∈ WA := mW 321 (by decide +kernel) rfl
theorem kM_L_37 : Cond.methodLink "WokenYearsLaw" 37 yX5_mean ∈ WA := mW 322 (by decide +kernel) rfl
theorem kM_L_41 : Cond.methodLink "WokenYearsLaw" 41 yX5_text ∈ WA := mW 326 (by decide +kernel) rfl
theorem kM_L_45 : Cond.methodLink "WokenYearsLaw" 45 yX5_put ∈ WA := mW 330 (by decide +kernel) rfl
theorem kM_L_49 : Cond.methodLink "WokenYearsLaw" 49 yX5_fault ∈ WA := mW 334 (by decide +kernel) rfl
theorem kM_X5_121 : Cond.methodLink "WokenYears" 121 yX2_read ∈ WA := mW 338 (by decide +kernel) rfl
theorem kM_X2_23 : Cond.methodLink "WokenYears$Reader" 23 yX2_skipBlanks ∈ WA := mW 342 (by decide +kernel) rfl
theorem kM_X2_53 : Cond.methodLink "WokenYears$Reader" 53 yX2_sign ∈ WA := mW 346 (by decide +kernel) rfl
theorem kM_X2_65 : Cond.methodLink "WokenYears$Reader" 65 yX0_get ∈ WA := mW 350 (by decide +kernel) rfl
theorem kM_X2_26 : Cond.methodLink "WokenYears$Reader" 26 yX2_letter ∈ WA := mW 351 (by decide +kernel) rfl
theorem kM_X2_30 : Cond.methodLink "WokenYears$Reader" 30 yX2_figure ∈ WA := mW 355 (by decide +kernel) rfl
theorem kM_X2_34 : Cond.methodLink "WokenYears$Reader" 34 yX2_twoFigures ∈ WA := mW 359 (by decide +kernel) rfl
theorem kM_X2_38 : Cond.methodLink "WokenYears$Reader" 38 yX4_begin ∈ WA := mW 363 (by decide +kernel) rfl
theorem kM_X2_49 : Cond.methodLink "WokenYears$Reader" 49 yX2_readHouse ∈ WA := mW 367 (by decide +kernel) rfl
theorem kM_X2_56 : Cond.methodLink "WokenYears$Reader" 56 yX1_byLetter ∈ WA := mW 371 (by decide +kernel) rfl
theorem kM_X2_61 : Cond.methodLink "WokenYears$Reader" 61 yX4_build ∈ WA := mW 374 (by decide +kernel) rfl
theorem kM_X4_52 : Cond.methodLink "WokenYears$Street" 52 yX0_add ∈ WA := mW 378 (by decide +kernel) rfl
theorem kM_L_53 : Cond.methodLink "WokenYearsLaw" 53 yX5_town ∈ WA := mW 382 (by decide +kernel) rfl
theorem kM_X5_128 : Cond.methodLink "WokenYears" 128 yX4_replay ∈ WA := mW 386 (by decide +kernel) rfl
theorem kM_X4_62 : Cond.methodLink "WokenYears$Street" 62 yX0_takeFrom ∈ WA := mW 390 (by decide +kernel) rfl
theorem kM_X0_36 : Cond.methodLink "WokenYears$Ints" 36 yX0_fill ∈ WA := mW 394 (by decide +kernel) rfl
theorem kM_X0_40 : Cond.methodLink "WokenYears$Ints" 40 yX0_copyOut ∈ WA := mW 395 (by decide +kernel) rfl
theorem kM_X4_75 : Cond.methodLink "WokenYears$Street" 75 yX4_sleep ∈ WA := mW 396 (by decide +kernel) rfl
theorem kM_X4_78 : Cond.methodLink "WokenYears$Street" 78 yX0_get ∈ WA := mW 400 (by decide +kernel) rfl
theorem kM_X4_82 : Cond.methodLink "WokenYears$Street" 82 yX4_perform ∈ WA := mW 401 (by decide +kernel) rfl
theorem kM_X4_89 : Cond.methodLink "WokenYears$Street" 89 yJ9_abs_0f7a4 ∈ WA := mW 405 (by decide +kernel) rfl
theorem kM_X4_94 : Cond.methodLink "WokenYears$Street" 94 yX4_hear ∈ WA := mW 408 (by decide +kernel) rfl
theorem kM_X4_97 : Cond.methodLink "WokenYears$Street" 97 yX0_set ∈ WA := mW 412 (by decide +kernel) rfl
theorem kM_X4_100 : Cond.methodLink "WokenYears$Street" 100 yX4_tapsFor ∈ WA := mW 413 (by decide +kernel) rfl
theorem kM_X4_117 : Cond.methodLink "WokenYears$Street" 117 yX1_taps ∈ WA := mW 417 (by decide +kernel) rfl
theorem kM_X4_104 : Cond.methodLink "WokenYears$Street" 104 yX4_isAwake ∈ WA := mW 420 (by decide +kernel) rfl
theorem kM_X4_114 : Cond.methodLink "WokenYears$Street" 114 yX4_isHouse ∈ WA := mW 424 (by decide +kernel) rfl
theorem kM_X4_108 : Cond.methodLink "WokenYears$Street" 108 yX4_fee ∈ WA := mW 428 (by decide +kernel) rfl
theorem kM_X4_123 : Cond.methodLink "WokenYears$Street" 123 yX1_fee ∈ WA := mW 432 (by decide +kernel) rfl
theorem kM_X4_111 : Cond.methodLink "WokenYears$Street" 111 yJ9_min_7cf53 ∈ WA := mW 435 (by decide +kernel) rfl
theorem kM_L_57 : Cond.methodLink "WokenYearsLaw" 57 yX5_house ∈ WA := mW 436 (by decide +kernel) rfl
theorem kM_X5_132 : Cond.methodLink "WokenYears" 132 yX4_isHouse ∈ WA := mW 440 (by decide +kernel) rfl
theorem kM_X5_75 : Cond.methodLink "WokenYears" 75 yX5_within ∈ WA := mW 441 (by decide +kernel) rfl
theorem kM_X5_135 : Cond.methodLink "WokenYears" 135 yX4_tell ∈ WA := mW 444 (by decide +kernel) rfl
theorem kM_X4_127 : Cond.methodLink "WokenYears$Street" 127 yX4_more ∈ WA := mW 448 (by decide +kernel) rfl
theorem kM_X4_124 : Cond.methodLink "WokenYears$Street" 124 yJ9_max_7cf53 ∈ WA := mW 452 (by decide +kernel) rfl
theorem kM_L_61 : Cond.methodLink "WokenYearsLaw" 61 yX5_mark ∈ WA := mW 453 (by decide +kernel) rfl
theorem kM_X5_141 : Cond.methodLink "WokenYears" 141 yX1_isOf ∈ WA := mW 457 (by decide +kernel) rfl
theorem kM_X5_149 : Cond.methodLink "WokenYears" 149 yX4_tapsFor ∈ WA := mW 460 (by decide +kernel) rfl
theorem kM_X5_155 : Cond.methodLink "WokenYears" 155 yX1_taps ∈ WA := mW 461 (by decide +kernel) rfl
theorem kM_X5_159 : Cond.methodLink "WokenYears" 159 yX4_fee ∈ WA := mW 462 (by decide +kernel) rfl
theorem kM_X5_162 : Cond.methodLink "WokenYears" 162 yX1_fee ∈ WA := mW 463 (by decide +kernel) rfl
theorem kM_X5_163 : Cond.methodLink "WokenYears" 163 yX4_othersAwake ∈ WA := mW 464 (by decide +kernel) rfl
theorem kM_X4_137 : Cond.methodLink "WokenYears$Street" 137 yX4_awakeSet ∈ WA := mW 468 (by decide +kernel) rfl
theorem kM_X4_141 : Cond.methodLink "WokenYears$Street" 141 yJ6_bitCount_0f7a4 ∈ WA := mW 472 (by decide +kernel) rfl
theorem kK_J6_265 : Cond.constant "java/lang/Integer" 265 (1431655765 : Int32) ∈ WA := mW 475 (by decide +kernel) rfl
theorem kK_J6_266 : Cond.constant "java/lang/Integer" 266 (858993459 : Int32) ∈ WA := mW 476 (by decide +kernel) rfl
theorem kK_J6_267 : Cond.constant "java/lang/Integer" 267 (252645135 : Int32) ∈ WA := mW 477 (by decide +kernel) rfl
theorem kM_X5_166 : Cond.methodLink "WokenYears" 166 yX4_othersEarlier ∈ WA := mW 478 (by decide +kernel) rfl
theorem kM_L_65 : Cond.methodLink "WokenYearsLaw" 65 yX5_walk ∈ WA := mW 482 (by decide +kernel) rfl
theorem kM_X5_172 : Cond.methodLink "WokenYears" 172 yX5_isFull ∈ WA := mW 486 (by decide +kernel) rfl
theorem kM_X5_175 : Cond.methodLink "WokenYears" 175 yX4_does ∈ WA := mW 490 (by decide +kernel) rfl
theorem kM_L_69 : Cond.methodLink "WokenYearsLaw" 69 yX5_tap ∈ WA := mW 494 (by decide +kernel) rfl
theorem kM_X5_182 : Cond.methodLink "WokenYears" 182 yX4_isAwake ∈ WA := mW 498 (by decide +kernel) rfl
theorem kM_L_74 : Cond.methodLink "WokenYearsLaw" 74 yX5_slate ∈ WA := mW 499 (by decide +kernel) rfl
theorem kM_X5_185 : Cond.methodLink "WokenYears" 185 yX5_isDate ∈ WA := mW 503 (by decide +kernel) rfl
theorem kM_L_78 : Cond.methodLink "WokenYearsLaw" 78 yX5_frost ∈ WA := mW 506 (by decide +kernel) rfl
theorem kM_L_82 : Cond.methodLink "WokenYearsLaw" 82 yX5_night ∈ WA := mW 510 (by decide +kernel) rfl
theorem kM_X5_188 : Cond.methodLink "WokenYears" 188 yX4_awakeSet ∈ WA := mW 514 (by decide +kernel) rfl
theorem kM_X5_192 : Cond.methodLink "WokenYears" 192 yJ6_bitCount_0f7a4 ∈ WA := mW 515 (by decide +kernel) rfl
theorem kM_L_86 : Cond.methodLink "WokenYearsLaw" 86 yX5_undo ∈ WA := mW 516 (by decide +kernel) rfl
theorem kM_X5_197 : Cond.methodLink "WokenYears" 197 yX0_cut ∈ WA := mW 520 (by decide +kernel) rfl
theorem kM_L_90 : Cond.methodLink "WokenYearsLaw" 90 yX5_keep ∈ WA := mW 524 (by decide +kernel) rfl
theorem kM_X5_200 : Cond.methodLink "WokenYears" 200 yX0_takeFrom ∈ WA := mW 528 (by decide +kernel) rfl
theorem kM_L_94 : Cond.methodLink "WokenYearsLaw" 94 yX5_on ∈ WA := mW 529 (by decide +kernel) rfl
theorem kM_L_98 : Cond.methodLink "WokenYearsLaw" 98 yX5_takes ∈ WA := mW 533 (by decide +kernel) rfl
theorem kM_L_102 : Cond.methodLink "WokenYearsLaw" 102 yX5_pays ∈ WA := mW 537 (by decide +kernel) rfl
theorem kM_L_106 : Cond.methodLink "WokenYearsLaw" 106 yX5_who ∈ WA := mW 541 (by decide +kernel) rfl
theorem kM_L_110 : Cond.methodLink "WokenYearsLaw" 110 yX5_quarrels ∈ WA := mW 545 (by decide +kernel) rfl
theorem kM_X5_204 : Cond.methodLink "WokenYears" 204 yX4_quarrelling ∈ WA := mW 549 (by decide +kernel) rfl
theorem kM_L_114 : Cond.methodLink "WokenYearsLaw" 114 yX5_soonest ∈ WA := mW 553 (by decide +kernel) rfl
theorem kM_X5_207 : Cond.methodLink "WokenYears" 207 yX4_isSet ∈ WA := mW 557 (by decide +kernel) rfl
theorem kM_X5_210 : Cond.methodLink "WokenYears" 210 yX4_canWake ∈ WA := mW 561 (by decide +kernel) rfl
theorem kN_X4_130 : Cond.methodLinkNest "WokenYears$Street" 130 yX5_holds "WokenYears" ∈ lw_tbl := List.mem_of_getElem? (i := 565) (by decide +kernel)
theorem kM_X5_213 : Cond.methodLink "WokenYears" 213 yX4_tapsLeft ∈ WA := mW 568 (by decide +kernel) rfl
theorem kM_X5_216 : Cond.methodLink "WokenYears" 216 yX3_walkOver ∈ WA := mW 572 (by decide +kernel) rfl
theorem kN_X3_57 : Cond.methodLinkNest "WokenYears$Rounds" 57 yX5_holds "WokenYears" ∈ lw_tbl := List.mem_of_getElem? (i := 575) (by decide +kernel)
theorem kM_X3_61 : Cond.methodLink "WokenYears$Rounds" 61 yJ9_min_7cf53 ∈ WA := mW 576 (by decide +kernel) rfl
theorem kM_X3_67 : Cond.methodLink "WokenYears$Rounds" 67 yJ9_abs_0f7a4 ∈ WA := mW 577 (by decide +kernel) rfl
theorem kM_L_118 : Cond.methodLink "WokenYearsLaw" 118 yX5_intime ∈ WA := mW 578 (by decide +kernel) rfl
theorem kM_X5_219 : Cond.methodLink "WokenYears" 219 yX3_fewest ∈ WA := mW 582 (by decide +kernel) rfl
theorem kM_X3_70 : Cond.methodLink "WokenYears$Rounds" 70 yX3_start ∈ WA := mW 586 (by decide +kernel) rfl
theorem kM_X3_38 : Cond.methodLink "WokenYears$Rounds" 38 yX0_fill ∈ WA := mW 590 (by decide +kernel) rfl
theorem kM_X3_42 : Cond.methodLink "WokenYears$Rounds" 42 yX4_more ∈ WA := mW 591 (by decide +kernel) rfl
theorem kM_X3_45 : Cond.methodLink "WokenYears$Rounds" 45 yX0_set ∈ WA := mW 592 (by decide +kernel) rfl
theorem kM_X3_51 : Cond.methodLink "WokenYears$Rounds" 51 yX0_get ∈ WA := mW 593 (by decide +kernel) rfl
theorem kM_X3_74 : Cond.methodLink "WokenYears$Rounds" 74 yX4_tapsLeft ∈ WA := mW 594 (by decide +kernel) rfl
theorem kM_X3_80 : Cond.methodLink "WokenYears$Rounds" 80 yJ6_bitCount_0f7a4 ∈ WA := mW 595 (by decide +kernel) rfl
theorem kM_X3_88 : Cond.methodLink "WokenYears$Rounds" 88 yX3_seek ∈ WA := mW 596 (by decide +kernel) rfl
theorem kM_X3_92 : Cond.methodLink "WokenYears$Rounds" 92 yX3_walkOver ∈ WA := mW 599 (by decide +kernel) rfl
theorem kM_X3_95 : Cond.methodLink "WokenYears$Rounds" 95 yX0_takeFrom ∈ WA := mW 600 (by decide +kernel) rfl
theorem kM_L_122 : Cond.methodLink "WokenYearsLaw" 122 yX5_many ∈ WA := mW 601 (by decide +kernel) rfl
theorem kM_X5_226 : Cond.methodLink "WokenYears" 226 yX3_greatest ∈ WA := mW 605 (by decide +kernel) rfl
theorem kM_X3_99 : Cond.methodLink "WokenYears$Rounds" 99 yX3_endAt ∈ WA := mW 609 (by decide +kernel) rfl
theorem kM_L_126 : Cond.methodLink "WokenYearsLaw" 126 yX5_dates ∈ WA := mW 613 (by decide +kernel) rfl
theorem kM_X5_230 : Cond.methodLink "WokenYears" 230 yX4_nextByDate ∈ WA := mW 617 (by decide +kernel) rfl
theorem kM_L_130 : Cond.methodLink "WokenYearsLaw" 130 yX5_whose ∈ WA := mW 621 (by decide +kernel) rfl
theorem kM_X5_246 : Cond.methodLink "WokenYears" 246 yX5_refusedPairs ∈ WA := mW 625 (by decide +kernel) rfl
theorem kM_X5_236 : Cond.methodLink "WokenYears" 236 yX5_canBe ∈ WA := mW 629 (by decide +kernel) rfl
theorem kM_X5_233 : Cond.methodLink "WokenYears" 233 yX5_tookOf ∈ WA := mW 633 (by decide +kernel) rfl
theorem kM_L_134 : Cond.methodLink "WokenYearsLaw" 134 yX5_kinds ∈ WA := mW 636 (by decide +kernel) rfl
theorem kM_X5_249 : Cond.methodLink "WokenYears" 249 yX5_kindsBy ∈ WA := mW 640 (by decide +kernel) rfl
theorem kM_L_138 : Cond.methodLink "WokenYearsLaw" 138 yX5_test ∈ WA := mW 644 (by decide +kernel) rfl
theorem kM_X5_252 : Cond.methodLink "WokenYears" 252 yX5_greatestPart ∈ WA := mW 648 (by decide +kernel) rfl
theorem kM_X5_240 : Cond.methodLink "WokenYears" 240 yX5_holds ∈ WA := mW 652 (by decide +kernel) rfl
theorem kM_X5_243 : Cond.methodLink "WokenYears" 243 yX5_partOf ∈ WA := mW 653 (by decide +kernel) rfl
theorem kM_L_142 : Cond.methodLink "WokenYearsLaw" 142 yX5_sets ∈ WA := mW 657 (by decide +kernel) rfl
theorem kM_X5_255 : Cond.methodLink "WokenYears" 255 yX4_fees ∈ WA := mW 661 (by decide +kernel) rfl
theorem kM_X5_258 : Cond.methodLink "WokenYears" 258 yX5_tellRatio ∈ WA := mW 665 (by decide +kernel) rfl
theorem kM_X5_273 : Cond.methodLink "WokenYears" 273 yX5_divisor ∈ WA := mW 669 (by decide +kernel) rfl
theorem kM_L_146 : Cond.methodLink "WokenYearsLaw" 146 yX5_sure ∈ WA := mW 672 (by decide +kernel) rfl
theorem kM_L_150 : Cond.methodLink "WokenYearsLaw" 150 yX5_duel ∈ WA := mW 676 (by decide +kernel) rfl
theorem kM_X5_262 : Cond.methodLink "WokenYears" 262 yX4_mostAwake ∈ WA := mW 680 (by decide +kernel) rfl
theorem kM_L_154 : Cond.methodLink "WokenYearsLaw" 154 yX5_odds ∈ WA := mW 684 (by decide +kernel) rfl
theorem kM_X5_280 : Cond.methodLink "WokenYears" 280 yX5_isTry ∈ WA := mW 688 (by decide +kernel) rfl
theorem kM_X5_283 : Cond.methodLink "WokenYears" 283 yX4_more ∈ WA := mW 692 (by decide +kernel) rfl
theorem kM_X5_286 : Cond.methodLink "WokenYears" 286 yX5_weight ∈ WA := mW 693 (by decide +kernel) rfl
theorem kM_X5_265 : Cond.methodLink "WokenYears" 265 yX5_ways ∈ WA := mW 696 (by decide +kernel) rfl
theorem kM_X5_269 : Cond.methodLink "WokenYears" 269 yX5_power ∈ WA := mW 699 (by decide +kernel) rfl
theorem kJ_X5_290 : Cond.constantLong "WokenYears" 290 (12 : Int64) ∈ WA := mW 702 (by decide +kernel) rfl
theorem kM_L_158 : Cond.methodLink "WokenYearsLaw" 158 yX5_mid ∈ WA := mW 703 (by decide +kernel) rfl
theorem kM_L_162 : Cond.methodLink "WokenYearsLaw" 162 yX5_lots ∈ WA := mW 707 (by decide +kernel) rfl
theorem kJ_X5_292 : Cond.constantLong "WokenYears" 292 (2147483647 : Int64) ∈ WA := mW 711 (by decide +kernel) rfl
theorem kJ_X5_294 : Cond.constantLong "WokenYears" 294 (48271 : Int64) ∈ WA := mW 712 (by decide +kernel) rfl
theorem kM_X5_296 : Cond.methodLink "WokenYears" 296 yX4_doesByLot ∈ WA := mW 713 (by decide +kernel) rfl
theorem kM_X4_85 : Cond.methodLink "WokenYears$Street" 85 yX4_does ∈ WA := mW 717 (by decide +kernel) rfl
theorem kM_L_166 : Cond.methodLink "WokenYearsLaw" 166 yX5_asked ∈ WA := mW 718 (by decide +kernel) rfl
theorem kM_L_170 : Cond.methodLink "WokenYearsLaw" 170 yX5_upper ∈ WA := mW 722 (by decide +kernel) rfl
theorem kM_L_175 : Cond.methodLink "WokenYearsLaw" 175 yX5_lower ∈ WA := mW 726 (by decide +kernel) rfl
theorem kM_L_179 : Cond.methodLink "WokenYearsLaw" 179 yX5_count ∈ WA := mW 730 (by decide +kernel) rfl
theorem kM_X5_305 : Cond.methodLink "WokenYears" 305 yX4_manyOf ∈ WA := mW 734 (by decide +kernel) rfl
theorem kM_X4_134 : Cond.methodLink "WokenYears$Street" 134 yX1_isOf ∈ WA := mW 738 (by decide +kernel) rfl
theorem kM_X5_308 : Cond.methodLink "WokenYears" 308 yX5_present ∈ WA := mW 739 (by decide +kernel) rfl
theorem kM_L_183 : Cond.methodLink "WokenYearsLaw" 183 yX5_finding ∈ WA := mW 742 (by decide +kernel) rfl
theorem kM_L_187 : Cond.methodLink "WokenYearsLaw" 187 yX5_findings ∈ WA := mW 746 (by decide +kernel) rfl
theorem kM_L_191 : Cond.methodLink "WokenYearsLaw" 191 yX5_digest ∈ WA := mW 750 (by decide +kernel) rfl
theorem kJ_X5_315 : Cond.constantLong "WokenYears" 315 (17 : Int64) ∈ WA := mW 754 (by decide +kernel) rfl
theorem kJ_X5_317 : Cond.constantLong "WokenYears" 317 (31 : Int64) ∈ WA := mW 755 (by decide +kernel) rfl
theorem kM_X5_319 : Cond.methodLink "WokenYears" 319 yX5_count ∈ WA := mW 756 (by decide +kernel) rfl
theorem kM_X5_322 : Cond.methodLink "WokenYears" 322 yX5_digestOf ∈ WA := mW 757 (by decide +kernel) rfl
theorem kC_L_10 : Cond.classLink "WokenYearsLaw" 10 "WokenYearsModel" ∈ WA := mW 760 (by decide +kernel) rfl
theorem kI_RX6 : Cond.instantiable "WokenYearsModel" 28 ∈ WA := mW 761 (by decide +kernel) rfl
theorem kM_L_12 : Cond.methodLink "WokenYearsLaw" 12 yX6_init ∈ WA := mW 762 (by decide +kernel) rfl
theorem kM_X6_1 : Cond.methodLink "WokenYearsModel" 1 ⟨"java/lang/Object", "<init>", "()V"⟩ ∈ WA := mW 765 (by decide +kernel) rfl
theorem kF_X6_7 : Cond.fieldLink "WokenYearsModel" 7 "WokenYearsModel" "rowSize" "[I" ∈ WA := mW 766 (by decide +kernel) rfl
theorem kF_X6_13 : Cond.fieldLink "WokenYearsModel" 13 "WokenYearsModel" "rowItem" "[I" ∈ WA := mW 767 (by decide +kernel) rfl
theorem kF_X6_16 : Cond.fieldLink "WokenYearsModel" 16 "WokenYearsModel" "textSize" "[I" ∈ WA := mW 768 (by decide +kernel) rfl
theorem kF_X6_19 : Cond.fieldLink "WokenYearsModel" 19 "WokenYearsModel" "textItem" "[I" ∈ WA := mW 769 (by decide +kernel) rfl
theorem kF_X6_59 : Cond.fieldLink "WokenYearsModel" 59 "WokenYearsModel" "findingNow" "I" ∈ WA := mW 770 (by decide +kernel) rfl
theorem kF_X6_22 : Cond.fieldLink "WokenYearsModel" 22 "WokenYearsModel" "findingMany" "[I" ∈ WA := mW 771 (by decide +kernel) rfl
theorem kF_X6_63 : Cond.fieldLink "WokenYearsModel" 63 "WokenYearsModel" "askedNow" "I" ∈ WA := mW 772 (by decide +kernel) rfl
theorem kF_X6_233 : Cond.fieldLink "WokenYearsModel" 233 "WokenYearsModel" "upperNow" "J" ∈ WA := mW 773 (by decide +kernel) rfl
theorem kF_X6_25 : Cond.fieldLink "WokenYearsModel" 25 "WokenYearsModel" "lowerNow" "J" ∈ WA := mW 774 (by decide +kernel) rfl
theorem kF_X6_93 : Cond.fieldLink "WokenYearsModel" 93 "WokenYearsModel" "position" "I" ∈ WA := mW 775 (by decide +kernel) rfl
theorem kF_X6_90 : Cond.fieldLink "WokenYearsModel" 90 "WokenYearsModel" "from" "I" ∈ WA := mW 776 (by decide +kernel) rfl
theorem kF_X6_87 : Cond.fieldLink "WokenYearsModel" 87 "WokenYearsModel" "all" "I" ∈ WA := mW 777 (by decide +kernel) rfl
theorem kF_X6_102 : Cond.fieldLink "WokenYearsModel" 102 "WokenYearsModel" "readFrost" "I" ∈ WA := mW 778 (by decide +kernel) rfl
theorem kF_X6_109 : Cond.fieldLink "WokenYearsModel" 109 "WokenYearsModel" "readQuarrel" "I" ∈ WA := mW 779 (by decide +kernel) rfl
theorem kF_X6_115 : Cond.fieldLink "WokenYearsModel" 115 "WokenYearsModel" "readHouses" "I" ∈ WA := mW 780 (by decide +kernel) rfl
theorem kF_X6_29 : Cond.fieldLink "WokenYearsModel" 29 "WokenYearsModel" "readHouse" "[I" ∈ WA := mW 781 (by decide +kernel) rfl
theorem kF_X6_131 : Cond.fieldLink "WokenYearsModel" 131 "WokenYearsModel" "quarrel" "I" ∈ WA := mW 782 (by decide +kernel) rfl
theorem kF_X6_66 : Cond.fieldLink "WokenYearsModel" 66 "WokenYearsModel" "houses" "I" ∈ WA := mW 783 (by decide +kernel) rfl
theorem kF_X6_32 : Cond.fieldLink "WokenYearsModel" 32 "WokenYearsModel" "sort" "[I" ∈ WA := mW 784 (by decide +kernel) rfl
theorem kF_X6_35 : Cond.fieldLink "WokenYearsModel" 35 "WokenYearsModel" "wants" "[I" ∈ WA := mW 785 (by decide +kernel) rfl
theorem kF_X6_38 : Cond.fieldLink "WokenYearsModel" 38 "WokenYearsModel" "now" "[I" ∈ WA := mW 786 (by decide +kernel) rfl
theorem kF_X6_41 : Cond.fieldLink "WokenYearsModel" 41 "WokenYearsModel" "deed" "[I" ∈ WA := mW 787 (by decide +kernel) rfl
theorem kF_X6_134 : Cond.fieldLink "WokenYearsModel" 134 "WokenYearsModel" "deeds" "I" ∈ WA := mW 788 (by decide +kernel) rfl
theorem kF_X6_44 : Cond.fieldLink "WokenYearsModel" 44 "WokenYearsModel" "keptNow" "[I" ∈ WA := mW 789 (by decide +kernel) rfl
theorem kF_X6_47 : Cond.fieldLink "WokenYearsModel" 47 "WokenYearsModel" "keptDeed" "[I" ∈ WA := mW 790 (by decide +kernel) rfl
theorem kF_X6_50 : Cond.fieldLink "WokenYearsModel" 50 "WokenYearsModel" "keptMany" "[I" ∈ WA := mW 791 (by decide +kernel) rfl
theorem kF_X6_53 : Cond.fieldLink "WokenYearsModel" 53 "WokenYearsModel" "row" "[I" ∈ WA := mW 792 (by decide +kernel) rfl
theorem kF_X6_56 : Cond.fieldLink "WokenYearsModel" 56 "WokenYearsModel" "bestRow" "[I" ∈ WA := mW 793 (by decide +kernel) rfl
theorem kM_L_17 : Cond.methodLink "WokenYearsLaw" 17 yX6_row ∈ WA := mW 851 (by decide +kernel) rfl
theorem kM_X6_69 : Cond.methodLink "WokenYearsModel" 69 yX6_in ∈ WA := mW 855 (by decide +kernel) rfl
theorem kM_X6_73 : Cond.methodLink "WokenYearsModel" 73 yX6_finds ∈ WA := mW 858 (by decide +kernel) rfl
theorem kM_L_22 : Cond.methodLink "WokenYearsLaw" 22 yX6_lay ∈ WA := mW 862 (by decide +kernel) rfl
theorem kM_X6_77 : Cond.methodLink "WokenYearsModel" 77 yX6_wrongAt ∈ WA := mW 866 (by decide +kernel) rfl
theorem kM_X6_81 : Cond.methodLink "WokenYearsModel" 81 yX6_tells ∈ WA := mW 870 (by decide +kernel) rfl
theorem kM_L_26 : Cond.methodLink "WokenYearsLaw" 26 yX6_at ∈ WA := mW 874 (by decide +kernel) rfl
theorem kM_L_31 : Cond.methodLink "WokenYearsLaw" 31 yX6_tear ∈ WA := mW 878 (by decide +kernel) rfl
theorem kM_L_36 : Cond.methodLink "WokenYearsLaw" 36 yX6_copy ∈ WA := mW 882 (by decide +kernel) rfl
theorem kM_X6_84 : Cond.methodLink "WokenYearsModel" 84 yX6_isPart ∈ WA := mW 886 (by decide +kernel) rfl
theorem kM_L_40 : Cond.methodLink "WokenYearsLaw" 40 yX6_mean ∈ WA := mW 889 (by decide +kernel) rfl
theorem kM_L_44 : Cond.methodLink "WokenYearsLaw" 44 yX6_text ∈ WA := mW 893 (by decide +kernel) rfl
theorem kM_L_48 : Cond.methodLink "WokenYearsLaw" 48 yX6_put ∈ WA := mW 897 (by decide +kernel) rfl
theorem kM_L_52 : Cond.methodLink "WokenYearsLaw" 52 yX6_fault ∈ WA := mW 901 (by decide +kernel) rfl
theorem kM_X6_128 : Cond.methodLink "WokenYearsModel" 128 yX6_read ∈ WA := mW 905 (by decide +kernel) rfl
theorem kM_X6_118 : Cond.methodLink "WokenYearsModel" 118 yX6_skip ∈ WA := mW 909 (by decide +kernel) rfl
theorem kM_X6_96 : Cond.methodLink "WokenYearsModel" 96 yX6_letterAt ∈ WA := mW 913 (by decide +kernel) rfl
theorem kM_X6_121 : Cond.methodLink "WokenYearsModel" 121 yX6_isStreet ∈ WA := mW 917 (by decide +kernel) rfl
theorem kM_X6_99 : Cond.methodLink "WokenYearsModel" 99 yX6_figure ∈ WA := mW 921 (by decide +kernel) rfl
theorem kM_X6_105 : Cond.methodLink "WokenYearsModel" 105 yX6_twoFigures ∈ WA := mW 925 (by decide +kernel) rfl
theorem kM_X6_125 : Cond.methodLink "WokenYearsModel" 125 yX6_isHouseItem ∈ WA := mW 929 (by decide +kernel) rfl
theorem kM_X6_112 : Cond.methodLink "WokenYearsModel" 112 yX6_sortBy ∈ WA := mW 933 (by decide +kernel) rfl
theorem kM_L_56 : Cond.methodLink "WokenYearsLaw" 56 yX6_town ∈ WA := mW 936 (by decide +kernel) rfl
theorem kM_L_60 : Cond.methodLink "WokenYearsLaw" 60 yX6_house ∈ WA := mW 940 (by decide +kernel) rfl
theorem kM_X6_150 : Cond.methodLink "WokenYearsModel" 150 yX6_isOne ∈ WA := mW 944 (by decide +kernel) rfl
theorem kM_X6_153 : Cond.methodLink "WokenYearsModel" 153 yX6_houseTells ∈ WA := mW 948 (by decide +kernel) rfl
theorem kM_X6_147 : Cond.methodLink "WokenYearsModel" 147 yX6_moreOf ∈ WA := mW 952 (by decide +kernel) rfl
theorem kM_X6_140 : Cond.methodLink "WokenYearsModel" 140 yX6_isAwake ∈ WA := mW 956 (by decide +kernel) rfl
theorem kM_X6_144 : Cond.methodLink "WokenYearsModel" 144 yX6_takesOf ∈ WA := mW 960 (by decide +kernel) rfl
theorem kM_X6_137 : Cond.methodLink "WokenYearsModel" 137 yX6_takesBy ∈ WA := mW 964 (by decide +kernel) rfl
theorem kM_L_64 : Cond.methodLink "WokenYearsLaw" 64 yX6_mark ∈ WA := mW 968 (by decide +kernel) rfl
theorem kM_X6_156 : Cond.methodLink "WokenYearsModel" 156 yX6_is ∈ WA := mW 972 (by decide +kernel) rfl
theorem kM_X6_160 : Cond.methodLink "WokenYearsModel" 160 yX6_paysBy ∈ WA := mW 975 (by decide +kernel) rfl
theorem kM_X6_163 : Cond.methodLink "WokenYearsModel" 163 yX6_awakeOnes ∈ WA := mW 978 (by decide +kernel) rfl
theorem kM_X6_166 : Cond.methodLink "WokenYearsModel" 166 yX6_bits ∈ WA := mW 982 (by decide +kernel) rfl
theorem kM_X6_169 : Cond.methodLink "WokenYearsModel" 169 yX6_earlier ∈ WA := mW 985 (by decide +kernel) rfl
theorem kM_L_68 : Cond.methodLink "WokenYearsLaw" 68 yX6_walk ∈ WA := mW 989 (by decide +kernel) rfl
theorem kM_X6_179 : Cond.methodLink "WokenYearsModel" 179 yX6_note ∈ WA := mW 993 (by decide +kernel) rfl
theorem kM_X6_172 : Cond.methodLink "WokenYearsModel" 172 yX6_bring ∈ WA := mW 997 (by decide +kernel) rfl
theorem kM_X6_182 : Cond.methodLink "WokenYearsModel" 182 yX6_goes ∈ WA := mW 1000 (by decide +kernel) rfl
theorem kM_X6_176 : Cond.methodLink "WokenYearsModel" 176 yX6_far ∈ WA := mW 1004 (by decide +kernel) rfl
theorem kM_L_73 : Cond.methodLink "WokenYearsLaw" 73 yX6_tap ∈ WA := mW 1007 (by decide +kernel) rfl
theorem kM_X6_186 : Cond.methodLink "WokenYearsModel" 186 yX6_taps ∈ WA := mW 1011 (by decide +kernel) rfl
theorem kM_L_77 : Cond.methodLink "WokenYearsLaw" 77 yX6_slate ∈ WA := mW 1015 (by decide +kernel) rfl
theorem kM_X6_189 : Cond.methodLink "WokenYearsModel" 189 yX6_changes ∈ WA := mW 1019 (by decide +kernel) rfl
theorem kM_L_81 : Cond.methodLink "WokenYearsLaw" 81 yX6_frost ∈ WA := mW 1023 (by decide +kernel) rfl
theorem kM_L_85 : Cond.methodLink "WokenYearsLaw" 85 yX6_night ∈ WA := mW 1027 (by decide +kernel) rfl
theorem kM_L_89 : Cond.methodLink "WokenYearsLaw" 89 yX6_undo ∈ WA := mW 1031 (by decide +kernel) rfl
theorem kM_L_93 : Cond.methodLink "WokenYearsLaw" 93 yX6_keep ∈ WA := mW 1035 (by decide +kernel) rfl
theorem kM_L_97 : Cond.methodLink "WokenYearsLaw" 97 yX6_on ∈ WA := mW 1039 (by decide +kernel) rfl
theorem kM_L_101 : Cond.methodLink "WokenYearsLaw" 101 yX6_takes ∈ WA := mW 1043 (by decide +kernel) rfl
theorem kM_L_105 : Cond.methodLink "WokenYearsLaw" 105 yX6_pays ∈ WA := mW 1047 (by decide +kernel) rfl
theorem kM_L_109 : Cond.methodLink "WokenYearsLaw" 109 yX6_who ∈ WA := mW 1051 (by decide +kernel) rfl
theorem kM_L_113 : Cond.methodLink "WokenYearsLaw" 113 yX6_quarrels ∈ WA := mW 1055 (by decide +kernel) rfl
theorem kM_L_117 : Cond.methodLink "WokenYearsLaw" 117 yX6_soonest ∈ WA := mW 1059 (by decide +kernel) rfl
theorem kM_X6_193 : Cond.methodLink "WokenYearsModel" 193 yX6_isSet ∈ WA := mW 1063 (by decide +kernel) rfl
theorem kM_X6_196 : Cond.methodLink "WokenYearsModel" 196 yX6_wakable ∈ WA := mW 1067 (by decide +kernel) rfl
theorem kM_X6_199 : Cond.methodLink "WokenYearsModel" 199 yX6_has ∈ WA := mW 1071 (by decide +kernel) rfl
theorem kM_L_121 : Cond.methodLink "WokenYearsLaw" 121 yX6_intime ∈ WA := mW 1074 (by decide +kernel) rfl
theorem kM_X6_211 : Cond.methodLink "WokenYearsModel" 211 yX6_bestOf ∈ WA := mW 1078 (by decide +kernel) rfl
theorem kM_X6_202 : Cond.methodLink "WokenYearsModel" 202 yX6_rowsOf ∈ WA := mW 1082 (by decide +kernel) rfl
theorem kM_X6_205 : Cond.methodLink "WokenYearsModel" 205 yX6_layRow ∈ WA := mW 1085 (by decide +kernel) rfl
theorem kM_X6_208 : Cond.methodLink "WokenYearsModel" 208 yX6_minutesOf ∈ WA := mW 1089 (by decide +kernel) rfl
theorem kM_X6_214 : Cond.methodLink "WokenYearsModel" 214 yX6_anew ∈ WA := mW 1093 (by decide +kernel) rfl
theorem kM_L_125 : Cond.methodLink "WokenYearsLaw" 125 yX6_many ∈ WA := mW 1097 (by decide +kernel) rfl
theorem kM_L_129 : Cond.methodLink "WokenYearsLaw" 129 yX6_dates ∈ WA := mW 1101 (by decide +kernel) rfl
theorem kK_X6_217 : Cond.constant "WokenYearsModel" 217 (99999 : Int32) ∈ WA := mW 1105 (by decide +kernel) rfl
theorem kM_L_133 : Cond.methodLink "WokenYearsLaw" 133 yX6_whose ∈ WA := mW 1106 (by decide +kernel) rfl
theorem kM_X6_224 : Cond.methodLink "WokenYearsModel" 224 yX6_wrongPairs ∈ WA := mW 1110 (by decide +kernel) rfl
theorem kM_X6_221 : Cond.methodLink "WokenYearsModel" 221 yX6_tookSo ∈ WA := mW 1114 (by decide +kernel) rfl
theorem kM_X6_218 : Cond.methodLink "WokenYearsModel" 218 yX6_tookBy ∈ WA := mW 1118 (by decide +kernel) rfl
theorem kM_L_137 : Cond.methodLink "WokenYearsLaw" 137 yX6_kinds ∈ WA := mW 1122 (by decide +kernel) rfl
theorem kM_X6_227 : Cond.methodLink "WokenYearsModel" 227 yX6_kindsBy ∈ WA := mW 1126 (by decide +kernel) rfl
theorem kM_L_141 : Cond.methodLink "WokenYearsLaw" 141 yX6_test ∈ WA := mW 1130 (by decide +kernel) rfl
theorem kM_L_145 : Cond.methodLink "WokenYearsLaw" 145 yX6_sets ∈ WA := mW 1134 (by decide +kernel) rfl
theorem kM_X6_230 : Cond.methodLink "WokenYearsModel" 230 yX6_pay ∈ WA := mW 1138 (by decide +kernel) rfl
theorem kM_L_149 : Cond.methodLink "WokenYearsLaw" 149 yX6_sure ∈ WA := mW 1142 (by decide +kernel) rfl
theorem kM_L_153 : Cond.methodLink "WokenYearsLaw" 153 yX6_duel ∈ WA := mW 1146 (by decide +kernel) rfl
theorem kM_X6_236 : Cond.methodLink "WokenYearsModel" 236 yX6_ownBy ∈ WA := mW 1150 (by decide +kernel) rfl
theorem kM_L_157 : Cond.methodLink "WokenYearsLaw" 157 yX6_odds ∈ WA := mW 1154 (by decide +kernel) rfl
theorem kM_X6_241 : Cond.methodLink "WokenYearsModel" 241 yX6_waysOf ∈ WA := mW 1158 (by decide +kernel) rfl
theorem kM_X6_245 : Cond.methodLink "WokenYearsModel" 245 yX6_whole ∈ WA := mW 1161 (by decide +kernel) rfl
theorem kJ_X6_239 : Cond.constantLong "WokenYearsModel" 239 (12 : Int64) ∈ WA := mW 1164 (by decide +kernel) rfl
theorem kM_X6_249 : Cond.methodLink "WokenYearsModel" 249 yX6_tellsPart ∈ WA := mW 1165 (by decide +kernel) rfl
theorem kM_L_161 : Cond.methodLink "WokenYearsLaw" 161 yX6_mid ∈ WA := mW 1169 (by decide +kernel) rfl
theorem kM_L_165 : Cond.methodLink "WokenYearsLaw" 165 yX6_lots ∈ WA := mW 1173 (by decide +kernel) rfl
theorem kK_X6_253 : Cond.constant "WokenYearsModel" 253 (2147483646 : Int32) ∈ WA := mW 1177 (by decide +kernel) rfl
theorem kJ_X6_254 : Cond.constantLong "WokenYearsModel" 254 (48271 : Int64) ∈ WA := mW 1178 (by decide +kernel) rfl
theorem kJ_X6_256 : Cond.constantLong "WokenYearsModel" 256 (2147483647 : Int64) ∈ WA := mW 1179 (by decide +kernel) rfl
theorem kJ_X6_258 : Cond.constantLong "WokenYearsModel" 258 (8 : Int64) ∈ WA := mW 1180 (by decide +kernel) rfl
theorem kJ_X6_260 : Cond.constantLong "WokenYearsModel" 260 (64 : Int64) ∈ WA := mW 1181 (by decide +kernel) rfl
theorem kJ_X6_262 : Cond.constantLong "WokenYearsModel" 262 (100 : Int64) ∈ WA := mW 1182 (by decide +kernel) rfl
theorem kM_L_169 : Cond.methodLink "WokenYearsLaw" 169 yX6_asked ∈ WA := mW 1183 (by decide +kernel) rfl
theorem kM_L_174 : Cond.methodLink "WokenYearsLaw" 174 yX6_upper ∈ WA := mW 1187 (by decide +kernel) rfl
theorem kM_L_178 : Cond.methodLink "WokenYearsLaw" 178 yX6_lower ∈ WA := mW 1191 (by decide +kernel) rfl
theorem kM_L_182 : Cond.methodLink "WokenYearsLaw" 182 yX6_count ∈ WA := mW 1195 (by decide +kernel) rfl
theorem kM_X6_264 : Cond.methodLink "WokenYearsModel" 264 yX6_kindMany ∈ WA := mW 1199 (by decide +kernel) rfl
theorem kM_X6_267 : Cond.methodLink "WokenYearsModel" 267 yX6_thereOf ∈ WA := mW 1203 (by decide +kernel) rfl
theorem kM_L_186 : Cond.methodLink "WokenYearsLaw" 186 yX6_finding ∈ WA := mW 1206 (by decide +kernel) rfl
theorem kM_L_190 : Cond.methodLink "WokenYearsLaw" 190 yX6_findings ∈ WA := mW 1210 (by decide +kernel) rfl
theorem kM_L_194 : Cond.methodLink "WokenYearsLaw" 194 yX6_digest ∈ WA := mW 1214 (by decide +kernel) rfl
theorem kJ_X6_271 : Cond.constantLong "WokenYearsModel" 271 (17 : Int64) ∈ WA := mW 1218 (by decide +kernel) rfl
theorem kJ_X6_273 : Cond.constantLong "WokenYearsModel" 273 (31 : Int64) ∈ WA := mW 1219 (by decide +kernel) rfl
theorem kM_X6_275 : Cond.methodLink "WokenYearsModel" 275 yX6_count ∈ WA := mW 1220 (by decide +kernel) rfl
theorem inX0 : ∀ w ∈ u_ws RX0 TX0 2, w ∈ WA := mWs [96, 98] (by decide +kernel) (by decide +kernel)
theorem inX2 : ∀ w ∈ u_ws RX2 TX2 3, w ∈ WA := mWs [111, 113, 115] (by decide +kernel) (by decide +kernel)
theorem inX3 : ∀ w ∈ u_ws RX3 TX3 6, w ∈ WA := mWs [133, 135, 137, 139, 141, 143] (by decide +kernel) (by decide +kernel)
theorem inX4 : ∀ w ∈ u_ws RX4 TX4 15, w ∈ WA := mWs [190, 192, 194, 196, 198, 200, 202, 204, 206, 208, 210, 212, 214, 216, 218] (by decide +kernel) (by decide +kernel)
theorem inX5 : ∀ w ∈ u_ws RX5 TX5 12, w ∈ WA := mWs [234, 236, 238, 240, 242, 244, 246, 248, 250, 252, 254, 256] (by decide +kernel) (by decide +kernel)
theorem inX6 : ∀ w ∈ u_ws RX6 TX6 28, w ∈ WA := mWs [794, 796, 798, 800, 802, 804, 806, 808, 810, 812, 814, 816, 818, 820, 822, 824, 826, 828, 830, 832, 834, 836, 838, 840, 842, 844, 846, 848] (by decide +kernel) (by decide +kernel)
def okV (y : MethodName) (cc : ByteArray) (maxL : Nat) (ret : Option FieldType) (n : Nat) : Prop := Cond.code y cc maxL ret ∈ WA ∧ Cond.instanceMethod y ∈ WA ∧ Cond.selects y.cls y y ∈ WA ∧ Cond.initialized y.cls ∈ WA ∧ y.cls ≠ "java/lang/invoke/MethodHandle" ∧ y.cls ≠ "java/lang/invoke/VarHandle" ∧ (parseMethodDescriptor y.desc).map (fun d => d.parameters.length) = some n
def okI (y : MethodName) (cc : ByteArray) (maxL : Nat) (n : Nat) : Prop := Cond.code y cc maxL none ∈ WA ∧ Cond.instanceMethod y ∈ WA ∧ Cond.initialized y.cls ∈ WA ∧ y.name = "<init>" ∧ y.cls ≠ "java/lang/invoke/MethodHandle" ∧ y.cls ≠ "java/lang/invoke/VarHandle" ∧ (parseMethodDescriptor y.desc).map (fun d => d.parameters.length) = some n
def okS (y : MethodName) (cc : ByteArray) (maxL : Nat) (ret : Option FieldType) (n : Nat) : Prop := Cond.code y cc maxL ret ∈ WA ∧ Cond.static y ∈ WA ∧ Cond.initialized y.cls ∈ WA ∧ y.cls ≠ "java/lang/invoke/MethodHandle" ∧ y.cls ≠ "java/lang/invoke/VarHandle" ∧ (parseMethodDescriptor y.desc).map (fun d => d.parameters.length) = some n
theorem ok_X5_init : okI yX5_init cX5_init 1 0 := ⟨mW 73 (by decide +kernel) rfl, mW 72 (by decide +kernel) rfl, mW 59 (by decide +kernel) rfl, rfl, by decide +kernel, by decide +kernel, by decide +kernel⟩
theorem ok_X5_missing : okS yX5_missing cX5_missing 4 (Option.some (.array (.object "WokenYears$Ints"))) 2 := ⟨mW 79 (by decide +kernel) rfl, mW 78 (by decide +kernel) rfl, mW 59 (by decide +kernel) rfl, by decide +kernel, by decide +kernel, by decide +kernel⟩
theorem ok_J9_max_7cf53 : okS yJ9_max_7cf53 cJ9_max_7cf53 2 (some .int) 2 := ⟨mW 82 (by decide +kernel) rfl, mW 81 (by decide +kernel) rfl, mW 60 (by decide +kernel) rfl, by decide +kernel, by decide +kernel, by decide +kernel⟩
theorem ok_X0_init : okI yX0_init cX0_init 2 1 := ⟨mW 88 (by decide +kernel) rfl, mW 87 (by decide +kernel) rfl, mW 61 (by decide +kernel) rfl, rfl, by decide +kernel, by decide +kernel, by decide +kernel⟩
theorem ok_X2_init : okI yX2_init cX2_init 1 0 := ⟨mW 106 (by decide +kernel) rfl, mW 105 (by decide +kernel) rfl, mW 62 (by decide +kernel) rfl, rfl, by decide +kernel, by decide +kernel, by decide +kernel⟩
theorem ok_X3_init : okI yX3_init cX3_init 1 0 := ⟨mW 122 (by decide +kernel) rfl, mW 121 (by decide +kernel) rfl, mW 63 (by decide +kernel) rfl, rfl, by decide +kernel, by decide +kernel, by decide +kernel⟩
theorem ok_X4_init : okI yX4_init cX4_init 1 0 := ⟨mW 150 (by decide +kernel) rfl, mW 149 (by decide +kernel) rfl, mW 64 (by decide +kernel) rfl, rfl, by decide +kernel, by decide +kernel, by decide +kernel⟩
theorem ok_X0_fill : okV yX0_fill cX0_fill 4 (none) 2 := ⟨mW 157 (by decide +kernel) rfl, mW 155 (by decide +kernel) rfl, mW 156 (by decide +kernel) rfl, mW 61 (by decide +kernel) rfl, by decide +kernel, by decide +kernel, by decide +kernel⟩
theorem ok_J9_min_7cf53 : okS yJ9_min_7cf53 cJ9_min_7cf53 2 (some .int) 2 := ⟨mW 160 (by decide +kernel) rfl, mW 159 (by decide +kernel) rfl, mW 60 (by decide +kernel) rfl, by decide +kernel, by decide +kernel, by decide +kernel⟩
theorem ok_X5_row : okV yX5_row cX5_row 4 (some .int) 2 := ⟨mW 262 (by decide +kernel) rfl, mW 260 (by decide +kernel) rfl, mW 261 (by decide +kernel) rfl, mW 59 (by decide +kernel) rfl, by decide +kernel, by decide +kernel, by decide +kernel⟩
theorem ok_X5_pick : okS yX5_pick cX5_pick 2 (Option.some (.object "WokenYears$Ints")) 2 := ⟨mW 265 (by decide +kernel) rfl, mW 264 (by decide +kernel) rfl, mW 59 (by decide +kernel) rfl, by decide +kernel, by decide +kernel, by decide +kernel⟩
theorem ok_X5_found : okV yX5_found cX5_found 2 (some .int) 1 := ⟨mW 269 (by decide +kernel) rfl, mW 268 (by decide +kernel) rfl, mW 0 (by decide +kernel) rfl, mW 59 (by decide +kernel) rfl, by decide +kernel, by decide +kernel, by decide +kernel⟩
theorem ok_X0_get : okV yX0_get cX0_get 2 (some .int) 1 := ⟨mW 273 (by decide +kernel) rfl, mW 271 (by decide +kernel) rfl, mW 272 (by decide +kernel) rfl, mW 61 (by decide +kernel) rfl, by decide +kernel, by decide +kernel, by decide +kernel⟩
theorem ok_X0_set : okV yX0_set cX0_set 3 (none) 2 := ⟨mW 277 (by decide +kernel) rfl, mW 275 (by decide +kernel) rfl, mW 276 (by decide +kernel) rfl, mW 61 (by decide +kernel) rfl, by decide +kernel, by decide +kernel, by decide +kernel⟩
theorem ok_X5_lay : okV yX5_lay cX5_lay 6 (some .int) 3 := ⟨mW 281 (by decide +kernel) rfl, mW 279 (by decide +kernel) rfl, mW 280 (by decide +kernel) rfl, mW 59 (by decide +kernel) rfl, by decide +kernel, by decide +kernel, by decide +kernel⟩
theorem ok_X5_refusedAt : okV yX5_refusedAt cX5_refusedAt 4 (some .int) 2 := ⟨mW 285 (by decide +kernel) rfl, mW 284 (by decide +kernel) rfl, mW 1 (by decide +kernel) rfl, mW 59 (by decide +kernel) rfl, by decide +kernel, by decide +kernel, by decide +kernel⟩
theorem ok_X5_refused : okV yX5_refused cX5_refused 2 (some .int) 1 := ⟨mW 289 (by decide +kernel) rfl, mW 288 (by decide +kernel) rfl, mW 2 (by decide +kernel) rfl, mW 59 (by decide +kernel) rfl, by decide +kernel, by decide +kernel, by decide +kernel⟩
theorem ok_X0_has : okV yX0_has cX0_has 2 (some .boolean) 1 := ⟨mW 293 (by decide +kernel) rfl, mW 291 (by decide +kernel) rfl, mW 292 (by decide +kernel) rfl, mW 61 (by decide +kernel) rfl, by decide +kernel, by decide +kernel, by decide +kernel⟩
theorem ok_X5_at : okV yX5_at cX5_at 5 (some .int) 2 := ⟨mW 297 (by decide +kernel) rfl, mW 295 (by decide +kernel) rfl, mW 296 (by decide +kernel) rfl, mW 59 (by decide +kernel) rfl, by decide +kernel, by decide +kernel, by decide +kernel⟩
theorem ok_X5_tear : okV yX5_tear cX5_tear 4 (some .int) 1 := ⟨mW 301 (by decide +kernel) rfl, mW 299 (by decide +kernel) rfl, mW 300 (by decide +kernel) rfl, mW 59 (by decide +kernel) rfl, by decide +kernel, by decide +kernel, by decide +kernel⟩
theorem ok_X0_drop : okV yX0_drop cX0_drop 1 (none) 0 := ⟨mW 305 (by decide +kernel) rfl, mW 303 (by decide +kernel) rfl, mW 304 (by decide +kernel) rfl, mW 61 (by decide +kernel) rfl, by decide +kernel, by decide +kernel, by decide +kernel⟩
theorem ok_X5_copy : okV yX5_copy cX5_copy 8 (some .int) 5 := ⟨mW 309 (by decide +kernel) rfl, mW 307 (by decide +kernel) rfl, mW 308 (by decide +kernel) rfl, mW 59 (by decide +kernel) rfl, by decide +kernel, by decide +kernel, by decide +kernel⟩
theorem ok_X0_spans : okV yX0_spans cX0_spans 3 (some .boolean) 2 := ⟨mW 313 (by decide +kernel) rfl, mW 311 (by decide +kernel) rfl, mW 312 (by decide +kernel) rfl, mW 61 (by decide +kernel) rfl, by decide +kernel, by decide +kernel, by decide +kernel⟩
theorem ok_X0_copyOut : okV yX0_copyOut cX0_copyOut 5 (none) 4 := ⟨mW 317 (by decide +kernel) rfl, mW 315 (by decide +kernel) rfl, mW 316 (by decide +kernel) rfl, mW 61 (by decide +kernel) rfl, by decide +kernel, by decide +kernel, by decide +kernel⟩
theorem ok_X5_mean : okV yX5_mean cX5_mean 7 (some .int) 1 := ⟨mW 325 (by decide +kernel) rfl, mW 323 (by decide +kernel) rfl, mW 324 (by decide +kernel) rfl, mW 59 (by decide +kernel) rfl, by decide +kernel, by decide +kernel, by decide +kernel⟩
theorem ok_X5_text : okV yX5_text cX5_text 4 (some .int) 2 := ⟨mW 329 (by decide +kernel) rfl, mW 327 (by decide +kernel) rfl, mW 328 (by decide +kernel) rfl, mW 59 (by decide +kernel) rfl, by decide +kernel, by decide +kernel, by decide +kernel⟩
theorem ok_X5_put : okV yX5_put cX5_put 7 (some .int) 3 := ⟨mW 333 (by decide +kernel) rfl, mW 331 (by decide +kernel) rfl, mW 332 (by decide +kernel) rfl, mW 59 (by decide +kernel) rfl, by decide +kernel, by decide +kernel, by decide +kernel⟩
theorem ok_X5_fault : okV yX5_fault cX5_fault 4 (some .int) 1 := ⟨mW 337 (by decide +kernel) rfl, mW 335 (by decide +kernel) rfl, mW 336 (by decide +kernel) rfl, mW 59 (by decide +kernel) rfl, by decide +kernel, by decide +kernel, by decide +kernel⟩
theorem ok_X2_read : okV yX2_read cX2_read 6 (some .int) 2 := ⟨mW 341 (by decide +kernel) rfl, mW 339 (by decide +kernel) rfl, mW 340 (by decide +kernel) rfl, mW 62 (by decide +kernel) rfl, by decide +kernel, by decide +kernel, by decide +kernel⟩
theorem ok_X2_skipBlanks : okV yX2_skipBlanks cX2_skipBlanks 2 (none) 0 := ⟨mW 345 (by decide +kernel) rfl, mW 344 (by decide +kernel) rfl, mW 3 (by decide +kernel) rfl, mW 62 (by decide +kernel) rfl, by decide +kernel, by decide +kernel, by decide +kernel⟩
theorem ok_X2_sign : okV yX2_sign cX2_sign 1 (some .int) 0 := ⟨mW 349 (by decide +kernel) rfl, mW 348 (by decide +kernel) rfl, mW 4 (by decide +kernel) rfl, mW 62 (by decide +kernel) rfl, by decide +kernel, by decide +kernel, by decide +kernel⟩
theorem ok_X2_letter : okV yX2_letter cX2_letter 2 (none) 1 := ⟨mW 354 (by decide +kernel) rfl, mW 353 (by decide +kernel) rfl, mW 5 (by decide +kernel) rfl, mW 62 (by decide +kernel) rfl, by decide +kernel, by decide +kernel, by decide +kernel⟩
theorem ok_X2_figure : okV yX2_figure cX2_figure 3 (some .int) 1 := ⟨mW 358 (by decide +kernel) rfl, mW 357 (by decide +kernel) rfl, mW 6 (by decide +kernel) rfl, mW 62 (by decide +kernel) rfl, by decide +kernel, by decide +kernel, by decide +kernel⟩
theorem ok_X2_twoFigures : okV yX2_twoFigures cX2_twoFigures 2 (some .int) 0 := ⟨mW 362 (by decide +kernel) rfl, mW 361 (by decide +kernel) rfl, mW 7 (by decide +kernel) rfl, mW 62 (by decide +kernel) rfl, by decide +kernel, by decide +kernel, by decide +kernel⟩
theorem ok_X4_begin : okV yX4_begin cX4_begin 3 (none) 2 := ⟨mW 366 (by decide +kernel) rfl, mW 364 (by decide +kernel) rfl, mW 365 (by decide +kernel) rfl, mW 64 (by decide +kernel) rfl, by decide +kernel, by decide +kernel, by decide +kernel⟩
theorem ok_X2_readHouse : okV yX2_readHouse cX2_readHouse 5 (none) 1 := ⟨mW 370 (by decide +kernel) rfl, mW 369 (by decide +kernel) rfl, mW 8 (by decide +kernel) rfl, mW 62 (by decide +kernel) rfl, by decide +kernel, by decide +kernel, by decide +kernel⟩
theorem ok_X1_byLetter : okS yX1_byLetter cX1_byLetter 1 (some .int) 1 := ⟨mW 373 (by decide +kernel) rfl, mW 372 (by decide +kernel) rfl, mW 67 (by decide +kernel) rfl, by decide +kernel, by decide +kernel, by decide +kernel⟩
theorem ok_X4_build : okV yX4_build cX4_build 4 (none) 3 := ⟨mW 377 (by decide +kernel) rfl, mW 375 (by decide +kernel) rfl, mW 376 (by decide +kernel) rfl, mW 64 (by decide +kernel) rfl, by decide +kernel, by decide +kernel, by decide +kernel⟩
theorem ok_X0_add : okV yX0_add cX0_add 2 (none) 1 := ⟨mW 381 (by decide +kernel) rfl, mW 379 (by decide +kernel) rfl, mW 380 (by decide +kernel) rfl, mW 61 (by decide +kernel) rfl, by decide +kernel, by decide +kernel, by decide +kernel⟩
theorem ok_X5_town : okV yX5_town cX5_town 7 (some .int) 1 := ⟨mW 385 (by decide +kernel) rfl, mW 383 (by decide +kernel) rfl, mW 384 (by decide +kernel) rfl, mW 59 (by decide +kernel) rfl, by decide +kernel, by decide +kernel, by decide +kernel⟩
theorem ok_X4_replay : okV yX4_replay cX4_replay 2 (none) 0 := ⟨mW 389 (by decide +kernel) rfl, mW 387 (by decide +kernel) rfl, mW 388 (by decide +kernel) rfl, mW 64 (by decide +kernel) rfl, by decide +kernel, by decide +kernel, by decide +kernel⟩
theorem ok_X0_takeFrom : okV yX0_takeFrom cX0_takeFrom 2 (none) 1 := ⟨mW 393 (by decide +kernel) rfl, mW 391 (by decide +kernel) rfl, mW 392 (by decide +kernel) rfl, mW 61 (by decide +kernel) rfl, by decide +kernel, by decide +kernel, by decide +kernel⟩
theorem ok_X4_sleep : okV yX4_sleep cX4_sleep 1 (none) 0 := ⟨mW 399 (by decide +kernel) rfl, mW 398 (by decide +kernel) rfl, mW 9 (by decide +kernel) rfl, mW 64 (by decide +kernel) rfl, by decide +kernel, by decide +kernel, by decide +kernel⟩
theorem ok_X4_perform : okV yX4_perform cX4_perform 4 (none) 1 := ⟨mW 404 (by decide +kernel) rfl, mW 403 (by decide +kernel) rfl, mW 10 (by decide +kernel) rfl, mW 64 (by decide +kernel) rfl, by decide +kernel, by decide +kernel, by decide +kernel⟩
theorem ok_J9_abs_0f7a4 : okS yJ9_abs_0f7a4 cJ9_abs_0f7a4 1 (some .int) 1 := ⟨mW 407 (by decide +kernel) rfl, mW 406 (by decide +kernel) rfl, mW 60 (by decide +kernel) rfl, by decide +kernel, by decide +kernel, by decide +kernel⟩
theorem ok_X4_hear : okV yX4_hear cX4_hear 3 (none) 1 := ⟨mW 411 (by decide +kernel) rfl, mW 410 (by decide +kernel) rfl, mW 11 (by decide +kernel) rfl, mW 64 (by decide +kernel) rfl, by decide +kernel, by decide +kernel, by decide +kernel⟩
theorem ok_X4_tapsFor : okV yX4_tapsFor cX4_tapsFor 3 (some .int) 2 := ⟨mW 416 (by decide +kernel) rfl, mW 414 (by decide +kernel) rfl, mW 415 (by decide +kernel) rfl, mW 64 (by decide +kernel) rfl, by decide +kernel, by decide +kernel, by decide +kernel⟩
theorem ok_X1_taps : okS yX1_taps cX1_taps 5 (some .int) 3 := ⟨mW 419 (by decide +kernel) rfl, mW 418 (by decide +kernel) rfl, mW 67 (by decide +kernel) rfl, by decide +kernel, by decide +kernel, by decide +kernel⟩
theorem ok_X4_isAwake : okV yX4_isAwake cX4_isAwake 2 (some .boolean) 1 := ⟨mW 423 (by decide +kernel) rfl, mW 421 (by decide +kernel) rfl, mW 422 (by decide +kernel) rfl, mW 64 (by decide +kernel) rfl, by decide +kernel, by decide +kernel, by decide +kernel⟩
theorem ok_X4_isHouse : okV yX4_isHouse cX4_isHouse 2 (some .boolean) 1 := ⟨mW 427 (by decide +kernel) rfl, mW 425 (by decide +kernel) rfl, mW 426 (by decide +kernel) rfl, mW 64 (by decide +kernel) rfl, by decide +kernel, by decide +kernel, by decide +kernel⟩
theorem ok_X4_fee : okV yX4_fee cX4_fee 2 (some .int) 1 := ⟨mW 431 (by decide +kernel) rfl, mW 429 (by decide +kernel) rfl, mW 430 (by decide +kernel) rfl, mW 64 (by decide +kernel) rfl, by decide +kernel, by decide +kernel, by decide +kernel⟩
theorem ok_X1_fee : okS yX1_fee cX1_fee 1 (some .int) 1 := ⟨mW 434 (by decide +kernel) rfl, mW 433 (by decide +kernel) rfl, mW 67 (by decide +kernel) rfl, by decide +kernel, by decide +kernel, by decide +kernel⟩
theorem ok_X5_house : okV yX5_house cX5_house 3 (some .int) 2 := ⟨mW 439 (by decide +kernel) rfl, mW 437 (by decide +kernel) rfl, mW 438 (by decide +kernel) rfl, mW 59 (by decide +kernel) rfl, by decide +kernel, by decide +kernel, by decide +kernel⟩
theorem ok_X5_within : okS yX5_within cX5_within 3 (some .boolean) 3 := ⟨mW 443 (by decide +kernel) rfl, mW 442 (by decide +kernel) rfl, mW 59 (by decide +kernel) rfl, by decide +kernel, by decide +kernel, by decide +kernel⟩
theorem ok_X4_tell : okV yX4_tell cX4_tell 3 (some .int) 2 := ⟨mW 447 (by decide +kernel) rfl, mW 445 (by decide +kernel) rfl, mW 446 (by decide +kernel) rfl, mW 64 (by decide +kernel) rfl, by decide +kernel, by decide +kernel, by decide +kernel⟩
theorem ok_X4_more : okV yX4_more cX4_more 3 (some .int) 1 := ⟨mW 451 (by decide +kernel) rfl, mW 449 (by decide +kernel) rfl, mW 450 (by decide +kernel) rfl, mW 64 (by decide +kernel) rfl, by decide +kernel, by decide +kernel, by decide +kernel⟩
theorem ok_X5_mark : okV yX5_mark cX5_mark 5 (some .int) 2 := ⟨mW 456 (by decide +kernel) rfl, mW 454 (by decide +kernel) rfl, mW 455 (by decide +kernel) rfl, mW 59 (by decide +kernel) rfl, by decide +kernel, by decide +kernel, by decide +kernel⟩
theorem ok_X1_isOf : okS yX1_isOf cX1_isOf 2 (some .boolean) 2 := ⟨mW 459 (by decide +kernel) rfl, mW 458 (by decide +kernel) rfl, mW 67 (by decide +kernel) rfl, by decide +kernel, by decide +kernel, by decide +kernel⟩
theorem ok_X4_othersAwake : okV yX4_othersAwake cX4_othersAwake 2 (some .int) 1 := ⟨mW 467 (by decide +kernel) rfl, mW 465 (by decide +kernel) rfl, mW 466 (by decide +kernel) rfl, mW 64 (by decide +kernel) rfl, by decide +kernel, by decide +kernel, by decide +kernel⟩
theorem ok_X4_awakeSet : okV yX4_awakeSet cX4_awakeSet 3 (some .int) 0 := ⟨mW 471 (by decide +kernel) rfl, mW 469 (by decide +kernel) rfl, mW 470 (by decide +kernel) rfl, mW 64 (by decide +kernel) rfl, by decide +kernel, by decide +kernel, by decide +kernel⟩
theorem ok_J6_bitCount_0f7a4 : okS yJ6_bitCount_0f7a4 cJ6_bitCount_0f7a4 1 (some .int) 1 := ⟨mW 474 (by decide +kernel) rfl, mW 473 (by decide +kernel) rfl, mW 68 (by decide +kernel) rfl, by decide +kernel, by decide +kernel, by decide +kernel⟩
theorem ok_X4_othersEarlier : okV yX4_othersEarlier cX4_othersEarlier 4 (some .int) 1 := ⟨mW 481 (by decide +kernel) rfl, mW 479 (by decide +kernel) rfl, mW 480 (by decide +kernel) rfl, mW 64 (by decide +kernel) rfl, by decide +kernel, by decide +kernel, by decide +kernel⟩
theorem ok_X5_walk : okV yX5_walk cX5_walk 2 (some .int) 1 := ⟨mW 485 (by decide +kernel) rfl, mW 483 (by decide +kernel) rfl, mW 484 (by decide +kernel) rfl, mW 59 (by decide +kernel) rfl, by decide +kernel, by decide +kernel, by decide +kernel⟩
theorem ok_X5_isFull : okV yX5_isFull cX5_isFull 2 (some .boolean) 1 := ⟨mW 489 (by decide +kernel) rfl, mW 488 (by decide +kernel) rfl, mW 12 (by decide +kernel) rfl, mW 59 (by decide +kernel) rfl, by decide +kernel, by decide +kernel, by decide +kernel⟩
theorem ok_X4_does : okV yX4_does cX4_does 5 (none) 3 := ⟨mW 493 (by decide +kernel) rfl, mW 491 (by decide +kernel) rfl, mW 492 (by decide +kernel) rfl, mW 64 (by decide +kernel) rfl, by decide +kernel, by decide +kernel, by decide +kernel⟩
theorem ok_X5_tap : okV yX5_tap cX5_tap 1 (some .int) 0 := ⟨mW 497 (by decide +kernel) rfl, mW 495 (by decide +kernel) rfl, mW 496 (by decide +kernel) rfl, mW 59 (by decide +kernel) rfl, by decide +kernel, by decide +kernel, by decide +kernel⟩
theorem ok_X5_slate : okV yX5_slate cX5_slate 4 (some .int) 2 := ⟨mW 502 (by decide +kernel) rfl, mW 500 (by decide +kernel) rfl, mW 501 (by decide +kernel) rfl, mW 59 (by decide +kernel) rfl, by decide +kernel, by decide +kernel, by decide +kernel⟩
theorem ok_X5_isDate : okS yX5_isDate cX5_isDate 1 (some .boolean) 1 := ⟨mW 505 (by decide +kernel) rfl, mW 504 (by decide +kernel) rfl, mW 59 (by decide +kernel) rfl, by decide +kernel, by decide +kernel, by decide +kernel⟩
theorem ok_X5_frost : okV yX5_frost cX5_frost 2 (some .int) 1 := ⟨mW 509 (by decide +kernel) rfl, mW 507 (by decide +kernel) rfl, mW 508 (by decide +kernel) rfl, mW 59 (by decide +kernel) rfl, by decide +kernel, by decide +kernel, by decide +kernel⟩
theorem ok_X5_night : okV yX5_night cX5_night 2 (some .int) 0 := ⟨mW 513 (by decide +kernel) rfl, mW 511 (by decide +kernel) rfl, mW 512 (by decide +kernel) rfl, mW 59 (by decide +kernel) rfl, by decide +kernel, by decide +kernel, by decide +kernel⟩
theorem ok_X5_undo : okV yX5_undo cX5_undo 3 (some .int) 1 := ⟨mW 519 (by decide +kernel) rfl, mW 517 (by decide +kernel) rfl, mW 518 (by decide +kernel) rfl, mW 59 (by decide +kernel) rfl, by decide +kernel, by decide +kernel, by decide +kernel⟩
theorem ok_X0_cut : okV yX0_cut cX0_cut 2 (none) 1 := ⟨mW 523 (by decide +kernel) rfl, mW 521 (by decide +kernel) rfl, mW 522 (by decide +kernel) rfl, mW 61 (by decide +kernel) rfl, by decide +kernel, by decide +kernel, by decide +kernel⟩
theorem ok_X5_keep : okV yX5_keep cX5_keep 3 (some .int) 1 := ⟨mW 527 (by decide +kernel) rfl, mW 525 (by decide +kernel) rfl, mW 526 (by decide +kernel) rfl, mW 59 (by decide +kernel) rfl, by decide +kernel, by decide +kernel, by decide +kernel⟩
theorem ok_X5_on : okV yX5_on cX5_on 4 (some .int) 1 := ⟨mW 532 (by decide +kernel) rfl, mW 530 (by decide +kernel) rfl, mW 531 (by decide +kernel) rfl, mW 59 (by decide +kernel) rfl, by decide +kernel, by decide +kernel, by decide +kernel⟩
theorem ok_X5_takes : okV yX5_takes cX5_takes 3 (some .int) 2 := ⟨mW 536 (by decide +kernel) rfl, mW 534 (by decide +kernel) rfl, mW 535 (by decide +kernel) rfl, mW 59 (by decide +kernel) rfl, by decide +kernel, by decide +kernel, by decide +kernel⟩
theorem ok_X5_pays : okV yX5_pays cX5_pays 2 (some .int) 1 := ⟨mW 540 (by decide +kernel) rfl, mW 538 (by decide +kernel) rfl, mW 539 (by decide +kernel) rfl, mW 59 (by decide +kernel) rfl, by decide +kernel, by decide +kernel, by decide +kernel⟩
theorem ok_X5_who : okV yX5_who cX5_who 5 (some .int) 2 := ⟨mW 544 (by decide +kernel) rfl, mW 542 (by decide +kernel) rfl, mW 543 (by decide +kernel) rfl, mW 59 (by decide +kernel) rfl, by decide +kernel, by decide +kernel, by decide +kernel⟩
theorem ok_X5_quarrels : okV yX5_quarrels cX5_quarrels 1 (some .int) 0 := ⟨mW 548 (by decide +kernel) rfl, mW 546 (by decide +kernel) rfl, mW 547 (by decide +kernel) rfl, mW 59 (by decide +kernel) rfl, by decide +kernel, by decide +kernel, by decide +kernel⟩
theorem ok_X4_quarrelling : okV yX4_quarrelling cX4_quarrelling 4 (some .int) 0 := ⟨mW 552 (by decide +kernel) rfl, mW 550 (by decide +kernel) rfl, mW 551 (by decide +kernel) rfl, mW 64 (by decide +kernel) rfl, by decide +kernel, by decide +kernel, by decide +kernel⟩
theorem ok_X5_soonest : okV yX5_soonest cX5_soonest 2 (some .int) 1 := ⟨mW 556 (by decide +kernel) rfl, mW 554 (by decide +kernel) rfl, mW 555 (by decide +kernel) rfl, mW 59 (by decide +kernel) rfl, by decide +kernel, by decide +kernel, by decide +kernel⟩
theorem ok_X4_isSet : okV yX4_isSet cX4_isSet 2 (some .boolean) 1 := ⟨mW 560 (by decide +kernel) rfl, mW 558 (by decide +kernel) rfl, mW 559 (by decide +kernel) rfl, mW 64 (by decide +kernel) rfl, by decide +kernel, by decide +kernel, by decide +kernel⟩
theorem ok_X4_canWake : okV yX4_canWake cX4_canWake 3 (some .boolean) 1 := ⟨mW 564 (by decide +kernel) rfl, mW 562 (by decide +kernel) rfl, mW 563 (by decide +kernel) rfl, mW 64 (by decide +kernel) rfl, by decide +kernel, by decide +kernel, by decide +kernel⟩
theorem ok_X5_holds : okS yX5_holds cX5_holds 2 (some .boolean) 2 := ⟨mW 567 (by decide +kernel) rfl, mW 566 (by decide +kernel) rfl, mW 59 (by decide +kernel) rfl, by decide +kernel, by decide +kernel, by decide +kernel⟩
theorem ok_X4_tapsLeft : okV yX4_tapsLeft cX4_tapsLeft 4 (some .int) 1 := ⟨mW 571 (by decide +kernel) rfl, mW 569 (by decide +kernel) rfl, mW 570 (by decide +kernel) rfl, mW 64 (by decide +kernel) rfl, by decide +kernel, by decide +kernel, by decide +kernel⟩
theorem ok_X3_walkOver : okS yX3_walkOver cX3_walkOver 5 (some .int) 2 := ⟨mW 574 (by decide +kernel) rfl, mW 573 (by decide +kernel) rfl, mW 63 (by decide +kernel) rfl, by decide +kernel, by decide +kernel, by decide +kernel⟩
theorem ok_X5_intime : okV yX5_intime cX5_intime 5 (some .int) 2 := ⟨mW 581 (by decide +kernel) rfl, mW 579 (by decide +kernel) rfl, mW 580 (by decide +kernel) rfl, mW 59 (by decide +kernel) rfl, by decide +kernel, by decide +kernel, by decide +kernel⟩
theorem ok_X3_fewest : okV yX3_fewest cX3_fewest 5 (some .int) 2 := ⟨mW 585 (by decide +kernel) rfl, mW 583 (by decide +kernel) rfl, mW 584 (by decide +kernel) rfl, mW 63 (by decide +kernel) rfl, by decide +kernel, by decide +kernel, by decide +kernel⟩
theorem ok_X3_start : okV yX3_start cX3_start 3 (none) 1 := ⟨mW 589 (by decide +kernel) rfl, mW 588 (by decide +kernel) rfl, mW 13 (by decide +kernel) rfl, mW 63 (by decide +kernel) rfl, by decide +kernel, by decide +kernel, by decide +kernel⟩
theorem ok_X3_seek : okS yX3_seek cX3_seek 9 (none) 6 := ⟨mW 598 (by decide +kernel) rfl, mW 597 (by decide +kernel) rfl, mW 63 (by decide +kernel) rfl, by decide +kernel, by decide +kernel, by decide +kernel⟩
theorem ok_X5_many : okV yX5_many cX5_many 1 (some .int) 0 := ⟨mW 604 (by decide +kernel) rfl, mW 602 (by decide +kernel) rfl, mW 603 (by decide +kernel) rfl, mW 59 (by decide +kernel) rfl, by decide +kernel, by decide +kernel, by decide +kernel⟩
theorem ok_X3_greatest : okV yX3_greatest cX3_greatest 7 (some .int) 1 := ⟨mW 608 (by decide +kernel) rfl, mW 606 (by decide +kernel) rfl, mW 607 (by decide +kernel) rfl, mW 63 (by decide +kernel) rfl, by decide +kernel, by decide +kernel, by decide +kernel⟩
theorem ok_X3_endAt : okV yX3_endAt cX3_endAt 9 (some .int) 3 := ⟨mW 612 (by decide +kernel) rfl, mW 611 (by decide +kernel) rfl, mW 14 (by decide +kernel) rfl, mW 63 (by decide +kernel) rfl, by decide +kernel, by decide +kernel, by decide +kernel⟩
theorem ok_X5_dates : okV yX5_dates cX5_dates 9 (some .int) 1 := ⟨mW 616 (by decide +kernel) rfl, mW 614 (by decide +kernel) rfl, mW 615 (by decide +kernel) rfl, mW 59 (by decide +kernel) rfl, by decide +kernel, by decide +kernel, by decide +kernel⟩
theorem ok_X4_nextByDate : okV yX4_nextByDate cX4_nextByDate 6 (some .int) 2 := ⟨mW 620 (by decide +kernel) rfl, mW 618 (by decide +kernel) rfl, mW 619 (by decide +kernel) rfl, mW 64 (by decide +kernel) rfl, by decide +kernel, by decide +kernel, by decide +kernel⟩
theorem ok_X5_whose : okV yX5_whose cX5_whose 6 (some .int) 1 := ⟨mW 624 (by decide +kernel) rfl, mW 622 (by decide +kernel) rfl, mW 623 (by decide +kernel) rfl, mW 59 (by decide +kernel) rfl, by decide +kernel, by decide +kernel, by decide +kernel⟩
theorem ok_X5_refusedPairs : okV yX5_refusedPairs cX5_refusedPairs 4 (some .int) 1 := ⟨mW 628 (by decide +kernel) rfl, mW 627 (by decide +kernel) rfl, mW 15 (by decide +kernel) rfl, mW 59 (by decide +kernel) rfl, by decide +kernel, by decide +kernel, by decide +kernel⟩
theorem ok_X5_canBe : okV yX5_canBe cX5_canBe 4 (some .boolean) 2 := ⟨mW 632 (by decide +kernel) rfl, mW 631 (by decide +kernel) rfl, mW 16 (by decide +kernel) rfl, mW 59 (by decide +kernel) rfl, by decide +kernel, by decide +kernel, by decide +kernel⟩
theorem ok_X5_tookOf : okS yX5_tookOf cX5_tookOf 4 (some .int) 3 := ⟨mW 635 (by decide +kernel) rfl, mW 634 (by decide +kernel) rfl, mW 59 (by decide +kernel) rfl, by decide +kernel, by decide +kernel, by decide +kernel⟩
theorem ok_X5_kinds : okV yX5_kinds cX5_kinds 4 (some .int) 1 := ⟨mW 639 (by decide +kernel) rfl, mW 637 (by decide +kernel) rfl, mW 638 (by decide +kernel) rfl, mW 59 (by decide +kernel) rfl, by decide +kernel, by decide +kernel, by decide +kernel⟩
theorem ok_X5_kindsBy : okV yX5_kindsBy cX5_kindsBy 4 (some .int) 1 := ⟨mW 643 (by decide +kernel) rfl, mW 642 (by decide +kernel) rfl, mW 17 (by decide +kernel) rfl, mW 59 (by decide +kernel) rfl, by decide +kernel, by decide +kernel, by decide +kernel⟩
theorem ok_X5_test : okV yX5_test cX5_test 9 (some .int) 1 := ⟨mW 647 (by decide +kernel) rfl, mW 645 (by decide +kernel) rfl, mW 646 (by decide +kernel) rfl, mW 59 (by decide +kernel) rfl, by decide +kernel, by decide +kernel, by decide +kernel⟩
theorem ok_X5_greatestPart : okV yX5_greatestPart cX5_greatestPart 6 (some .int) 2 := ⟨mW 651 (by decide +kernel) rfl, mW 650 (by decide +kernel) rfl, mW 18 (by decide +kernel) rfl, mW 59 (by decide +kernel) rfl, by decide +kernel, by decide +kernel, by decide +kernel⟩
theorem ok_X5_partOf : okV yX5_partOf cX5_partOf 6 (some .int) 3 := ⟨mW 656 (by decide +kernel) rfl, mW 655 (by decide +kernel) rfl, mW 19 (by decide +kernel) rfl, mW 59 (by decide +kernel) rfl, by decide +kernel, by decide +kernel, by decide +kernel⟩
theorem ok_X5_sets : okV yX5_sets cX5_sets 5 (some .int) 1 := ⟨mW 660 (by decide +kernel) rfl, mW 658 (by decide +kernel) rfl, mW 659 (by decide +kernel) rfl, mW 59 (by decide +kernel) rfl, by decide +kernel, by decide +kernel, by decide +kernel⟩
theorem ok_X4_fees : okV yX4_fees cX4_fees 4 (some .int) 1 := ⟨mW 664 (by decide +kernel) rfl, mW 662 (by decide +kernel) rfl, mW 663 (by decide +kernel) rfl, mW 64 (by decide +kernel) rfl, by decide +kernel, by decide +kernel, by decide +kernel⟩
theorem ok_X5_tellRatio : okV yX5_tellRatio cX5_tellRatio 7 (none) 2 := ⟨mW 668 (by decide +kernel) rfl, mW 667 (by decide +kernel) rfl, mW 20 (by decide +kernel) rfl, mW 59 (by decide +kernel) rfl, by decide +kernel, by decide +kernel, by decide +kernel⟩
theorem ok_X5_divisor : okS yX5_divisor cX5_divisor 7 (some .long) 2 := ⟨mW 671 (by decide +kernel) rfl, mW 670 (by decide +kernel) rfl, mW 59 (by decide +kernel) rfl, by decide +kernel, by decide +kernel, by decide +kernel⟩
theorem ok_X5_sure : okV yX5_sure cX5_sure 7 (some .int) 1 := ⟨mW 675 (by decide +kernel) rfl, mW 673 (by decide +kernel) rfl, mW 674 (by decide +kernel) rfl, mW 59 (by decide +kernel) rfl, by decide +kernel, by decide +kernel, by decide +kernel⟩
theorem ok_X5_duel : okV yX5_duel cX5_duel 2 (some .int) 1 := ⟨mW 679 (by decide +kernel) rfl, mW 677 (by decide +kernel) rfl, mW 678 (by decide +kernel) rfl, mW 59 (by decide +kernel) rfl, by decide +kernel, by decide +kernel, by decide +kernel⟩
theorem ok_X4_mostAwake : okV yX4_mostAwake cX4_mostAwake 7 (some .int) 2 := ⟨mW 683 (by decide +kernel) rfl, mW 681 (by decide +kernel) rfl, mW 682 (by decide +kernel) rfl, mW 64 (by decide +kernel) rfl, by decide +kernel, by decide +kernel, by decide +kernel⟩
theorem ok_X5_odds : okV yX5_odds cX5_odds 8 (some .int) 3 := ⟨mW 687 (by decide +kernel) rfl, mW 685 (by decide +kernel) rfl, mW 686 (by decide +kernel) rfl, mW 59 (by decide +kernel) rfl, by decide +kernel, by decide +kernel, by decide +kernel⟩
theorem ok_X5_isTry : okV yX5_isTry cX5_isTry 4 (some .boolean) 3 := ⟨mW 691 (by decide +kernel) rfl, mW 690 (by decide +kernel) rfl, mW 21 (by decide +kernel) rfl, mW 59 (by decide +kernel) rfl, by decide +kernel, by decide +kernel, by decide +kernel⟩
theorem ok_X5_weight : okS yX5_weight cX5_weight 3 (some .long) 3 := ⟨mW 695 (by decide +kernel) rfl, mW 694 (by decide +kernel) rfl, mW 59 (by decide +kernel) rfl, by decide +kernel, by decide +kernel, by decide +kernel⟩
theorem ok_X5_ways : okS yX5_ways cX5_ways 5 (some .long) 2 := ⟨mW 698 (by decide +kernel) rfl, mW 697 (by decide +kernel) rfl, mW 59 (by decide +kernel) rfl, by decide +kernel, by decide +kernel, by decide +kernel⟩
theorem ok_X5_power : okS yX5_power cX5_power 6 (some .long) 2 := ⟨mW 701 (by decide +kernel) rfl, mW 700 (by decide +kernel) rfl, mW 59 (by decide +kernel) rfl, by decide +kernel, by decide +kernel, by decide +kernel⟩
theorem ok_X5_mid : okV yX5_mid cX5_mid 8 (some .int) 3 := ⟨mW 706 (by decide +kernel) rfl, mW 704 (by decide +kernel) rfl, mW 705 (by decide +kernel) rfl, mW 59 (by decide +kernel) rfl, by decide +kernel, by decide +kernel, by decide +kernel⟩
theorem ok_X5_lots : okV yX5_lots cX5_lots 6 (some .int) 2 := ⟨mW 710 (by decide +kernel) rfl, mW 708 (by decide +kernel) rfl, mW 709 (by decide +kernel) rfl, mW 59 (by decide +kernel) rfl, by decide +kernel, by decide +kernel, by decide +kernel⟩
theorem ok_X4_doesByLot : okV yX4_doesByLot cX4_doesByLot 4 (none) 1 := ⟨mW 716 (by decide +kernel) rfl, mW 714 (by decide +kernel) rfl, mW 715 (by decide +kernel) rfl, mW 64 (by decide +kernel) rfl, by decide +kernel, by decide +kernel, by decide +kernel⟩
theorem ok_X5_asked : okV yX5_asked cX5_asked 1 (some .int) 0 := ⟨mW 721 (by decide +kernel) rfl, mW 719 (by decide +kernel) rfl, mW 720 (by decide +kernel) rfl, mW 59 (by decide +kernel) rfl, by decide +kernel, by decide +kernel, by decide +kernel⟩
theorem ok_X5_upper : okV yX5_upper cX5_upper 1 (some .long) 0 := ⟨mW 725 (by decide +kernel) rfl, mW 723 (by decide +kernel) rfl, mW 724 (by decide +kernel) rfl, mW 59 (by decide +kernel) rfl, by decide +kernel, by decide +kernel, by decide +kernel⟩
theorem ok_X5_lower : okV yX5_lower cX5_lower 1 (some .long) 0 := ⟨mW 729 (by decide +kernel) rfl, mW 727 (by decide +kernel) rfl, mW 728 (by decide +kernel) rfl, mW 59 (by decide +kernel) rfl, by decide +kernel, by decide +kernel, by decide +kernel⟩
theorem ok_X5_count : okV yX5_count cX5_count 2 (some .int) 1 := ⟨mW 733 (by decide +kernel) rfl, mW 731 (by decide +kernel) rfl, mW 732 (by decide +kernel) rfl, mW 59 (by decide +kernel) rfl, by decide +kernel, by decide +kernel, by decide +kernel⟩
theorem ok_X4_manyOf : okV yX4_manyOf cX4_manyOf 4 (some .int) 1 := ⟨mW 737 (by decide +kernel) rfl, mW 735 (by decide +kernel) rfl, mW 736 (by decide +kernel) rfl, mW 64 (by decide +kernel) rfl, by decide +kernel, by decide +kernel, by decide +kernel⟩
theorem ok_X5_present : okS yX5_present cX5_present 4 (some .int) 1 := ⟨mW 741 (by decide +kernel) rfl, mW 740 (by decide +kernel) rfl, mW 59 (by decide +kernel) rfl, by decide +kernel, by decide +kernel, by decide +kernel⟩
theorem ok_X5_finding : okV yX5_finding cX5_finding 1 (some .int) 0 := ⟨mW 745 (by decide +kernel) rfl, mW 743 (by decide +kernel) rfl, mW 744 (by decide +kernel) rfl, mW 59 (by decide +kernel) rfl, by decide +kernel, by decide +kernel, by decide +kernel⟩
theorem ok_X5_findings : okV yX5_findings cX5_findings 2 (some .int) 1 := ⟨mW 749 (by decide +kernel) rfl, mW 747 (by decide +kernel) rfl, mW 748 (by decide +kernel) rfl, mW 59 (by decide +kernel) rfl, by decide +kernel, by decide +kernel, by decide +kernel⟩
theorem ok_X5_digest : okV yX5_digest cX5_digest 5 (some .long) 0 := ⟨mW 753 (by decide +kernel) rfl, mW 751 (by decide +kernel) rfl, mW 752 (by decide +kernel) rfl, mW 59 (by decide +kernel) rfl, by decide +kernel, by decide +kernel, by decide +kernel⟩
theorem ok_X5_digestOf : okS yX5_digestOf cX5_digestOf 6 (some .long) 2 := ⟨mW 759 (by decide +kernel) rfl, mW 758 (by decide +kernel) rfl, mW 59 (by decide +kernel) rfl, by decide +kernel, by decide +kernel, by decide +kernel⟩
theorem ok_X6_init : okI yX6_init cX6_init 2 0 := ⟨mW 764 (by decide +kernel) rfl, mW 763 (by decide +kernel) rfl, mW 65 (by decide +kernel) rfl, rfl, by decide +kernel, by decide +kernel, by decide +kernel⟩
theorem ok_X6_row : okV yX6_row cX6_row 4 (some .int) 2 := ⟨mW 854 (by decide +kernel) rfl, mW 852 (by decide +kernel) rfl, mW 853 (by decide +kernel) rfl, mW 65 (by decide +kernel) rfl, by decide +kernel, by decide +kernel, by decide +kernel⟩
theorem ok_X6_in : okS yX6_in cX6_in 3 (some .boolean) 3 := ⟨mW 857 (by decide +kernel) rfl, mW 856 (by decide +kernel) rfl, mW 65 (by decide +kernel) rfl, by decide +kernel, by decide +kernel, by decide +kernel⟩
theorem ok_X6_finds : okV yX6_finds cX6_finds 2 (some .int) 1 := ⟨mW 861 (by decide +kernel) rfl, mW 860 (by decide +kernel) rfl, mW 22 (by decide +kernel) rfl, mW 65 (by decide +kernel) rfl, by decide +kernel, by decide +kernel, by decide +kernel⟩
theorem ok_X6_lay : okV yX6_lay cX6_lay 6 (some .int) 3 := ⟨mW 865 (by decide +kernel) rfl, mW 863 (by decide +kernel) rfl, mW 864 (by decide +kernel) rfl, mW 65 (by decide +kernel) rfl, by decide +kernel, by decide +kernel, by decide +kernel⟩
theorem ok_X6_wrongAt : okV yX6_wrongAt cX6_wrongAt 3 (some .int) 2 := ⟨mW 869 (by decide +kernel) rfl, mW 868 (by decide +kernel) rfl, mW 23 (by decide +kernel) rfl, mW 65 (by decide +kernel) rfl, by decide +kernel, by decide +kernel, by decide +kernel⟩
theorem ok_X6_tells : okV yX6_tells cX6_tells 2 (some .int) 1 := ⟨mW 873 (by decide +kernel) rfl, mW 872 (by decide +kernel) rfl, mW 24 (by decide +kernel) rfl, mW 65 (by decide +kernel) rfl, by decide +kernel, by decide +kernel, by decide +kernel⟩
theorem ok_X6_at : okV yX6_at cX6_at 4 (some .int) 2 := ⟨mW 877 (by decide +kernel) rfl, mW 875 (by decide +kernel) rfl, mW 876 (by decide +kernel) rfl, mW 65 (by decide +kernel) rfl, by decide +kernel, by decide +kernel, by decide +kernel⟩
theorem ok_X6_tear : okV yX6_tear cX6_tear 2 (some .int) 1 := ⟨mW 881 (by decide +kernel) rfl, mW 879 (by decide +kernel) rfl, mW 880 (by decide +kernel) rfl, mW 65 (by decide +kernel) rfl, by decide +kernel, by decide +kernel, by decide +kernel⟩
theorem ok_X6_copy : okV yX6_copy cX6_copy 9 (some .int) 5 := ⟨mW 885 (by decide +kernel) rfl, mW 883 (by decide +kernel) rfl, mW 884 (by decide +kernel) rfl, mW 65 (by decide +kernel) rfl, by decide +kernel, by decide +kernel, by decide +kernel⟩
theorem ok_X6_isPart : okS yX6_isPart cX6_isPart 3 (some .boolean) 3 := ⟨mW 888 (by decide +kernel) rfl, mW 887 (by decide +kernel) rfl, mW 65 (by decide +kernel) rfl, by decide +kernel, by decide +kernel, by decide +kernel⟩
theorem ok_X6_mean : okV yX6_mean cX6_mean 5 (some .int) 1 := ⟨mW 892 (by decide +kernel) rfl, mW 890 (by decide +kernel) rfl, mW 891 (by decide +kernel) rfl, mW 65 (by decide +kernel) rfl, by decide +kernel, by decide +kernel, by decide +kernel⟩
theorem ok_X6_text : okV yX6_text cX6_text 4 (some .int) 2 := ⟨mW 896 (by decide +kernel) rfl, mW 894 (by decide +kernel) rfl, mW 895 (by decide +kernel) rfl, mW 65 (by decide +kernel) rfl, by decide +kernel, by decide +kernel, by decide +kernel⟩
theorem ok_X6_put : okV yX6_put cX6_put 5 (some .int) 3 := ⟨mW 900 (by decide +kernel) rfl, mW 898 (by decide +kernel) rfl, mW 899 (by decide +kernel) rfl, mW 65 (by decide +kernel) rfl, by decide +kernel, by decide +kernel, by decide +kernel⟩
theorem ok_X6_fault : okV yX6_fault cX6_fault 2 (some .int) 1 := ⟨mW 904 (by decide +kernel) rfl, mW 902 (by decide +kernel) rfl, mW 903 (by decide +kernel) rfl, mW 65 (by decide +kernel) rfl, by decide +kernel, by decide +kernel, by decide +kernel⟩
theorem ok_X6_read : okV yX6_read cX6_read 2 (some .int) 1 := ⟨mW 908 (by decide +kernel) rfl, mW 907 (by decide +kernel) rfl, mW 25 (by decide +kernel) rfl, mW 65 (by decide +kernel) rfl, by decide +kernel, by decide +kernel, by decide +kernel⟩
theorem ok_X6_skip : okV yX6_skip cX6_skip 1 (none) 0 := ⟨mW 912 (by decide +kernel) rfl, mW 911 (by decide +kernel) rfl, mW 26 (by decide +kernel) rfl, mW 65 (by decide +kernel) rfl, by decide +kernel, by decide +kernel, by decide +kernel⟩
theorem ok_X6_letterAt : okV yX6_letterAt cX6_letterAt 2 (some .int) 1 := ⟨mW 916 (by decide +kernel) rfl, mW 915 (by decide +kernel) rfl, mW 27 (by decide +kernel) rfl, mW 65 (by decide +kernel) rfl, by decide +kernel, by decide +kernel, by decide +kernel⟩
theorem ok_X6_isStreet : okV yX6_isStreet cX6_isStreet 1 (some .boolean) 0 := ⟨mW 920 (by decide +kernel) rfl, mW 919 (by decide +kernel) rfl, mW 28 (by decide +kernel) rfl, mW 65 (by decide +kernel) rfl, by decide +kernel, by decide +kernel, by decide +kernel⟩
theorem ok_X6_figure : okV yX6_figure cX6_figure 4 (some .int) 2 := ⟨mW 924 (by decide +kernel) rfl, mW 923 (by decide +kernel) rfl, mW 29 (by decide +kernel) rfl, mW 65 (by decide +kernel) rfl, by decide +kernel, by decide +kernel, by decide +kernel⟩
theorem ok_X6_twoFigures : okV yX6_twoFigures cX6_twoFigures 3 (some .int) 0 := ⟨mW 928 (by decide +kernel) rfl, mW 927 (by decide +kernel) rfl, mW 30 (by decide +kernel) rfl, mW 65 (by decide +kernel) rfl, by decide +kernel, by decide +kernel, by decide +kernel⟩
theorem ok_X6_isHouseItem : okV yX6_isHouseItem cX6_isHouseItem 4 (some .boolean) 0 := ⟨mW 932 (by decide +kernel) rfl, mW 931 (by decide +kernel) rfl, mW 31 (by decide +kernel) rfl, mW 65 (by decide +kernel) rfl, by decide +kernel, by decide +kernel, by decide +kernel⟩
theorem ok_X6_sortBy : okS yX6_sortBy cX6_sortBy 1 (some .int) 1 := ⟨mW 935 (by decide +kernel) rfl, mW 934 (by decide +kernel) rfl, mW 65 (by decide +kernel) rfl, by decide +kernel, by decide +kernel, by decide +kernel⟩
theorem ok_X6_town : okV yX6_town cX6_town 3 (some .int) 1 := ⟨mW 939 (by decide +kernel) rfl, mW 937 (by decide +kernel) rfl, mW 938 (by decide +kernel) rfl, mW 65 (by decide +kernel) rfl, by decide +kernel, by decide +kernel, by decide +kernel⟩
theorem ok_X6_house : okV yX6_house cX6_house 3 (some .int) 2 := ⟨mW 943 (by decide +kernel) rfl, mW 941 (by decide +kernel) rfl, mW 942 (by decide +kernel) rfl, mW 65 (by decide +kernel) rfl, by decide +kernel, by decide +kernel, by decide +kernel⟩
theorem ok_X6_isOne : okV yX6_isOne cX6_isOne 2 (some .boolean) 1 := ⟨mW 947 (by decide +kernel) rfl, mW 946 (by decide +kernel) rfl, mW 32 (by decide +kernel) rfl, mW 65 (by decide +kernel) rfl, by decide +kernel, by decide +kernel, by decide +kernel⟩
theorem ok_X6_houseTells : okV yX6_houseTells cX6_houseTells 3 (some .int) 2 := ⟨mW 951 (by decide +kernel) rfl, mW 950 (by decide +kernel) rfl, mW 33 (by decide +kernel) rfl, mW 65 (by decide +kernel) rfl, by decide +kernel, by decide +kernel, by decide +kernel⟩
theorem ok_X6_moreOf : okV yX6_moreOf cX6_moreOf 3 (some .int) 1 := ⟨mW 955 (by decide +kernel) rfl, mW 954 (by decide +kernel) rfl, mW 34 (by decide +kernel) rfl, mW 65 (by decide +kernel) rfl, by decide +kernel, by decide +kernel, by decide +kernel⟩
theorem ok_X6_isAwake : okV yX6_isAwake cX6_isAwake 2 (some .boolean) 1 := ⟨mW 959 (by decide +kernel) rfl, mW 958 (by decide +kernel) rfl, mW 35 (by decide +kernel) rfl, mW 65 (by decide +kernel) rfl, by decide +kernel, by decide +kernel, by decide +kernel⟩
theorem ok_X6_takesOf : okV yX6_takesOf cX6_takesOf 2 (some .int) 1 := ⟨mW 963 (by decide +kernel) rfl, mW 962 (by decide +kernel) rfl, mW 36 (by decide +kernel) rfl, mW 65 (by decide +kernel) rfl, by decide +kernel, by decide +kernel, by decide +kernel⟩
theorem ok_X6_takesBy : okV yX6_takesBy cX6_takesBy 5 (some .int) 2 := ⟨mW 967 (by decide +kernel) rfl, mW 966 (by decide +kernel) rfl, mW 37 (by decide +kernel) rfl, mW 65 (by decide +kernel) rfl, by decide +kernel, by decide +kernel, by decide +kernel⟩
theorem ok_X6_mark : okV yX6_mark cX6_mark 4 (some .int) 2 := ⟨mW 971 (by decide +kernel) rfl, mW 969 (by decide +kernel) rfl, mW 970 (by decide +kernel) rfl, mW 65 (by decide +kernel) rfl, by decide +kernel, by decide +kernel, by decide +kernel⟩
theorem ok_X6_is : okS yX6_is cX6_is 2 (some .boolean) 2 := ⟨mW 974 (by decide +kernel) rfl, mW 973 (by decide +kernel) rfl, mW 65 (by decide +kernel) rfl, by decide +kernel, by decide +kernel, by decide +kernel⟩
theorem ok_X6_paysBy : okS yX6_paysBy cX6_paysBy 1 (some .int) 1 := ⟨mW 977 (by decide +kernel) rfl, mW 976 (by decide +kernel) rfl, mW 65 (by decide +kernel) rfl, by decide +kernel, by decide +kernel, by decide +kernel⟩
theorem ok_X6_awakeOnes : okV yX6_awakeOnes cX6_awakeOnes 3 (some .int) 0 := ⟨mW 981 (by decide +kernel) rfl, mW 980 (by decide +kernel) rfl, mW 38 (by decide +kernel) rfl, mW 65 (by decide +kernel) rfl, by decide +kernel, by decide +kernel, by decide +kernel⟩
theorem ok_X6_bits : okS yX6_bits cX6_bits 3 (some .int) 1 := ⟨mW 984 (by decide +kernel) rfl, mW 983 (by decide +kernel) rfl, mW 65 (by decide +kernel) rfl, by decide +kernel, by decide +kernel, by decide +kernel⟩
theorem ok_X6_earlier : okV yX6_earlier cX6_earlier 4 (some .int) 1 := ⟨mW 988 (by decide +kernel) rfl, mW 987 (by decide +kernel) rfl, mW 39 (by decide +kernel) rfl, mW 65 (by decide +kernel) rfl, by decide +kernel, by decide +kernel, by decide +kernel⟩
theorem ok_X6_walk : okV yX6_walk cX6_walk 2 (some .int) 1 := ⟨mW 992 (by decide +kernel) rfl, mW 990 (by decide +kernel) rfl, mW 991 (by decide +kernel) rfl, mW 65 (by decide +kernel) rfl, by decide +kernel, by decide +kernel, by decide +kernel⟩
theorem ok_X6_note : okV yX6_note cX6_note 1 (none) 0 := ⟨mW 996 (by decide +kernel) rfl, mW 995 (by decide +kernel) rfl, mW 40 (by decide +kernel) rfl, mW 65 (by decide +kernel) rfl, by decide +kernel, by decide +kernel, by decide +kernel⟩
theorem ok_X6_bring : okS yX6_bring cX6_bring 6 (none) 5 := ⟨mW 999 (by decide +kernel) rfl, mW 998 (by decide +kernel) rfl, mW 65 (by decide +kernel) rfl, by decide +kernel, by decide +kernel, by decide +kernel⟩
theorem ok_X6_goes : okV yX6_goes cX6_goes 2 (none) 1 := ⟨mW 1003 (by decide +kernel) rfl, mW 1002 (by decide +kernel) rfl, mW 41 (by decide +kernel) rfl, mW 65 (by decide +kernel) rfl, by decide +kernel, by decide +kernel, by decide +kernel⟩
theorem ok_X6_far : okS yX6_far cX6_far 2 (some .int) 2 := ⟨mW 1006 (by decide +kernel) rfl, mW 1005 (by decide +kernel) rfl, mW 65 (by decide +kernel) rfl, by decide +kernel, by decide +kernel, by decide +kernel⟩
theorem ok_X6_tap : okV yX6_tap cX6_tap 1 (some .int) 0 := ⟨mW 1010 (by decide +kernel) rfl, mW 1008 (by decide +kernel) rfl, mW 1009 (by decide +kernel) rfl, mW 65 (by decide +kernel) rfl, by decide +kernel, by decide +kernel, by decide +kernel⟩
theorem ok_X6_taps : okV yX6_taps cX6_taps 4 (none) 0 := ⟨mW 1014 (by decide +kernel) rfl, mW 1013 (by decide +kernel) rfl, mW 42 (by decide +kernel) rfl, mW 65 (by decide +kernel) rfl, by decide +kernel, by decide +kernel, by decide +kernel⟩
theorem ok_X6_slate : okV yX6_slate cX6_slate 4 (some .int) 2 := ⟨mW 1018 (by decide +kernel) rfl, mW 1016 (by decide +kernel) rfl, mW 1017 (by decide +kernel) rfl, mW 65 (by decide +kernel) rfl, by decide +kernel, by decide +kernel, by decide +kernel⟩
theorem ok_X6_changes : okV yX6_changes cX6_changes 3 (none) 2 := ⟨mW 1022 (by decide +kernel) rfl, mW 1021 (by decide +kernel) rfl, mW 43 (by decide +kernel) rfl, mW 65 (by decide +kernel) rfl, by decide +kernel, by decide +kernel, by decide +kernel⟩
theorem ok_X6_frost : okV yX6_frost cX6_frost 2 (some .int) 1 := ⟨mW 1026 (by decide +kernel) rfl, mW 1024 (by decide +kernel) rfl, mW 1025 (by decide +kernel) rfl, mW 65 (by decide +kernel) rfl, by decide +kernel, by decide +kernel, by decide +kernel⟩
theorem ok_X6_night : okV yX6_night cX6_night 3 (some .int) 0 := ⟨mW 1030 (by decide +kernel) rfl, mW 1028 (by decide +kernel) rfl, mW 1029 (by decide +kernel) rfl, mW 65 (by decide +kernel) rfl, by decide +kernel, by decide +kernel, by decide +kernel⟩
theorem ok_X6_undo : okV yX6_undo cX6_undo 3 (some .int) 1 := ⟨mW 1034 (by decide +kernel) rfl, mW 1032 (by decide +kernel) rfl, mW 1033 (by decide +kernel) rfl, mW 65 (by decide +kernel) rfl, by decide +kernel, by decide +kernel, by decide +kernel⟩
theorem ok_X6_keep : okV yX6_keep cX6_keep 2 (some .int) 1 := ⟨mW 1038 (by decide +kernel) rfl, mW 1036 (by decide +kernel) rfl, mW 1037 (by decide +kernel) rfl, mW 65 (by decide +kernel) rfl, by decide +kernel, by decide +kernel, by decide +kernel⟩
theorem ok_X6_on : okV yX6_on cX6_on 2 (some .int) 1 := ⟨mW 1042 (by decide +kernel) rfl, mW 1040 (by decide +kernel) rfl, mW 1041 (by decide +kernel) rfl, mW 65 (by decide +kernel) rfl, by decide +kernel, by decide +kernel, by decide +kernel⟩
theorem ok_X6_takes : okV yX6_takes cX6_takes 3 (some .int) 2 := ⟨mW 1046 (by decide +kernel) rfl, mW 1044 (by decide +kernel) rfl, mW 1045 (by decide +kernel) rfl, mW 65 (by decide +kernel) rfl, by decide +kernel, by decide +kernel, by decide +kernel⟩
theorem ok_X6_pays : okV yX6_pays cX6_pays 2 (some .int) 1 := ⟨mW 1050 (by decide +kernel) rfl, mW 1048 (by decide +kernel) rfl, mW 1049 (by decide +kernel) rfl, mW 65 (by decide +kernel) rfl, by decide +kernel, by decide +kernel, by decide +kernel⟩
theorem ok_X6_who : okV yX6_who cX6_who 5 (some .int) 2 := ⟨mW 1054 (by decide +kernel) rfl, mW 1052 (by decide +kernel) rfl, mW 1053 (by decide +kernel) rfl, mW 65 (by decide +kernel) rfl, by decide +kernel, by decide +kernel, by decide +kernel⟩
theorem ok_X6_quarrels : okV yX6_quarrels cX6_quarrels 3 (some .int) 0 := ⟨mW 1058 (by decide +kernel) rfl, mW 1056 (by decide +kernel) rfl, mW 1057 (by decide +kernel) rfl, mW 65 (by decide +kernel) rfl, by decide +kernel, by decide +kernel, by decide +kernel⟩
theorem ok_X6_soonest : okV yX6_soonest cX6_soonest 7 (some .int) 1 := ⟨mW 1062 (by decide +kernel) rfl, mW 1060 (by decide +kernel) rfl, mW 1061 (by decide +kernel) rfl, mW 65 (by decide +kernel) rfl, by decide +kernel, by decide +kernel, by decide +kernel⟩
theorem ok_X6_isSet : okV yX6_isSet cX6_isSet 2 (some .boolean) 1 := ⟨mW 1066 (by decide +kernel) rfl, mW 1065 (by decide +kernel) rfl, mW 44 (by decide +kernel) rfl, mW 65 (by decide +kernel) rfl, by decide +kernel, by decide +kernel, by decide +kernel⟩
theorem ok_X6_wakable : okV yX6_wakable cX6_wakable 3 (some .int) 0 := ⟨mW 1070 (by decide +kernel) rfl, mW 1069 (by decide +kernel) rfl, mW 45 (by decide +kernel) rfl, mW 65 (by decide +kernel) rfl, by decide +kernel, by decide +kernel, by decide +kernel⟩
theorem ok_X6_has : okS yX6_has cX6_has 2 (some .boolean) 2 := ⟨mW 1073 (by decide +kernel) rfl, mW 1072 (by decide +kernel) rfl, mW 65 (by decide +kernel) rfl, by decide +kernel, by decide +kernel, by decide +kernel⟩
theorem ok_X6_intime : okV yX6_intime cX6_intime 4 (some .int) 2 := ⟨mW 1077 (by decide +kernel) rfl, mW 1075 (by decide +kernel) rfl, mW 1076 (by decide +kernel) rfl, mW 65 (by decide +kernel) rfl, by decide +kernel, by decide +kernel, by decide +kernel⟩
theorem ok_X6_bestOf : okV yX6_bestOf cX6_bestOf 6 (some .int) 1 := ⟨mW 1081 (by decide +kernel) rfl, mW 1080 (by decide +kernel) rfl, mW 46 (by decide +kernel) rfl, mW 65 (by decide +kernel) rfl, by decide +kernel, by decide +kernel, by decide +kernel⟩
theorem ok_X6_rowsOf : okS yX6_rowsOf cX6_rowsOf 3 (some .int) 1 := ⟨mW 1084 (by decide +kernel) rfl, mW 1083 (by decide +kernel) rfl, mW 65 (by decide +kernel) rfl, by decide +kernel, by decide +kernel, by decide +kernel⟩
theorem ok_X6_layRow : okV yX6_layRow cX6_layRow 7 (some .boolean) 3 := ⟨mW 1088 (by decide +kernel) rfl, mW 1087 (by decide +kernel) rfl, mW 47 (by decide +kernel) rfl, mW 65 (by decide +kernel) rfl, by decide +kernel, by decide +kernel, by decide +kernel⟩
theorem ok_X6_minutesOf : okV yX6_minutesOf cX6_minutesOf 5 (some .int) 1 := ⟨mW 1092 (by decide +kernel) rfl, mW 1091 (by decide +kernel) rfl, mW 48 (by decide +kernel) rfl, mW 65 (by decide +kernel) rfl, by decide +kernel, by decide +kernel, by decide +kernel⟩
theorem ok_X6_anew : okV yX6_anew cX6_anew 4 (none) 2 := ⟨mW 1096 (by decide +kernel) rfl, mW 1095 (by decide +kernel) rfl, mW 49 (by decide +kernel) rfl, mW 65 (by decide +kernel) rfl, by decide +kernel, by decide +kernel, by decide +kernel⟩
theorem ok_X6_many : okV yX6_many cX6_many 4 (some .int) 0 := ⟨mW 1100 (by decide +kernel) rfl, mW 1098 (by decide +kernel) rfl, mW 1099 (by decide +kernel) rfl, mW 65 (by decide +kernel) rfl, by decide +kernel, by decide +kernel, by decide +kernel⟩
theorem ok_X6_dates : okV yX6_dates cX6_dates 6 (some .int) 1 := ⟨mW 1104 (by decide +kernel) rfl, mW 1102 (by decide +kernel) rfl, mW 1103 (by decide +kernel) rfl, mW 65 (by decide +kernel) rfl, by decide +kernel, by decide +kernel, by decide +kernel⟩
theorem ok_X6_whose : okV yX6_whose cX6_whose 4 (some .int) 1 := ⟨mW 1109 (by decide +kernel) rfl, mW 1107 (by decide +kernel) rfl, mW 1108 (by decide +kernel) rfl, mW 65 (by decide +kernel) rfl, by decide +kernel, by decide +kernel, by decide +kernel⟩
theorem ok_X6_wrongPairs : okV yX6_wrongPairs cX6_wrongPairs 4 (some .int) 1 := ⟨mW 1113 (by decide +kernel) rfl, mW 1112 (by decide +kernel) rfl, mW 50 (by decide +kernel) rfl, mW 65 (by decide +kernel) rfl, by decide +kernel, by decide +kernel, by decide +kernel⟩
theorem ok_X6_tookSo : okV yX6_tookSo cX6_tookSo 5 (some .boolean) 2 := ⟨mW 1117 (by decide +kernel) rfl, mW 1116 (by decide +kernel) rfl, mW 51 (by decide +kernel) rfl, mW 65 (by decide +kernel) rfl, by decide +kernel, by decide +kernel, by decide +kernel⟩
theorem ok_X6_tookBy : okV yX6_tookBy cX6_tookBy 4 (some .int) 2 := ⟨mW 1121 (by decide +kernel) rfl, mW 1120 (by decide +kernel) rfl, mW 52 (by decide +kernel) rfl, mW 65 (by decide +kernel) rfl, by decide +kernel, by decide +kernel, by decide +kernel⟩
theorem ok_X6_kinds : okV yX6_kinds cX6_kinds 2 (some .int) 1 := ⟨mW 1125 (by decide +kernel) rfl, mW 1123 (by decide +kernel) rfl, mW 1124 (by decide +kernel) rfl, mW 65 (by decide +kernel) rfl, by decide +kernel, by decide +kernel, by decide +kernel⟩
theorem ok_X6_kindsBy : okV yX6_kindsBy cX6_kindsBy 4 (some .int) 1 := ⟨mW 1129 (by decide +kernel) rfl, mW 1128 (by decide +kernel) rfl, mW 53 (by decide +kernel) rfl, mW 65 (by decide +kernel) rfl, by decide +kernel, by decide +kernel, by decide +kernel⟩
theorem ok_X6_test : okV yX6_test cX6_test 10 (some .int) 1 := ⟨mW 1133 (by decide +kernel) rfl, mW 1131 (by decide +kernel) rfl, mW 1132 (by decide +kernel) rfl, mW 65 (by decide +kernel) rfl, by decide +kernel, by decide +kernel, by decide +kernel⟩
theorem ok_X6_sets : okV yX6_sets cX6_sets 5 (some .int) 1 := ⟨mW 1137 (by decide +kernel) rfl, mW 1135 (by decide +kernel) rfl, mW 1136 (by decide +kernel) rfl, mW 65 (by decide +kernel) rfl, by decide +kernel, by decide +kernel, by decide +kernel⟩
theorem ok_X6_pay : okV yX6_pay cX6_pay 5 (some .boolean) 2 := ⟨mW 1141 (by decide +kernel) rfl, mW 1140 (by decide +kernel) rfl, mW 54 (by decide +kernel) rfl, mW 65 (by decide +kernel) rfl, by decide +kernel, by decide +kernel, by decide +kernel⟩
theorem ok_X6_sure : okV yX6_sure cX6_sure 6 (some .int) 1 := ⟨mW 1145 (by decide +kernel) rfl, mW 1143 (by decide +kernel) rfl, mW 1144 (by decide +kernel) rfl, mW 65 (by decide +kernel) rfl, by decide +kernel, by decide +kernel, by decide +kernel⟩
theorem ok_X6_duel : okV yX6_duel cX6_duel 2 (some .int) 1 := ⟨mW 1149 (by decide +kernel) rfl, mW 1147 (by decide +kernel) rfl, mW 1148 (by decide +kernel) rfl, mW 65 (by decide +kernel) rfl, by decide +kernel, by decide +kernel, by decide +kernel⟩
theorem ok_X6_ownBy : okV yX6_ownBy cX6_ownBy 9 (some .int) 2 := ⟨mW 1153 (by decide +kernel) rfl, mW 1152 (by decide +kernel) rfl, mW 55 (by decide +kernel) rfl, mW 65 (by decide +kernel) rfl, by decide +kernel, by decide +kernel, by decide +kernel⟩
theorem ok_X6_odds : okV yX6_odds cX6_odds 8 (some .int) 3 := ⟨mW 1157 (by decide +kernel) rfl, mW 1155 (by decide +kernel) rfl, mW 1156 (by decide +kernel) rfl, mW 65 (by decide +kernel) rfl, by decide +kernel, by decide +kernel, by decide +kernel⟩
theorem ok_X6_waysOf : okS yX6_waysOf cX6_waysOf 6 (some .long) 3 := ⟨mW 1160 (by decide +kernel) rfl, mW 1159 (by decide +kernel) rfl, mW 65 (by decide +kernel) rfl, by decide +kernel, by decide +kernel, by decide +kernel⟩
theorem ok_X6_whole : okS yX6_whole cX6_whole 4 (some .long) 1 := ⟨mW 1163 (by decide +kernel) rfl, mW 1162 (by decide +kernel) rfl, mW 65 (by decide +kernel) rfl, by decide +kernel, by decide +kernel, by decide +kernel⟩
theorem ok_X6_tellsPart : okV yX6_tellsPart cX6_tellsPart 11 (none) 2 := ⟨mW 1168 (by decide +kernel) rfl, mW 1167 (by decide +kernel) rfl, mW 56 (by decide +kernel) rfl, mW 65 (by decide +kernel) rfl, by decide +kernel, by decide +kernel, by decide +kernel⟩
theorem ok_X6_mid : okV yX6_mid cX6_mid 8 (some .int) 3 := ⟨mW 1172 (by decide +kernel) rfl, mW 1170 (by decide +kernel) rfl, mW 1171 (by decide +kernel) rfl, mW 65 (by decide +kernel) rfl, by decide +kernel, by decide +kernel, by decide +kernel⟩
theorem ok_X6_lots : okV yX6_lots cX6_lots 8 (some .int) 2 := ⟨mW 1176 (by decide +kernel) rfl, mW 1174 (by decide +kernel) rfl, mW 1175 (by decide +kernel) rfl, mW 65 (by decide +kernel) rfl, by decide +kernel, by decide +kernel, by decide +kernel⟩
theorem ok_X6_asked : okV yX6_asked cX6_asked 1 (some .int) 0 := ⟨mW 1186 (by decide +kernel) rfl, mW 1184 (by decide +kernel) rfl, mW 1185 (by decide +kernel) rfl, mW 65 (by decide +kernel) rfl, by decide +kernel, by decide +kernel, by decide +kernel⟩
theorem ok_X6_upper : okV yX6_upper cX6_upper 1 (some .long) 0 := ⟨mW 1190 (by decide +kernel) rfl, mW 1188 (by decide +kernel) rfl, mW 1189 (by decide +kernel) rfl, mW 65 (by decide +kernel) rfl, by decide +kernel, by decide +kernel, by decide +kernel⟩
theorem ok_X6_lower : okV yX6_lower cX6_lower 1 (some .long) 0 := ⟨mW 1194 (by decide +kernel) rfl, mW 1192 (by decide +kernel) rfl, mW 1193 (by decide +kernel) rfl, mW 65 (by decide +kernel) rfl, by decide +kernel, by decide +kernel, by decide +kernel⟩
theorem ok_X6_count : okV yX6_count cX6_count 2 (some .int) 1 := ⟨mW 1198 (by decide +kernel) rfl, mW 1196 (by decide +kernel) rfl, mW 1197 (by decide +kernel) rfl, mW 65 (by decide +kernel) rfl, by decide +kernel, by decide +kernel, by decide +kernel⟩
theorem ok_X6_kindMany : okV yX6_kindMany cX6_kindMany 4 (some .int) 1 := ⟨mW 1202 (by decide +kernel) rfl, mW 1201 (by decide +kernel) rfl, mW 57 (by decide +kernel) rfl, mW 65 (by decide +kernel) rfl, by decide +kernel, by decide +kernel, by decide +kernel⟩
theorem ok_X6_thereOf : okS yX6_thereOf cX6_thereOf 6 (some .int) 1 := ⟨mW 1205 (by decide +kernel) rfl, mW 1204 (by decide +kernel) rfl, mW 65 (by decide +kernel) rfl, by decide +kernel, by decide +kernel, by decide +kernel⟩
theorem ok_X6_finding : okV yX6_finding cX6_finding 1 (some .int) 0 := ⟨mW 1209 (by decide +kernel) rfl, mW 1207 (by decide +kernel) rfl, mW 1208 (by decide +kernel) rfl, mW 65 (by decide +kernel) rfl, by decide +kernel, by decide +kernel, by decide +kernel⟩
theorem ok_X6_findings : okV yX6_findings cX6_findings 2 (some .int) 1 := ⟨mW 1213 (by decide +kernel) rfl, mW 1211 (by decide +kernel) rfl, mW 1212 (by decide +kernel) rfl, mW 65 (by decide +kernel) rfl, by decide +kernel, by decide +kernel, by decide +kernel⟩
theorem ok_X6_digest : okV yX6_digest cX6_digest 5 (some .long) 0 := ⟨mW 1217 (by decide +kernel) rfl, mW 1215 (by decide +kernel) rfl, mW 1216 (by decide +kernel) rfl, mW 65 (by decide +kernel) rfl, by decide +kernel, by decide +kernel, by decide +kernel⟩
def NW (U : State) : Prop := va_Nw (Cond.methodLinkNest "WokenYears" 25 yX2_init "WokenYears") U ∧ va_Nw (Cond.methodLinkNest "WokenYears" 32 yX3_init "WokenYears") U ∧ va_Nw (Cond.methodLinkNest "WokenYears$Street" 130 yX5_holds "WokenYears") U ∧ va_Nw (Cond.methodLinkNest "WokenYears$Rounds" 57 yX5_holds "WokenYears") U
theorem NW_warm {s U : State} (hW : s.WarmedH U.vm) (h : NW s) : NW U := ⟨va_Nw.warmM hW h.1, va_Nw.warmM hW h.2.1, va_Nw.warmM hW h.2.2.1, va_Nw.warmM hW h.2.2.2⟩
theorem NW_same {s U : State} (e : s.vm = U.vm) (h : NW s) : NW U := ⟨va_Nw.same rfl e h.1, va_Nw.same rfl e h.2.1, va_Nw.same rfl e h.2.2.1, va_Nw.same rfl e h.2.2.2⟩
theorem NW_tbl {args : Array Value} {s : State} (h : ∀ w ∈ lw_tbl, w.before args s = true) : NW s := ⟨va_Nw.of rfl (h _ kN_X5_25), va_Nw.of rfl (h _ kN_X5_32), va_Nw.of rfl (h _ kN_X4_130), va_Nw.of rfl (h _ kN_X3_57)⟩
end
section
/-! a state of the system: ints, longs, arrays, references, by numbers -/
abbrev Sg : Type := (Nat → Int32) × (Nat → Int64) × (Nat → Nat → Int32) × (Nat → Nat)
def gS (σ : Sg) (k : Nat) : Int32 := σ.1 k
def gL (σ : Sg) (k : Nat) : Int64 := σ.2.1 k
def gA (σ : Sg) (a : Nat) : Nat → Int32 := σ.2.2.1 a
def gR (σ : Sg) (k : Nat) : Nat := σ.2.2.2 k
def pS (σ : Sg) (k : Nat) (v : Int32) : Sg := (va_up σ.1 k v, σ.2)
def pL (σ : Sg) (k : Nat) (v : Int64) : Sg := (σ.1, va_up σ.2.1 k v, σ.2.2)
def pA (σ : Sg) (a : Nat) (f : Nat → Int32) : Sg := (σ.1, σ.2.1, va_up σ.2.2.1 a f, σ.2.2.2)
def pR (σ : Sg) (k : Nat) (v : Nat) : Sg := (σ.1, σ.2.1, σ.2.2.1, va_up σ.2.2.2 k v)
def b2i (b : Bool) : Int32 := match b with
  | true => 1
  | false => 0
def inB (i : Int32) (n : Nat) : Bool := !(decide (i < 0)) && decide (i.toNatClampNeg < n)
theorem inB_in {i : Int32} {n : Nat} (h : inB i n = true) : vp_in i n := by
  simp only [inB, Bool.and_eq_true, Bool.not_eq_true', decide_eq_false_iff_not, decide_eq_true_eq] at h
  intro q
  rcases q with q | q
  · exact h.1 q
  · omega
def ck {α : Type} (b : Bool) (x : Option α) : Option α := match b with
  | true => x
  | false => none
theorem ck_of {α : Type} {b : Bool} {x : Option α} {y : α} (h : ck b x = some y) : b = true ∧ x = some y := by
  cases b
  · cases h
  · exact ⟨rfl, h⟩
def nm {α β : Type} (e : α) (k : α → β) : β := k e
def bnd {α β : Type} (x : Option α) (k : α → Option β) : Option β := match x with
  | none => none
  | some a => k a
theorem bnd_of {α β : Type} {x : Option α} {k : α → Option β} {y : β} (h : bnd x k = some y) : ∃ a, x = some a ∧ k a = some y := by
  cases x with
  | none => cases h
  | some a => exact ⟨a, rfl, h⟩
theorem jn_elim {α β : Type} {K : α} {B : α → Option β} {out : β} {P : Prop} (h : nm K B = some out) (g : ∀ k, k = K → B k = some out → P) : P := g K rfl h
def FU : Nat := 1000000000000
/-! the cells -/
def wd (N : Nat) (ad : Nat → Nat) (cel : Nat → va_E) : va_W := (List.range N).map (fun q => (ad q, cel q))
theorem wd_get {N : Nat} {ad : Nat → Nat} {cel : Nat → va_E} {q : Nat} {e : va_E} (ho : q < N) (he : cel q = e) : (wd N ad cel)[q]? = some (ad q, e) := by
  subst he; simp [wd, ho]
theorem wd_of {N : Nat} {ad : Nat → Nat} {cel : Nat → va_E} {q : Nat} {x : Nat × va_E} (h : (wd N ad cel)[q]? = some x) : q < N ∧ x = (ad q, cel q) := by
  by_cases hl : q < N
  · rw [wd_get hl rfl] at h
    exact ⟨hl, (Option.some.inj h).symm⟩
  · simp [wd, hl] at h
theorem wd_set {N : Nat} {ad : Nat → Nat} {cel cel' : Nat → va_E} {q : Nat} {e : va_E} (he : cel' q = e) (hne : ∀ x, x ≠ q → cel' x = cel x) : (wd N ad cel).set q (ad q, e) = wd N ad cel' := by
  apply List.ext_getElem?
  intro k
  rw [List.getElem?_set]
  by_cases h : q = k
  · subst h
    by_cases hl : q < N
    · simp [wd, hl, he]
    · simp [wd, hl]
  · by_cases hl : k < N
    · simp [wd, hl, h, hne k (fun z => h z.symm)]
    · simp [wd, hl, h]
def apN (N : Nat) (ad : Nat → Nat) : Prop := ∀ i j, i < N → j < N → ad i = ad j → i = j
def inA (N : Nat) (ad : Nat → Nat) : Nat → Prop := fun a => ∃ q, q < N ∧ a = ad q
theorem wd_D {N : Nat} {ad : Nat → Nat} {cel : Nat → va_E} (h : apN N ad) : va_D (inA N ad) (wd N ad cel) := by
  refine ⟨fun i j p q hi hj hpq => ?_, fun k q hk => ?_⟩
  · obtain ⟨h1, rfl⟩ := wd_of hi
    obtain ⟨h2, rfl⟩ := wd_of hj
    exact h i j h1 h2 hpq
  · obtain ⟨h1, rfl⟩ := wd_of hk
    exact ⟨k, h1, rfl⟩
/-- the world of a state -/
def WP (D : va_G) (tys : List (ClassId × FieldType)) (N : Nat) (ad : Nat → Nat) (cel : Sg → Nat → va_E) (ok : Sg → Prop) (σ : Sg) (U : State) : Prop := va_P D vwCl (wd N ad (cel σ)) U.heap ∧ (va_K D vwCl tys U ∧ NW U) ∧ ok σ
/-- the world behind a call -/
def WB (D : va_G) (N : Nat) (ad : Nat → Nat) (cel : Sg → Nat → va_E) (ok : Sg → Prop) (σ : Sg) (U : State) : Prop := va_P D vwCl (wd N ad (cel σ)) U.heap ∧ ok σ
theorem WP_call {D : va_G} {tys : List (ClassId × FieldType)} {N : Nat} {ad : Nat → Nat} {cel : Sg → Nat → va_E} {ok : Sg → Prop} {σ : Sg} {U : State} {g : JFrame} {mk : MethodId} {a : Array Value} (h : WP D tys N ad cel ok σ U) : WP D tys N ad cel ok σ (U.calling g mk a) :=
  ⟨h.1, ⟨va_K.moved (u := U) (U := U.calling g mk a) (Vm.Alike.refl U.vm) h.2.1.1, NW_same (U := U.calling g mk a) rfl h.2.1.2⟩, h.2.2⟩
def rmF (fr lo : Nat) : Room := { frames := fr, cells := 0, slots := 0, locals := lo }
def QI (D : va_G) (tys : List (ClassId × FieldType)) (N : Nat) (ad : Nat → Nat) (cel : Sg → Nat → va_E) (ok : Sg → Prop) (r : Int32) (σ' : Sg) : Array Value → State → Outcome → State → Prop := va_Qi (fun (x : Int32) (_ : Unit) => x = r) (fun _ U => WB D N ad cel ok σ' U) (inA N ad)
def QL (D : va_G) (tys : List (ClassId × FieldType)) (N : Nat) (ad : Nat → Nat) (cel : Sg → Nat → va_E) (ok : Sg → Prop) (r : Int64) (σ' : Sg) : Array Value → State → Outcome → State → Prop := va_Ql (fun (x : Int64) (_ : Unit) => x = r) (fun _ U => WB D N ad cel ok σ' U) (inA N ad)
def QV (D : va_G) (tys : List (ClassId × FieldType)) (N : Nat) (ad : Nat → Nat) (cel : Sg → Nat → va_E) (ok : Sg → Prop) (σ' : Sg) : Array Value → State → Outcome → State → Prop := va_Qv (fun (_ : Unit) => True) (fun _ U => WB D N ad cel ok σ' U) (inA N ad)
def QR (D : va_G) (tys : List (ClassId × FieldType)) (N : Nat) (ad : Nat → Nat) (cel : Sg → Nat → va_E) (ok : Sg → Prop) (r : Option Nat) (σ' : Sg) : Array Value → State → Outcome → State → Prop := va_Qq (fun (x : Option Nat) (_ : Unit) => x = r.map ad) (fun _ U => WB D N ad cel ok σ' U) (inA N ad)
/-- contracts: an answer that is an int (r), a long, none, a reference -/
def MI (l : Launch) (D : va_G) (tys : List (ClassId × FieldType)) (N : Nat) (ad : Nat → Nat) (cel : Sg → Nat → va_E) (ok : Sg → Prop) (y : MethodName) (cc : ByteArray) (maxL : Nat) (ty : FieldType) (fr lo : Nat) (av : List Value) (σ : Sg) (r : Int32) (σ' : Sg) : Prop :=
  Met l y (.code y cc maxL (some ty) :: WA) (rmF fr lo) (va_Pc av (WP D tys N ad cel ok σ)) (QI D tys N ad cel ok r σ') 0 0 (inA N ad)
def ML (l : Launch) (D : va_G) (tys : List (ClassId × FieldType)) (N : Nat) (ad : Nat → Nat) (cel : Sg → Nat → va_E) (ok : Sg → Prop) (y : MethodName) (cc : ByteArray) (maxL : Nat) (fr lo : Nat) (av : List Value) (σ : Sg) (r : Int64) (σ' : Sg) : Prop :=
  Met l y (.code y cc maxL (some .long) :: WA) (rmF fr lo) (va_Pc av (WP D tys N ad cel ok σ)) (QL D tys N ad cel ok r σ') 0 0 (inA N ad)
def MV (l : Launch) (D : va_G) (tys : List (ClassId × FieldType)) (N : Nat) (ad : Nat → Nat) (cel : Sg → Nat → va_E) (ok : Sg → Prop) (y : MethodName) (cc : ByteArray) (maxL : Nat) (fr lo : Nat) (av : List Value) (σ : Sg) (σ' : Sg) : Prop :=
  Met l y (.code y cc maxL none :: WA) (rmF fr lo) (va_Pc av (WP D tys N ad cel ok σ)) (QV D tys N ad cel ok σ') 0 0 (inA N ad)
def MR (l : Launch) (D : va_G) (tys : List (ClassId × FieldType)) (N : Nat) (ad : Nat → Nat) (cel : Sg → Nat → va_E) (ok : Sg → Prop) (y : MethodName) (cc : ByteArray) (maxL : Nat) (ty : FieldType) (fr lo : Nat) (av : List Value) (σ : Sg) (r : Option Nat) (σ' : Sg) : Prop :=
  Met l y (.code y cc maxL (some ty) :: WA) (rmF fr lo) (va_Pc av (WP D tys N ad cel ok σ)) (QR D tys N ad cel ok r σ') 0 0 (inA N ad)
/-- what holds in a method's body -/
def Cx (p : Program) (s : State) (m : MethodId) (args : Array Value) (meth : Method) (c : Code) (cc : ByteArray) (nL : Nat) (own : String) (D : va_G) (tys : List (ClassId × FieldType)) (N : Nat) (ad : Nat → Nat) (ret : Option FieldType) : Prop :=
  p.tables.exec = Jvm.exec ∧ c.code = cc ∧ c.maxLocals = nL ∧ s.vm.findClass own = some m.cls ∧ (∀ w ∈ WA, w.before args s = true) ∧ va_K D vwCl tys s ∧ apN N ad ∧ meth.sig.returnType = ret ∧ meth.locks = false ∧ NW s
/-- the machine at a place of a method: its locals and stack as lists, its world by a state -/
def Jd (p : Program) (l : Launch) (e : Env) (R : Room) (s : State) (m : MethodId) (args : Array Value) (below : List Frame) (meth : Method) (c : Code) (D : va_G) (N : Nat) (ad : Nat → Nat) (cel : Sg → Nat → va_E) (ok : Sg → Prop) (nL : Nat) (Q : State → Prop) (pc : Nat) (lv : List (Nat × Value)) (st : List Value) (σ : Sg) : Prop :=
  ok σ → ∀ (ls : Array Slot) (H : Heap) (locs : List Loc), lv_has ls nL lv → va_P D vwCl (wd N ad (cel σ)) H → va_S (inA N ad) s.heap H locs → W p l e R s m args below meth c H locs 0 0 Q (F0 m pc ls st)
section JJ
variable {p : Program} {l : Launch} {e : Env} {R : Room} {s : State} {m : MethodId} {args : Array Value} {below : List Frame} {meth : Method} {c : Code} {D : va_G} {tys : List (ClassId × FieldType)} {N : Nat} {ad : Nat → Nat} {cel : Sg → Nat → va_E} {ok : Sg → Prop} {nL : Nat} {Q : State → Prop} {cc : ByteArray} {own : String} {ret : Option FieldType} {pc : Nat} {lv : List (Nat × Value)} {rest : List Value} {σ : Sg}
theorem J_iadd (C : Cx p s m args meth c cc nL own D tys N ad ret) {q : Nat} {x y : Int32} (hdg : decode cc pc = .ok (.iadd, 1)) (hq : pc + 1 = q)  (k : Jd p l e R s m args below meth c D N ad cel ok nL Q q lv (.int (x + y) :: rest) σ) : Jd p l e R s m args below meth c D N ad cel ok nL Q pc lv (.int y :: .int x :: rest) σ := by
  subst hq; intro hok ls H locs hl hP hS; exact lv_iadd C.1 C.2.1 hdg (k hok ls H locs hl hP hS)
theorem J_isub (C : Cx p s m args meth c cc nL own D tys N ad ret) {q : Nat} {x y : Int32} (hdg : decode cc pc = .ok (.isub, 1)) (hq : pc + 1 = q)  (k : Jd p l e R s m args below meth c D N ad cel ok nL Q q lv (.int (x - y) :: rest) σ) : Jd p l e R s m args below meth c D N ad cel ok nL Q pc lv (.int y :: .int x :: rest) σ := by
  subst hq; intro hok ls H locs hl hP hS; exact lv_isub C.1 C.2.1 hdg (k hok ls H locs hl hP hS)
theorem J_imul (C : Cx p s m args meth c cc nL own D tys N ad ret) {q : Nat} {x y : Int32} (hdg : decode cc pc = .ok (.imul, 1)) (hq : pc + 1 = q)  (k : Jd p l e R s m args below meth c D N ad cel ok nL Q q lv (.int (x * y) :: rest) σ) : Jd p l e R s m args below meth c D N ad cel ok nL Q pc lv (.int y :: .int x :: rest) σ := by
  subst hq; intro hok ls H locs hl hP hS; exact lv_imul C.1 C.2.1 hdg (k hok ls H locs hl hP hS)
theorem J_iand (C : Cx p s m args meth c cc nL own D tys N ad ret) {q : Nat} {x y : Int32} (hdg : decode cc pc = .ok (.iand, 1)) (hq : pc + 1 = q)  (k : Jd p l e R s m args below meth c D N ad cel ok nL Q q lv (.int (x &&& y) :: rest) σ) : Jd p l e R s m args below meth c D N ad cel ok nL Q pc lv (.int y :: .int x :: rest) σ := by
  subst hq; intro hok ls H locs hl hP hS; exact lv_iand C.1 C.2.1 hdg (k hok ls H locs hl hP hS)
theorem J_ior (C : Cx p s m args meth c cc nL own D tys N ad ret) {q : Nat} {x y : Int32} (hdg : decode cc pc = .ok (.ior, 1)) (hq : pc + 1 = q)  (k : Jd p l e R s m args below meth c D N ad cel ok nL Q q lv (.int (x ||| y) :: rest) σ) : Jd p l e R s m args below meth c D N ad cel ok nL Q pc lv (.int y :: .int x :: rest) σ := by
  subst hq; intro hok ls H locs hl hP hS; exact lv_ior C.1 C.2.1 hdg (k hok ls H locs hl hP hS)
theorem J_ixor (C : Cx p s m args meth c cc nL own D tys N ad ret) {q : Nat} {x y : Int32} (hdg : decode cc pc = .ok (.ixor, 1)) (hq : pc + 1 = q)  (k : Jd p l e R s m args below meth c D N ad cel ok nL Q q lv (.int (x ^^^ y) :: rest) σ) : Jd p l e R s m args below meth c D N ad cel ok nL Q pc lv (.int y :: .int x :: rest) σ := by
  subst hq; intro hok ls H locs hl hP hS; exact lv_ixor C.1 C.2.1 hdg (k hok ls H locs hl hP hS)
theorem J_ishl (C : Cx p s m args meth c cc nL own D tys N ad ret) {q : Nat} {x y : Int32} (hdg : decode cc pc = .ok (.ishl, 1)) (hq : pc + 1 = q)  (k : Jd p l e R s m args below meth c D N ad cel ok nL Q q lv (.int (x <<< (y &&& 31)) :: rest) σ) : Jd p l e R s m args below meth c D N ad cel ok nL Q pc lv (.int y :: .int x :: rest) σ := by
  subst hq; intro hok ls H locs hl hP hS; exact lv_ishl C.1 C.2.1 hdg (k hok ls H locs hl hP hS)
theorem J_ishr (C : Cx p s m args meth c cc nL own D tys N ad ret) {q : Nat} {x y : Int32} (hdg : decode cc pc = .ok (.ishr, 1)) (hq : pc + 1 = q)  (k : Jd p l e R s m args below meth c D N ad cel ok nL Q q lv (.int (x >>> (y &&& 31)) :: rest) σ) : Jd p l e R s m args below meth c D N ad cel ok nL Q pc lv (.int y :: .int x :: rest) σ := by
  subst hq; intro hok ls H locs hl hP hS; exact lv_ishr C.1 C.2.1 hdg (k hok ls H locs hl hP hS)
theorem J_ladd (C : Cx p s m args meth c cc nL own D tys N ad ret) {q : Nat} {x y : Int64} (hdg : decode cc pc = .ok (.ladd, 1)) (hq : pc + 1 = q)  (k : Jd p l e R s m args below meth c D N ad cel ok nL Q q lv (.long (x + y) :: rest) σ) : Jd p l e R s m args below meth c D N ad cel ok nL Q pc lv (.long y :: .long x :: rest) σ := by
  subst hq; intro hok ls H locs hl hP hS; exact lv_ladd C.1 C.2.1 hdg (k hok ls H locs hl hP hS)
theorem J_lsub (C : Cx p s m args meth c cc nL own D tys N ad ret) {q : Nat} {x y : Int64} (hdg : decode cc pc = .ok (.lsub, 1)) (hq : pc + 1 = q)  (k : Jd p l e R s m args below meth c D N ad cel ok nL Q q lv (.long (x - y) :: rest) σ) : Jd p l e R s m args below meth c D N ad cel ok nL Q pc lv (.long y :: .long x :: rest) σ := by
  subst hq; intro hok ls H locs hl hP hS; exact lv_lsub C.1 C.2.1 hdg (k hok ls H locs hl hP hS)
theorem J_lmul (C : Cx p s m args meth c cc nL own D tys N ad ret) {q : Nat} {x y : Int64} (hdg : decode cc pc = .ok (.lmul, 1)) (hq : pc + 1 = q)  (k : Jd p l e R s m args below meth c D N ad cel ok nL Q q lv (.long (x * y) :: rest) σ) : Jd p l e R s m args below meth c D N ad cel ok nL Q pc lv (.long y :: .long x :: rest) σ := by
  subst hq; intro hok ls H locs hl hP hS; exact lv_lmul C.1 C.2.1 hdg (k hok ls H locs hl hP hS)
theorem J_idiv (C : Cx p s m args meth c cc nL own D tys N ad ret) {q : Nat} {x y : Int32} (hdg : decode cc pc = .ok (.idiv, 1)) (hq : pc + 1 = q) (hne : ¬ y = 0) (k : Jd p l e R s m args below meth c D N ad cel ok nL Q q lv (.int (x / y) :: rest) σ) : Jd p l e R s m args below meth c D N ad cel ok nL Q pc lv (.int y :: .int x :: rest) σ := by
  subst hq; intro hok ls H locs hl hP hS; exact lv_idiv C.1 C.2.1 hdg hne (k hok ls H locs hl hP hS)
theorem J_irem (C : Cx p s m args meth c cc nL own D tys N ad ret) {q : Nat} {x y : Int32} (hdg : decode cc pc = .ok (.irem, 1)) (hq : pc + 1 = q) (hne : ¬ y = 0) (k : Jd p l e R s m args below meth c D N ad cel ok nL Q q lv (.int (x - x / y * y) :: rest) σ) : Jd p l e R s m args below meth c D N ad cel ok nL Q pc lv (.int y :: .int x :: rest) σ := by
  subst hq; intro hok ls H locs hl hP hS; exact lv_irem C.1 C.2.1 hdg hne (k hok ls H locs hl hP hS)
theorem J_ldiv (C : Cx p s m args meth c cc nL own D tys N ad ret) {q : Nat} {x y : Int64} (hdg : decode cc pc = .ok (.ldiv, 1)) (hq : pc + 1 = q) (hne : ¬ y = 0) (k : Jd p l e R s m args below meth c D N ad cel ok nL Q q lv (.long (x / y) :: rest) σ) : Jd p l e R s m args below meth c D N ad cel ok nL Q pc lv (.long y :: .long x :: rest) σ := by
  subst hq; intro hok ls H locs hl hP hS; exact lv_ldiv C.1 C.2.1 hdg hne (k hok ls H locs hl hP hS)
theorem J_lrem (C : Cx p s m args meth c cc nL own D tys N ad ret) {q : Nat} {x y : Int64} (hdg : decode cc pc = .ok (.lrem, 1)) (hq : pc + 1 = q) (hne : ¬ y = 0) (k : Jd p l e R s m args below meth c D N ad cel ok nL Q q lv (.long (x - x / y * y) :: rest) σ) : Jd p l e R s m args below meth c D N ad cel ok nL Q pc lv (.long y :: .long x :: rest) σ := by
  subst hq; intro hok ls H locs hl hP hS; exact lv_lrem C.1 C.2.1 hdg hne (k hok ls H locs hl hP hS)
theorem J_iushr (C : Cx p s m args meth c cc nL own D tys N ad ret) {q : Nat} {x y : Int32} (hdg : decode cc pc = .ok (.iushr, 1)) (hq : pc + 1 = q)  (k : Jd p l e R s m args below meth c D N ad cel ok nL Q q lv (.int ((x.toUInt32 >>> (y.toUInt32 &&& Int32.toUInt32 31)).toInt32) :: rest) σ) : Jd p l e R s m args below meth c D N ad cel ok nL Q pc lv (.int y :: .int x :: rest) σ := by
  subst hq; intro hok ls H locs hl hP hS; exact lv_iushr C.1 C.2.1 hdg rfl (k hok ls H locs hl hP hS)
theorem J_i2l (C : Cx p s m args meth c cc nL own D tys N ad ret) {q : Nat} {x : Int32} (hdg : decode cc pc = .ok (.i2l, 1)) (hq : pc + 1 = q)  (k : Jd p l e R s m args below meth c D N ad cel ok nL Q q lv (.long x.toInt64 :: rest) σ) : Jd p l e R s m args below meth c D N ad cel ok nL Q pc lv (.int x :: rest) σ := by
  subst hq; intro hok ls H locs hl hP hS; exact lv_i2l C.1 C.2.1 hdg rfl (k hok ls H locs hl hP hS)
theorem J_l2i (C : Cx p s m args meth c cc nL own D tys N ad ret) {q : Nat} {x : Int64} (hdg : decode cc pc = .ok (.l2i, 1)) (hq : pc + 1 = q)  (k : Jd p l e R s m args below meth c D N ad cel ok nL Q q lv (.int x.toInt32 :: rest) σ) : Jd p l e R s m args below meth c D N ad cel ok nL Q pc lv (.long x :: rest) σ := by
  subst hq; intro hok ls H locs hl hP hS; exact lv_l2i C.1 C.2.1 hdg rfl (k hok ls H locs hl hP hS)
theorem J_i2b (C : Cx p s m args meth c cc nL own D tys N ad ret) {q : Nat} {x : Int32} (hdg : decode cc pc = .ok (.i2b, 1)) (hq : pc + 1 = q)  (k : Jd p l e R s m args below meth c D N ad cel ok nL Q q lv (.int x.toInt8.toInt32 :: rest) σ) : Jd p l e R s m args below meth c D N ad cel ok nL Q pc lv (.int x :: rest) σ := by
  subst hq; intro hok ls H locs hl hP hS; exact lv_i2b C.1 C.2.1 hdg rfl (k hok ls H locs hl hP hS)
theorem J_iconst (C : Cx p s m args meth c cc nL own D tys N ad ret) {q : Nat} {n : Int} {v : Int32} (hdg : decode cc pc = .ok (.iconst n, 1)) (hq : pc + 1 = q) (hv : Int32.ofInt n = v) (k : Jd p l e R s m args below meth c D N ad cel ok nL Q q lv (.int v :: rest) σ) : Jd p l e R s m args below meth c D N ad cel ok nL Q pc lv (rest) σ := by
  subst hq; intro hok ls H locs hl hP hS; exact lv_iconst C.1 C.2.1 hdg hv (k hok ls H locs hl hP hS)
theorem J_bipush (C : Cx p s m args meth c cc nL own D tys N ad ret) {q : Nat} {n : Int} {v : Int32} (hdg : decode cc pc = .ok (.bipush n, 2)) (hq : pc + 2 = q) (hv : (Int8.ofInt n).toInt32 = v) (k : Jd p l e R s m args below meth c D N ad cel ok nL Q q lv (.int v :: rest) σ) : Jd p l e R s m args below meth c D N ad cel ok nL Q pc lv (rest) σ := by
  subst hq; intro hok ls H locs hl hP hS; exact lv_bipush C.1 C.2.1 hdg hv (k hok ls H locs hl hP hS)
theorem J_sipush (C : Cx p s m args meth c cc nL own D tys N ad ret) {q : Nat} {n : Int} {v : Int32} (hdg : decode cc pc = .ok (.sipush n, 3)) (hq : pc + 3 = q) (hv : (Int16.ofInt n).toInt32 = v) (k : Jd p l e R s m args below meth c D N ad cel ok nL Q q lv (.int v :: rest) σ) : Jd p l e R s m args below meth c D N ad cel ok nL Q pc lv (rest) σ := by
  subst hq; intro hok ls H locs hl hP hS; exact lv_sipush C.1 C.2.1 hdg hv (k hok ls H locs hl hP hS)
theorem J_lconst (C : Cx p s m args meth c cc nL own D tys N ad ret) {q : Nat} {n : Fin 2} {v : Int64} (hdg : decode cc pc = .ok (.lconst n, 1)) (hq : pc + 1 = q) (hv : Int64.ofNat (n : Nat) = v) (k : Jd p l e R s m args below meth c D N ad cel ok nL Q q lv (.long v :: rest) σ) : Jd p l e R s m args below meth c D N ad cel ok nL Q pc lv (rest) σ := by
  subst hq; intro hok ls H locs hl hP hS; exact lv_lconst C.1 C.2.1 hdg hv (k hok ls H locs hl hP hS)
theorem J_null (C : Cx p s m args meth c cc nL own D tys N ad ret) {q : Nat}  (hdg : decode cc pc = .ok (.aconst_null, 1)) (hq : pc + 1 = q)  (k : Jd p l e R s m args below meth c D N ad cel ok nL Q q lv (.null :: rest) σ) : Jd p l e R s m args below meth c D N ad cel ok nL Q pc lv (rest) σ := by
  subst hq; intro hok ls H locs hl hP hS; exact lv_null C.1 C.2.1 hdg (k hok ls H locs hl hP hS)
theorem J_dup (C : Cx p s m args meth c cc nL own D tys N ad ret) {q : Nat} {va : Value} (hdg : decode cc pc = .ok (.dup, 1)) (hq : pc + 1 = q) (hva : va.category = 1) (k : Jd p l e R s m args below meth c D N ad cel ok nL Q q lv (va :: va :: rest) σ) : Jd p l e R s m args below meth c D N ad cel ok nL Q pc lv (va :: rest) σ := by
  subst hq; intro hok ls H locs hl hP hS; exact lv_dup C.1 C.2.1 hdg hva (k hok ls H locs hl hP hS)
theorem J_pop (C : Cx p s m args meth c cc nL own D tys N ad ret) {q : Nat} {va : Value} (hdg : decode cc pc = .ok (.pop, 1)) (hq : pc + 1 = q) (hva : va.category = 1) (k : Jd p l e R s m args below meth c D N ad cel ok nL Q q lv (rest) σ) : Jd p l e R s m args below meth c D N ad cel ok nL Q pc lv (va :: rest) σ := by
  subst hq; intro hok ls H locs hl hP hS; exact lv_pop C.1 C.2.1 hdg hva (k hok ls H locs hl hP hS)
theorem J_dup2 (C : Cx p s m args meth c cc nL own D tys N ad ret) {q : Nat} {va vb : Value} (hdg : decode cc pc = .ok (.dup2, 1)) (hq : pc + 1 = q) (hva : va.category = 1) (hvb : vb.category = 1) (k : Jd p l e R s m args below meth c D N ad cel ok nL Q q lv (va :: vb :: va :: vb :: rest) σ) : Jd p l e R s m args below meth c D N ad cel ok nL Q pc lv (va :: vb :: rest) σ := by
  subst hq; intro hok ls H locs hl hP hS; exact lv_dup2_11 C.1 C.2.1 hdg hva hvb (k hok ls H locs hl hP hS)
theorem J_lcmp (C : Cx p s m args meth c cc nL own D tys N ad ret) {q : Nat} {x y : Int64} (hdg : decode cc pc = .ok (.lcmp, 1)) (hq : pc + 1 = q) (k : Jd p l e R s m args below meth c D N ad cel ok nL Q q lv (.int (lg_cmp x y) :: rest) σ) : Jd p l e R s m args below meth c D N ad cel ok nL Q pc lv (.long y :: .long x :: rest) σ := by
  subst hq; intro hok ls H locs hl hP hS; exact W.lcmp C.1 C.2.1 hdg (k hok ls H locs hl hP hS)
theorem J_iload_n (C : Cx p s m args meth c cc nL own D tys N ad ret) {q : Nat} {k0 : Fin 4} {i : Nat} {x : Int32} (hdg : decode cc pc = .ok (.iload_n k0, 1)) (hq : pc + 1 = q) (hi : (k0 : Nat) = i) (pl : Nat) (hpl : lv[pl]? = some (i, .int x)) (k : Jd p l e R s m args below meth c D N ad cel ok nL Q q lv (.int x :: rest) σ) : Jd p l e R s m args below meth c D N ad cel ok nL Q pc lv rest σ := by
  subst hq; intro hok ls H locs hl hP hS; exact lv_iload_n C.1 C.2.1 hdg hi (lv_at hl pl hpl) (k hok ls H locs hl hP hS)
theorem J_iload (C : Cx p s m args meth c cc nL own D tys N ad ret) {q : Nat} {i : Nat} {x : Int32} (hdg : decode cc pc = .ok (.iload i, 2)) (hq : pc + 2 = q) (pl : Nat) (hpl : lv[pl]? = some (i, .int x)) (k : Jd p l e R s m args below meth c D N ad cel ok nL Q q lv (.int x :: rest) σ) : Jd p l e R s m args below meth c D N ad cel ok nL Q pc lv rest σ := by
  subst hq; intro hok ls H locs hl hP hS; exact lv_iload C.1 C.2.1 hdg (lv_at hl pl hpl) (k hok ls H locs hl hP hS)
theorem J_lload_n (C : Cx p s m args meth c cc nL own D tys N ad ret) {q : Nat} {k0 : Fin 4} {i : Nat} {x : Int64} (hdg : decode cc pc = .ok (.lload_n k0, 1)) (hq : pc + 1 = q) (hi : (k0 : Nat) = i) (pl : Nat) (hpl : lv[pl]? = some (i, .long x)) (k : Jd p l e R s m args below meth c D N ad cel ok nL Q q lv (.long x :: rest) σ) : Jd p l e R s m args below meth c D N ad cel ok nL Q pc lv rest σ := by
  subst hq; intro hok ls H locs hl hP hS; exact lv_lload_n C.1 C.2.1 hdg hi (lv_at hl pl hpl) (k hok ls H locs hl hP hS)
theorem J_lload (C : Cx p s m args meth c cc nL own D tys N ad ret) {q : Nat} {i : Nat} {x : Int64} (hdg : decode cc pc = .ok (.lload i, 2)) (hq : pc + 2 = q) (pl : Nat) (hpl : lv[pl]? = some (i, .long x)) (k : Jd p l e R s m args below meth c D N ad cel ok nL Q q lv (.long x :: rest) σ) : Jd p l e R s m args below meth c D N ad cel ok nL Q pc lv rest σ := by
  subst hq; intro hok ls H locs hl hP hS; exact lv_lload C.1 C.2.1 hdg (lv_at hl pl hpl) (k hok ls H locs hl hP hS)
theorem J_aload_n (C : Cx p s m args meth c cc nL own D tys N ad ret) {q : Nat} {k0 : Fin 4} {i : Nat} {x : Nat} (hdg : decode cc pc = .ok (.aload_n k0, 1)) (hq : pc + 1 = q) (hi : (k0 : Nat) = i) (pl : Nat) (hpl : lv[pl]? = some (i, .ref x)) (k : Jd p l e R s m args below meth c D N ad cel ok nL Q q lv (.ref x :: rest) σ) : Jd p l e R s m args below meth c D N ad cel ok nL Q pc lv rest σ := by
  subst hq; intro hok ls H locs hl hP hS; exact lv_aload_n C.1 C.2.1 hdg hi (lv_at hl pl hpl) (k hok ls H locs hl hP hS)
theorem J_aload (C : Cx p s m args meth c cc nL own D tys N ad ret) {q : Nat} {i : Nat} {x : Nat} (hdg : decode cc pc = .ok (.aload i, 2)) (hq : pc + 2 = q) (pl : Nat) (hpl : lv[pl]? = some (i, .ref x)) (k : Jd p l e R s m args below meth c D N ad cel ok nL Q q lv (.ref x :: rest) σ) : Jd p l e R s m args below meth c D N ad cel ok nL Q pc lv rest σ := by
  subst hq; intro hok ls H locs hl hP hS; exact lv_aload C.1 C.2.1 hdg (lv_at hl pl hpl) (k hok ls H locs hl hP hS)
theorem J_aload_nN (C : Cx p s m args meth c cc nL own D tys N ad ret) {q : Nat} {k0 : Fin 4} {i : Nat} (hdg : decode cc pc = .ok (.aload_n k0, 1)) (hq : pc + 1 = q) (hi : (k0 : Nat) = i) (pl : Nat) (hpl : lv[pl]? = some (i, .null)) (k : Jd p l e R s m args below meth c D N ad cel ok nL Q q lv (.null :: rest) σ) : Jd p l e R s m args below meth c D N ad cel ok nL Q pc lv rest σ := by
  subst hq; intro hok ls H locs hl hP hS; exact lv_aload_nN C.1 C.2.1 hdg hi (lv_at hl pl hpl) (k hok ls H locs hl hP hS)
theorem J_aloadN (C : Cx p s m args meth c cc nL own D tys N ad ret) {q : Nat} {i : Nat} (hdg : decode cc pc = .ok (.aload i, 2)) (hq : pc + 2 = q) (pl : Nat) (hpl : lv[pl]? = some (i, .null)) (k : Jd p l e R s m args below meth c D N ad cel ok nL Q q lv (.null :: rest) σ) : Jd p l e R s m args below meth c D N ad cel ok nL Q pc lv rest σ := by
  subst hq; intro hok ls H locs hl hP hS; exact lv_aloadN C.1 C.2.1 hdg (lv_at hl pl hpl) (k hok ls H locs hl hP hS)
theorem J_istore_n (C : Cx p s m args meth c cc nL own D tys N ad ret) {q : Nat} {k0 : Fin 4} {i : Nat} {x : Int32} {lv' : List (Nat × Value)} (hdg : decode cc pc = .ok (.istore_n k0, 1)) (hq : pc + 1 = q) (hi : (k0 : Nat) = i) (hn : i < nL) (hlv : (i, Value.int x) :: lv.filter (fun z => !(z.1 == i) && !(z.1 + 1 == i && z.2.category == 2)) = lv') (k : Jd p l e R s m args below meth c D N ad cel ok nL Q q lv' rest σ) : Jd p l e R s m args below meth c D N ad cel ok nL Q pc lv (.int x :: rest) σ := by
  subst hq; intro hok ls H locs hl hP hS; exact lv_istore_n C.1 C.2.1 hdg hi hl hn hlv (fun ls' hl' => k hok ls' H locs hl' hP hS)
theorem J_istore (C : Cx p s m args meth c cc nL own D tys N ad ret) {q : Nat} {i : Nat} {x : Int32} {lv' : List (Nat × Value)} (hdg : decode cc pc = .ok (.istore i, 2)) (hq : pc + 2 = q) (hn : i < nL) (hlv : (i, Value.int x) :: lv.filter (fun z => !(z.1 == i) && !(z.1 + 1 == i && z.2.category == 2)) = lv') (k : Jd p l e R s m args below meth c D N ad cel ok nL Q q lv' rest σ) : Jd p l e R s m args below meth c D N ad cel ok nL Q pc lv (.int x :: rest) σ := by
  subst hq; intro hok ls H locs hl hP hS; exact lv_istore C.1 C.2.1 hdg hl hn hlv (fun ls' hl' => k hok ls' H locs hl' hP hS)
theorem J_lstore_n (C : Cx p s m args meth c cc nL own D tys N ad ret) {q : Nat} {k0 : Fin 4} {i : Nat} {x : Int64} {lv' : List (Nat × Value)} (hdg : decode cc pc = .ok (.lstore_n k0, 1)) (hq : pc + 1 = q) (hi : (k0 : Nat) = i) (hn : i + 1 < nL) (hlv : (i, Value.long x) :: lv.filter (fun z => !(z.1 == i) && (!(z.1 == i + 1) && !(z.1 + 1 == i && z.2.category == 2))) = lv') (k : Jd p l e R s m args below meth c D N ad cel ok nL Q q lv' rest σ) : Jd p l e R s m args below meth c D N ad cel ok nL Q pc lv (.long x :: rest) σ := by
  subst hq; intro hok ls H locs hl hP hS; exact lv_lstore_n C.1 C.2.1 hdg hi hl hn hlv (fun ls' hl' => k hok ls' H locs hl' hP hS)
theorem J_lstore (C : Cx p s m args meth c cc nL own D tys N ad ret) {q : Nat} {i : Nat} {x : Int64} {lv' : List (Nat × Value)} (hdg : decode cc pc = .ok (.lstore i, 2)) (hq : pc + 2 = q) (hn : i + 1 < nL) (hlv : (i, Value.long x) :: lv.filter (fun z => !(z.1 == i) && (!(z.1 == i + 1) && !(z.1 + 1 == i && z.2.category == 2))) = lv') (k : Jd p l e R s m args below meth c D N ad cel ok nL Q q lv' rest σ) : Jd p l e R s m args below meth c D N ad cel ok nL Q pc lv (.long x :: rest) σ := by
  subst hq; intro hok ls H locs hl hP hS; exact lv_lstore C.1 C.2.1 hdg hl hn hlv (fun ls' hl' => k hok ls' H locs hl' hP hS)
theorem J_astore_n (C : Cx p s m args meth c cc nL own D tys N ad ret) {q : Nat} {k0 : Fin 4} {i : Nat} {x : Nat} {lv' : List (Nat × Value)} (hdg : decode cc pc = .ok (.astore_n k0, 1)) (hq : pc + 1 = q) (hi : (k0 : Nat) = i) (hn : i < nL) (hlv : (i, Value.ref x) :: lv.filter (fun z => !(z.1 == i) && !(z.1 + 1 == i && z.2.category == 2)) = lv') (k : Jd p l e R s m args below meth c D N ad cel ok nL Q q lv' rest σ) : Jd p l e R s m args below meth c D N ad cel ok nL Q pc lv (.ref x :: rest) σ := by
  subst hq; intro hok ls H locs hl hP hS; exact lv_astore_n C.1 C.2.1 hdg hi hl hn hlv (fun ls' hl' => k hok ls' H locs hl' hP hS)
theorem J_astore (C : Cx p s m args meth c cc nL own D tys N ad ret) {q : Nat} {i : Nat} {x : Nat} {lv' : List (Nat × Value)} (hdg : decode cc pc = .ok (.astore i, 2)) (hq : pc + 2 = q) (hn : i < nL) (hlv : (i, Value.ref x) :: lv.filter (fun z => !(z.1 == i) && !(z.1 + 1 == i && z.2.category == 2)) = lv') (k : Jd p l e R s m args below meth c D N ad cel ok nL Q q lv' rest σ) : Jd p l e R s m args below meth c D N ad cel ok nL Q pc lv (.ref x :: rest) σ := by
  subst hq; intro hok ls H locs hl hP hS; exact lv_astore C.1 C.2.1 hdg hl hn hlv (fun ls' hl' => k hok ls' H locs hl' hP hS)
theorem J_astore_nN (C : Cx p s m args meth c cc nL own D tys N ad ret) {q : Nat} {k0 : Fin 4} {i : Nat} {lv' : List (Nat × Value)} (hdg : decode cc pc = .ok (.astore_n k0, 1)) (hq : pc + 1 = q) (hi : (k0 : Nat) = i) (hn : i < nL) (hlv : (i, Value.null) :: lv.filter (fun z => !(z.1 == i) && !(z.1 + 1 == i && z.2.category == 2)) = lv') (k : Jd p l e R s m args below meth c D N ad cel ok nL Q q lv' rest σ) : Jd p l e R s m args below meth c D N ad cel ok nL Q pc lv (.null :: rest) σ := by
  subst hq; intro hok ls H locs hl hP hS; exact lv_astore_nN C.1 C.2.1 hdg hi hl hn hlv (fun ls' hl' => k hok ls' H locs hl' hP hS)
theorem J_astoreN (C : Cx p s m args meth c cc nL own D tys N ad ret) {q : Nat} {i : Nat} {lv' : List (Nat × Value)} (hdg : decode cc pc = .ok (.astore i, 2)) (hq : pc + 2 = q) (hn : i < nL) (hlv : (i, Value.null) :: lv.filter (fun z => !(z.1 == i) && !(z.1 + 1 == i && z.2.category == 2)) = lv') (k : Jd p l e R s m args below meth c D N ad cel ok nL Q q lv' rest σ) : Jd p l e R s m args below meth c D N ad cel ok nL Q pc lv (.null :: rest) σ := by
  subst hq; intro hok ls H locs hl hP hS; exact lv_astoreN C.1 C.2.1 hdg hl hn hlv (fun ls' hl' => k hok ls' H locs hl' hP hS)
theorem J_iinc (C : Cx p s m args meth c cc nL own D tys N ad ret) {q : Nat} {i : Nat} {n : Int} {x v : Int32} {lv' : List (Nat × Value)} (hdg : decode cc pc = .ok (.iinc i n, 3)) (hq : pc + 3 = q) (pl : Nat) (hpl : lv[pl]? = some (i, .int x)) (hv : x + Int32.ofInt n = v) (hn : i < nL) (hlv : (i, Value.int v) :: lv.filter (fun z => !(z.1 == i) && !(z.1 + 1 == i && z.2.category == 2)) = lv') (k : Jd p l e R s m args below meth c D N ad cel ok nL Q q lv' rest σ) : Jd p l e R s m args below meth c D N ad cel ok nL Q pc lv rest σ := by
  subst hq; intro hok ls H locs hl hP hS; exact lv_iinc C.1 C.2.1 hdg hl hpl hv hn hlv (fun ls' hl' => k hok ls' H locs hl' hP hS)
theorem J_goto (C : Cx p s m args meth c cc nL own D tys N ad ret) {off : Int} {tgt : Nat} (hdg : decode cc pc = .ok (.goto off, 3)) (ht : (pc : Int) + off = (tgt : Int)) (k : Jd p l e R s m args below meth c D N ad cel ok nL Q tgt lv rest σ) : Jd p l e R s m args below meth c D N ad cel ok nL Q pc lv rest σ := by
  intro hok ls H locs hl hP hS; exact lv_goto C.1 C.2.1 hdg ht (k hok ls H locs hl hP hS)
theorem J_if_eq (C : Cx p s m args meth c cc nL own D tys N ad ret) {off : Int} {tgt q : Nat} {x : Int32} {O : Type} {a b : Option O} {out : O} (hdg : decode cc pc = .ok (.ifCond .eq off, 3)) (hq : pc + 3 = q) (ht : (pc : Int) + off = (tgt : Int)) (h : (if x = 0 then a else b) = some out) (kt : x = 0 → a = some out → Jd p l e R s m args below meth c D N ad cel ok nL Q tgt lv rest σ) (kf : ¬ (x = 0) → b = some out → Jd p l e R s m args below meth c D N ad cel ok nL Q q lv rest σ) : Jd p l e R s m args below meth c D N ad cel ok nL Q pc lv (.int x :: rest) σ := by
  subst hq; intro hok ls H locs hl hP hS
  exact lv_if_eq C.1 C.2.1 hdg ht (fun z => kt z (by rw [if_pos z] at h; exact h) hok ls H locs hl hP hS) (fun z => kf z (by rw [if_neg z] at h; exact h) hok ls H locs hl hP hS)
theorem J_if_lt (C : Cx p s m args meth c cc nL own D tys N ad ret) {off : Int} {tgt q : Nat} {x : Int32} {O : Type} {a b : Option O} {out : O} (hdg : decode cc pc = .ok (.ifCond .lt off, 3)) (hq : pc + 3 = q) (ht : (pc : Int) + off = (tgt : Int)) (h : (if x < 0 then a else b) = some out) (kt : x < 0 → a = some out → Jd p l e R s m args below meth c D N ad cel ok nL Q tgt lv rest σ) (kf : ¬ (x < 0) → b = some out → Jd p l e R s m args below meth c D N ad cel ok nL Q q lv rest σ) : Jd p l e R s m args below meth c D N ad cel ok nL Q pc lv (.int x :: rest) σ := by
  subst hq; intro hok ls H locs hl hP hS
  exact lv_if_lt C.1 C.2.1 hdg ht (fun z => kt z (by rw [if_pos z] at h; exact h) hok ls H locs hl hP hS) (fun z => kf z (by rw [if_neg z] at h; exact h) hok ls H locs hl hP hS)
theorem J_if_ge (C : Cx p s m args meth c cc nL own D tys N ad ret) {off : Int} {tgt q : Nat} {x : Int32} {O : Type} {a b : Option O} {out : O} (hdg : decode cc pc = .ok (.ifCond .ge off, 3)) (hq : pc + 3 = q) (ht : (pc : Int) + off = (tgt : Int)) (h : (if 0 ≤ x then a else b) = some out) (kt : 0 ≤ x → a = some out → Jd p l e R s m args below meth c D N ad cel ok nL Q tgt lv rest σ) (kf : ¬ (0 ≤ x) → b = some out → Jd p l e R s m args below meth c D N ad cel ok nL Q q lv rest σ) : Jd p l e R s m args below meth c D N ad cel ok nL Q pc lv (.int x :: rest) σ := by
  subst hq; intro hok ls H locs hl hP hS
  exact lv_if_ge C.1 C.2.1 hdg ht (fun z => kt z (by rw [if_pos z] at h; exact h) hok ls H locs hl hP hS) (fun z => kf z (by rw [if_neg z] at h; exact h) hok ls H locs hl hP hS)
theorem J_if_gt (C : Cx p s m args meth c cc nL own D tys N ad ret) {off : Int} {tgt q : Nat} {x : Int32} {O : Type} {a b : Option O} {out : O} (hdg : decode cc pc = .ok (.ifCond .gt off, 3)) (hq : pc + 3 = q) (ht : (pc : Int) + off = (tgt : Int)) (h : (if 0 < x then a else b) = some out) (kt : 0 < x → a = some out → Jd p l e R s m args below meth c D N ad cel ok nL Q tgt lv rest σ) (kf : ¬ (0 < x) → b = some out → Jd p l e R s m args below meth c D N ad cel ok nL Q q lv rest σ) : Jd p l e R s m args below meth c D N ad cel ok nL Q pc lv (.int x :: rest) σ := by
  subst hq; intro hok ls H locs hl hP hS
  exact lv_if_gt C.1 C.2.1 hdg ht (fun z => kt z (by rw [if_pos z] at h; exact h) hok ls H locs hl hP hS) (fun z => kf z (by rw [if_neg z] at h; exact h) hok ls H locs hl hP hS)
theorem J_if_le (C : Cx p s m args meth c cc nL own D tys N ad ret) {off : Int} {tgt q : Nat} {x : Int32} {O : Type} {a b : Option O} {out : O} (hdg : decode cc pc = .ok (.ifCond .le off, 3)) (hq : pc + 3 = q) (ht : (pc : Int) + off = (tgt : Int)) (h : (if x ≤ 0 then a else b) = some out) (kt : x ≤ 0 → a = some out → Jd p l e R s m args below meth c D N ad cel ok nL Q tgt lv rest σ) (kf : ¬ (x ≤ 0) → b = some out → Jd p l e R s m args below meth c D N ad cel ok nL Q q lv rest σ) : Jd p l e R s m args below meth c D N ad cel ok nL Q pc lv (.int x :: rest) σ := by
  subst hq; intro hok ls H locs hl hP hS
  exact lv_if_le C.1 C.2.1 hdg ht (fun z => kt z (by rw [if_pos z] at h; exact h) hok ls H locs hl hP hS) (fun z => kf z (by rw [if_neg z] at h; exact h) hok ls H locs hl hP hS)
theorem J_icmp_eq (C : Cx p s m args meth c cc nL own D tys N ad ret) {off : Int} {tgt q : Nat} {x y : Int32} {O : Type} {a b : Option O} {out : O} (hdg : decode cc pc = .ok (.if_icmp .eq off, 3)) (hq : pc + 3 = q) (ht : (pc : Int) + off = (tgt : Int)) (h : (if x = y then a else b) = some out) (kt : x = y → a = some out → Jd p l e R s m args below meth c D N ad cel ok nL Q tgt lv rest σ) (kf : ¬ (x = y) → b = some out → Jd p l e R s m args below meth c D N ad cel ok nL Q q lv rest σ) : Jd p l e R s m args below meth c D N ad cel ok nL Q pc lv (.int y :: .int x :: rest) σ := by
  subst hq; intro hok ls H locs hl hP hS
  exact lv_icmp_eq C.1 C.2.1 hdg ht (fun z => kt z (by rw [if_pos z] at h; exact h) hok ls H locs hl hP hS) (fun z => kf z (by rw [if_neg z] at h; exact h) hok ls H locs hl hP hS)
theorem J_icmp_lt (C : Cx p s m args meth c cc nL own D tys N ad ret) {off : Int} {tgt q : Nat} {x y : Int32} {O : Type} {a b : Option O} {out : O} (hdg : decode cc pc = .ok (.if_icmp .lt off, 3)) (hq : pc + 3 = q) (ht : (pc : Int) + off = (tgt : Int)) (h : (if x < y then a else b) = some out) (kt : x < y → a = some out → Jd p l e R s m args below meth c D N ad cel ok nL Q tgt lv rest σ) (kf : ¬ (x < y) → b = some out → Jd p l e R s m args below meth c D N ad cel ok nL Q q lv rest σ) : Jd p l e R s m args below meth c D N ad cel ok nL Q pc lv (.int y :: .int x :: rest) σ := by
  subst hq; intro hok ls H locs hl hP hS
  exact lv_icmp_lt C.1 C.2.1 hdg ht (fun z => kt z (by rw [if_pos z] at h; exact h) hok ls H locs hl hP hS) (fun z => kf z (by rw [if_neg z] at h; exact h) hok ls H locs hl hP hS)
theorem J_icmp_ge (C : Cx p s m args meth c cc nL own D tys N ad ret) {off : Int} {tgt q : Nat} {x y : Int32} {O : Type} {a b : Option O} {out : O} (hdg : decode cc pc = .ok (.if_icmp .ge off, 3)) (hq : pc + 3 = q) (ht : (pc : Int) + off = (tgt : Int)) (h : (if y ≤ x then a else b) = some out) (kt : y ≤ x → a = some out → Jd p l e R s m args below meth c D N ad cel ok nL Q tgt lv rest σ) (kf : ¬ (y ≤ x) → b = some out → Jd p l e R s m args below meth c D N ad cel ok nL Q q lv rest σ) : Jd p l e R s m args below meth c D N ad cel ok nL Q pc lv (.int y :: .int x :: rest) σ := by
  subst hq; intro hok ls H locs hl hP hS
  exact lv_icmp_ge C.1 C.2.1 hdg ht (fun z => kt z (by rw [if_pos z] at h; exact h) hok ls H locs hl hP hS) (fun z => kf z (by rw [if_neg z] at h; exact h) hok ls H locs hl hP hS)
theorem J_icmp_gt (C : Cx p s m args meth c cc nL own D tys N ad ret) {off : Int} {tgt q : Nat} {x y : Int32} {O : Type} {a b : Option O} {out : O} (hdg : decode cc pc = .ok (.if_icmp .gt off, 3)) (hq : pc + 3 = q) (ht : (pc : Int) + off = (tgt : Int)) (h : (if y < x then a else b) = some out) (kt : y < x → a = some out → Jd p l e R s m args below meth c D N ad cel ok nL Q tgt lv rest σ) (kf : ¬ (y < x) → b = some out → Jd p l e R s m args below meth c D N ad cel ok nL Q q lv rest σ) : Jd p l e R s m args below meth c D N ad cel ok nL Q pc lv (.int y :: .int x :: rest) σ := by
  subst hq; intro hok ls H locs hl hP hS
  exact lv_icmp_gt C.1 C.2.1 hdg ht (fun z => kt z (by rw [if_pos z] at h; exact h) hok ls H locs hl hP hS) (fun z => kf z (by rw [if_neg z] at h; exact h) hok ls H locs hl hP hS)
theorem J_icmp_le (C : Cx p s m args meth c cc nL own D tys N ad ret) {off : Int} {tgt q : Nat} {x y : Int32} {O : Type} {a b : Option O} {out : O} (hdg : decode cc pc = .ok (.if_icmp .le off, 3)) (hq : pc + 3 = q) (ht : (pc : Int) + off = (tgt : Int)) (h : (if x ≤ y then a else b) = some out) (kt : x ≤ y → a = some out → Jd p l e R s m args below meth c D N ad cel ok nL Q tgt lv rest σ) (kf : ¬ (x ≤ y) → b = some out → Jd p l e R s m args below meth c D N ad cel ok nL Q q lv rest σ) : Jd p l e R s m args below meth c D N ad cel ok nL Q pc lv (.int y :: .int x :: rest) σ := by
  subst hq; intro hok ls H locs hl hP hS
  exact lv_icmp_le C.1 C.2.1 hdg ht (fun z => kt z (by rw [if_pos z] at h; exact h) hok ls H locs hl hP hS) (fun z => kf z (by rw [if_neg z] at h; exact h) hok ls H locs hl hP hS)
theorem J_if_ne (C : Cx p s m args meth c cc nL own D tys N ad ret) {off : Int} {tgt q : Nat} {x : Int32} {O : Type} {a b : Option O} {out : O} (hdg : decode cc pc = .ok (.ifCond .ne off, 3)) (hq : pc + 3 = q) (ht : (pc : Int) + off = (tgt : Int)) (h : (if x = 0 then a else b) = some out) (kt : x = 0 → a = some out → Jd p l e R s m args below meth c D N ad cel ok nL Q q lv rest σ) (kf : ¬ (x = 0) → b = some out → Jd p l e R s m args below meth c D N ad cel ok nL Q tgt lv rest σ) : Jd p l e R s m args below meth c D N ad cel ok nL Q pc lv (.int x :: rest) σ := by
  subst hq; intro hok ls H locs hl hP hS
  exact lv_if_ne C.1 C.2.1 hdg ht (fun z => kf z (by rw [if_neg z] at h; exact h) hok ls H locs hl hP hS) (fun z => kt z (by rw [if_pos z] at h; exact h) hok ls H locs hl hP hS)
theorem J_icmp_ne (C : Cx p s m args meth c cc nL own D tys N ad ret) {off : Int} {tgt q : Nat} {x y : Int32} {O : Type} {a b : Option O} {out : O} (hdg : decode cc pc = .ok (.if_icmp .ne off, 3)) (hq : pc + 3 = q) (ht : (pc : Int) + off = (tgt : Int)) (h : (if x = y then a else b) = some out) (kt : x = y → a = some out → Jd p l e R s m args below meth c D N ad cel ok nL Q q lv rest σ) (kf : ¬ (x = y) → b = some out → Jd p l e R s m args below meth c D N ad cel ok nL Q tgt lv rest σ) : Jd p l e R s m args below meth c D N ad cel ok nL Q pc lv (.int y :: .int x :: rest) σ := by
  subst hq; intro hok ls H locs hl hP hS
  exact lv_icmp_ne C.1 C.2.1 hdg ht (fun z => kf z (by rw [if_neg z] at h; exact h) hok ls H locs hl hP hS) (fun z => kt z (by rw [if_pos z] at h; exact h) hok ls H locs hl hP hS)
def bf {α : Type} (b : Bool) (x y : α) : α := match b with
  | true => x
  | false => y
theorem J_ifeq_b (C : Cx p s m args meth c cc nL own D tys N ad ret) {off : Int} {tgt q : Nat} {x : Bool} {O : Type} {a b : Option O} {out : O} (hdg : decode cc pc = .ok (.ifCond .eq off, 3)) (hq : pc + 3 = q) (ht : (pc : Int) + off = (tgt : Int)) (h : bf x a b = some out) (kt : x = true → a = some out → Jd p l e R s m args below meth c D N ad cel ok nL Q q lv rest σ) (kf : x = false → b = some out → Jd p l e R s m args below meth c D N ad cel ok nL Q tgt lv rest σ) : Jd p l e R s m args below meth c D N ad cel ok nL Q pc lv (.int (b2i x) :: rest) σ := by
  subst hq; intro hok ls H locs hl hP hS
  refine lv_if_eq C.1 C.2.1 hdg ht (fun z => ?_) (fun z => ?_)
  · cases x
    · exact kf rfl h hok ls H locs hl hP hS
    · cases z
  · cases x
    · exact absurd rfl z
    · exact kt rfl h hok ls H locs hl hP hS
theorem J_ifne_b (C : Cx p s m args meth c cc nL own D tys N ad ret) {off : Int} {tgt q : Nat} {x : Bool} {O : Type} {a b : Option O} {out : O} (hdg : decode cc pc = .ok (.ifCond .ne off, 3)) (hq : pc + 3 = q) (ht : (pc : Int) + off = (tgt : Int)) (h : bf x a b = some out) (kt : x = true → a = some out → Jd p l e R s m args below meth c D N ad cel ok nL Q tgt lv rest σ) (kf : x = false → b = some out → Jd p l e R s m args below meth c D N ad cel ok nL Q q lv rest σ) : Jd p l e R s m args below meth c D N ad cel ok nL Q pc lv (.int (b2i x) :: rest) σ := by
  subst hq; intro hok ls H locs hl hP hS
  refine lv_if_ne C.1 C.2.1 hdg ht (fun z => ?_) (fun z => ?_)
  · cases x
    · exact absurd rfl z
    · exact kt rfl h hok ls H locs hl hP hS
  · cases x
    · exact kf rfl h hok ls H locs hl hP hS
    · cases z
theorem J_ifnonnull (C : Cx p s m args meth c cc nL own D tys N ad ret) {off : Int} {tgt : Nat} {x : Nat} (hdg : decode cc pc = .ok (.ifnonnull off, 3)) (ht : (pc : Int) + off = (tgt : Int)) (k : Jd p l e R s m args below meth c D N ad cel ok nL Q tgt lv rest σ) : Jd p l e R s m args below meth c D N ad cel ok nL Q pc lv (.ref x :: rest) σ := by
  intro hok ls H locs hl hP hS; exact lv_ifnonnull C.1 C.2.1 hdg ht (k hok ls H locs hl hP hS)
theorem J_ifnull (C : Cx p s m args meth c cc nL own D tys N ad ret) {off : Int} {q : Nat} {x : Nat} (hdg : decode cc pc = .ok (.ifnull off, 3)) (hq : pc + 3 = q) (k : Jd p l e R s m args below meth c D N ad cel ok nL Q q lv rest σ) : Jd p l e R s m args below meth c D N ad cel ok nL Q pc lv (.ref x :: rest) σ := by
  subst hq; intro hok ls H locs hl hP hS; exact lv_ifnull C.1 C.2.1 hdg (k hok ls H locs hl hP hS)
theorem J_ifnullN (C : Cx p s m args meth c cc nL own D tys N ad ret) {off : Int} {tgt : Nat} (hdg : decode cc pc = .ok (.ifnull off, 3)) (ht : (pc : Int) + off = (tgt : Int)) (k : Jd p l e R s m args below meth c D N ad cel ok nL Q tgt lv rest σ) : Jd p l e R s m args below meth c D N ad cel ok nL Q pc lv (.null :: rest) σ := by
  intro hok ls H locs hl hP hS; exact lv_ifnullN C.1 C.2.1 hdg ht (k hok ls H locs hl hP hS)
theorem J_ifnonnullN (C : Cx p s m args meth c cc nL own D tys N ad ret) {off : Int} {q : Nat} (hdg : decode cc pc = .ok (.ifnonnull off, 3)) (hq : pc + 3 = q) (k : Jd p l e R s m args below meth c D N ad cel ok nL Q q lv rest σ) : Jd p l e R s m args below meth c D N ad cel ok nL Q pc lv (.null :: rest) σ := by
  subst hq; intro hok ls H locs hl hP hS; exact lv_ifnonnullN C.1 C.2.1 hdg (k hok ls H locs hl hP hS)
theorem J_ldc (C : Cx p s m args meth c cc nL own D tys N ad ret) {q index : Nat} {v : Int32} (hw : Cond.constant own index v ∈ WA) (hdg : decode cc pc = .ok (.ldc index, 2)) (hq : pc + 2 = q) (k : Jd p l e R s m args below meth c D N ad cel ok nL Q q lv (.int v :: rest) σ) : Jd p l e R s m args below meth c D N ad cel ok nL Q pc lv rest σ := by
  subst hq; intro hok ls H locs hl hP hS; exact lv_ldc C.1 C.2.1 C.2.2.2.1 (C.2.2.2.2.1 _ hw) hdg (k hok ls H locs hl hP hS)
theorem J_ldc2 (C : Cx p s m args meth c cc nL own D tys N ad ret) {q index : Nat} {v : Int64} (hw : Cond.constantLong own index v ∈ WA) (hdg : decode cc pc = .ok (.ldc2_w index, 3)) (hq : pc + 3 = q) (k : Jd p l e R s m args below meth c D N ad cel ok nL Q q lv (.long v :: rest) σ) : Jd p l e R s m args below meth c D N ad cel ok nL Q pc lv rest σ := by
  subst hq; intro hok ls H locs hl hP hS; exact lv_ldc2 C.1 C.2.1 C.2.2.2.1 (C.2.2.2.2.1 _ hw) hdg (k hok ls H locs hl hP hS)
theorem J_ldcw (C : Cx p s m args meth c cc nL own D tys N ad ret) {q index : Nat} {v : Int32} (hw : Cond.constant own index v ∈ WA) (hdg : decode cc pc = .ok (.ldc_w index, 3)) (hq : pc + 3 = q) (k : Jd p l e R s m args below meth c D N ad cel ok nL Q q lv (.int v :: rest) σ) : Jd p l e R s m args below meth c D N ad cel ok nL Q pc lv rest σ := by
  subst hq; intro hok ls H locs hl hP hS; exact lv_ldcw C.1 C.2.1 C.2.2.2.1 (C.2.2.2.2.1 _ hw) hdg (k hok ls H locs hl hP hS)
theorem J_sub {lv' : List (Nat × Value)} {st : List Value} (ks : List Nat) (hk : lv_pick lv ks = lv') (k : Jd p l e R s m args below meth c D N ad cel ok nL Q pc lv' st σ) : Jd p l e R s m args below meth c D N ad cel ok nL Q pc lv st σ := fun hok ls H locs hl hP hS => k hok ls H locs (lv_sub hl ks hk) hP hS
theorem J_nmi {O : Type} {x : Int32} {K : Int32 → Option O} {out : O} (h : nm x K = some out) (k : ∀ y : Int32, y = x → K y = some out → Jd p l e R s m args below meth c D N ad cel ok nL Q pc lv (.int y :: rest) σ) : Jd p l e R s m args below meth c D N ad cel ok nL Q pc lv (.int x :: rest) σ := k x rfl h
theorem J_nml {O : Type} {x : Int64} {K : Int64 → Option O} {out : O} (h : nm x K = some out) (k : ∀ y : Int64, y = x → K y = some out → Jd p l e R s m args below meth c D N ad cel ok nL Q pc lv (.long y :: rest) σ) : Jd p l e R s m args below meth c D N ad cel ok nL Q pc lv (.long x :: rest) σ := k x rfl h
theorem J_tsIn (C : Cx p s m args meth c cc nL own D tys N ad ret) {dflt lo hi : Int} {offs : Array Int} {len : Nat} {x : Int32} {off : Int} {tgt : Nat} (v : Int32) (hx : x = v) (hdg : decode cc pc = .ok (.tableswitch dflt lo hi offs, len)) (h1 : ¬ v.toInt < lo) (h2 : ¬ hi < v.toInt) (ho : offs[(v.toInt - lo).toNat]? = some off) (ht : (pc : Int) + off = (tgt : Int)) (k : Jd p l e R s m args below meth c D N ad cel ok nL Q tgt lv rest σ) : Jd p l e R s m args below meth c D N ad cel ok nL Q pc lv (.int x :: rest) σ := by
  subst hx; intro hok ls H locs hl hP hS; exact lv_tableIn C.1 C.2.1 hdg h1 h2 ho ht (k hok ls H locs hl hP hS)
theorem J_tsOut (C : Cx p s m args meth c cc nL own D tys N ad ret) {dflt lo hi : Int} {offs : Array Int} {len : Nat} {x : Int32} {tgt : Nat} (hdg : decode cc pc = .ok (.tableswitch dflt lo hi offs, len)) (hx : x.toInt < lo ∨ hi < x.toInt) (ht : (pc : Int) + dflt = (tgt : Int)) (k : Jd p l e R s m args below meth c D N ad cel ok nL Q tgt lv rest σ) : Jd p l e R s m args below meth c D N ad cel ok nL Q pc lv (.int x :: rest) σ := by
  intro hok ls H locs hl hP hS; exact lv_tableOut C.1 C.2.1 hdg hx ht (k hok ls H locs hl hP hS)
theorem J_ls (C : Cx p s m args meth c cc nL own D tys N ad ret) {dflt : Int} {ps : Array (Int × Int)} {len : Nat} {x : Int32} {off : Int} {tgt : Nat} (hdg : decode cc pc = .ok (.lookupswitch dflt ps, len)) (hp : (ps.toList.zip (ps.toList.drop 1)).all (fun (a, next) => a.1 < next.1) = true) (ho : Op.lookupswitch.offset ps.toList dflt x.toInt = off) (ht : (pc : Int) + off = (tgt : Int)) (k : Jd p l e R s m args below meth c D N ad cel ok nL Q tgt lv rest σ) : Jd p l e R s m args below meth c D N ad cel ok nL Q pc lv (.int x :: rest) σ := by
  intro hok ls H locs hl hP hS; exact lv_lookup C.1 C.2.1 hdg hp ho ht (k hok ls H locs hl hP hS)
def mmax (x y : Int32) : Int32 := if x < y then y else x
theorem J_mmax (C : Cx p s m args meth c cc nL own D tys N ad ret) {q index : Nat} {x y : Int32} (hl0 : Cond.methodLink own index Lib.Math.max.name ∈ WA) (hst : Cond.static Lib.Math.max.name ∈ WA) (hcd : Cond.code Lib.Math.max.name Lib.Math.max.code 2 (some .int) ∈ WA) (hf : 1 ≤ R.frames) (hlo : (rest.map fun v => v.category).sum + 13 ≤ R.locals) (hdg : decode cc pc = .ok (.invokestatic index, 3)) (hq : pc + 3 = q) (k : Jd p l e R s m args below meth c D N ad cel ok nL Q q lv (.int (mmax x y) :: rest) σ) : Jd p l e R s m args below meth c D N ad cel ok nL Q pc lv (.int y :: .int x :: rest) σ := by
  subst hq; intro hok ls H locs hl hP hS
  exact va_mmax C.1 C.2.1 (C.2.2.1.trans hl.1.symm) C.2.2.2.1 (C.2.2.2.2.1 _ hl0) (C.2.2.2.2.1 _ hst) (C.2.2.2.2.1 _ kZ_RJ9) (C.2.2.2.2.1 _ hcd) hf hlo (Nat.zero_le _) (Nat.zero_le _) hdg (k hok ls H locs hl hP hS)
def mmin (x y : Int32) : Int32 := if y < x then y else x
theorem J_mmin (C : Cx p s m args meth c cc nL own D tys N ad ret) {q index : Nat} {x y : Int32} (hl0 : Cond.methodLink own index Lib.Math.min.name ∈ WA) (hst : Cond.static Lib.Math.min.name ∈ WA) (hcd : Cond.code Lib.Math.min.name Lib.Math.min.code 2 (some .int) ∈ WA) (hf : 1 ≤ R.frames) (hlo : (rest.map fun v => v.category).sum + 13 ≤ R.locals) (hdg : decode cc pc = .ok (.invokestatic index, 3)) (hq : pc + 3 = q) (k : Jd p l e R s m args below meth c D N ad cel ok nL Q q lv (.int (mmin x y) :: rest) σ) : Jd p l e R s m args below meth c D N ad cel ok nL Q pc lv (.int y :: .int x :: rest) σ := by
  subst hq; intro hok ls H locs hl hP hS
  exact va_mmin C.1 C.2.1 (C.2.2.1.trans hl.1.symm) C.2.2.2.1 (C.2.2.2.2.1 _ hl0) (C.2.2.2.2.1 _ hst) (C.2.2.2.2.1 _ kZ_RJ9) (C.2.2.2.2.1 _ hcd) hf hlo (Nat.zero_le _) (Nat.zero_le _) hdg (k hok ls H locs hl hP hS)
def mabs (x : Int32) : Int32 := if 0 ≤ x then x else 0 - x
theorem J_mabs (C : Cx p s m args meth c cc nL own D tys N ad ret) {q index : Nat} {x : Int32} (hl0 : Cond.methodLink own index Lib.Math.abs.name ∈ WA) (hst : Cond.static Lib.Math.abs.name ∈ WA) (hcd : Cond.code Lib.Math.abs.name Lib.Math.abs.code 1 (some .int) ∈ WA) (hf : 1 ≤ R.frames) (hlo : (rest.map fun v => v.category).sum + 13 ≤ R.locals) (hdg : decode cc pc = .ok (.invokestatic index, 3)) (hq : pc + 3 = q) (k : Jd p l e R s m args below meth c D N ad cel ok nL Q q lv (.int (mabs x) :: rest) σ) : Jd p l e R s m args below meth c D N ad cel ok nL Q pc lv (.int x :: rest) σ := by
  subst hq; intro hok ls H locs hl hP hS
  exact va_mabs C.1 C.2.1 (C.2.2.1.trans hl.1.symm) C.2.2.2.1 (C.2.2.2.2.1 _ hl0) (C.2.2.2.2.1 _ hst) (C.2.2.2.2.1 _ kZ_RJ9) (C.2.2.2.2.1 _ hcd) hf hlo (Nat.zero_le _) (Nat.zero_le _) hdg (k hok ls H locs hl hP hS)
theorem J_get (C : Cx p s m args meth c cc nL own D tys N ad ret) {Cn : String} {T : u_T} {Nf ci index q g : Nat} {fs : List Value} (hin : ∀ w ∈ u_ws Cn T Nf, w ∈ WA) (hg : g < N) (hc : cel σ g = .inr (ci, fs)) (hcl : vwCl[ci]? = some (Cn, T, Nf)) (j : Nat) (hj : j < Nf) (hw : Cond.fieldLink own index (T j).1 (T j).2.1 (T j).2.2.1 ∈ WA) {v : Value} (hv : fs[j]? = some v) (hdg : decode cc pc = .ok (.getfield index, 3)) (hq : pc + 3 = q) (k : ok σ → Jd p l e R s m args below meth c D N ad cel ok nL Q q lv (v :: rest) σ) : Jd p l e R s m args below meth c D N ad cel ok nL Q pc lv (.ref (ad g) :: rest) σ := by
  subst hq; intro hok ls H locs hl hP hS
  exact va_get (D := D) C.1 C.2.1 C.2.2.2.2.1 hin C.2.2.2.1 C.2.2.2.2.2.1 hP g (wd_get hg hc) hcl j hj (C.2.2.2.2.1 _ hw) (fun _ h9 => h9) hv hdg (k hok hok ls H locs hl hP hS)
theorem J_put (C : Cx p s m args meth c cc nL own D tys N ad ret) {Cn : String} {T : u_T} {Nf ci index q g : Nat} {fs fs' : List Value} {σ' : Sg} (hin : ∀ w ∈ u_ws Cn T Nf, w ∈ WA) (ty0 : Nat → FieldType) (hty : ∀ k, k < Nf → parseFieldDescriptor (T k).2.2.1 = some (ty0 k)) (hnm : ∀ a, a < Nf → ∀ b, b < Nf → a ≠ b → (T a).2.1 ≠ (T b).2.1) (hg : g < N) (hc : cel σ g = .inr (ci, fs)) (hcl : vwCl[ci]? = some (Cn, T, Nf)) (j : Nat) (hj : j < Nf) (hw : Cond.fieldLink own index (T j).1 (T j).2.1 (T j).2.2.1 ∈ WA) (hfin : (T j).2.2.2 = false) {ty : FieldType} {v : Value} (hd : parseFieldDescriptor (T j).2.2.1 = some ty) (hn : narrow ty v = v) (hfit : fits ty v = true) (hlf : j < fs.length) (hs : fs.set j v = fs') (hc' : cel σ' g = .inr (ci, fs')) (hne : ∀ x, x ≠ g → cel σ' x = cel σ x) (hok' : ok σ → ok σ') (hdg : decode cc pc = .ok (.putfield index, 3)) (hq : pc + 3 = q) (k : Jd p l e R s m args below meth c D N ad cel ok nL Q q lv rest σ') : Jd p l e R s m args below meth c D N ad cel ok nL Q pc lv (v :: .ref (ad g) :: rest) σ := by
  subst hq; subst hs; intro hok ls H locs hl hP hS
  refine va_put (D := D) C.1 C.2.1 C.2.2.2.2.1 hin ty0 hty hnm C.2.2.2.1 C.2.2.2.2.2.1 hP (wd_D C.2.2.2.2.2.2.1) hS g (wd_get hg hc) hcl j hj (C.2.2.2.2.1 _ hw) (fun _ h9 => h9) hfin hd hn hfit hlf hdg (fun H1 locs1 hP1 hD1 hS1 => ?_)
  rw [wd_set hc' hne] at hP1
  exact k (hok' hok) ls H1 locs1 hl hP1 hS1
theorem J_iald (C : Cx p s m args meth c cc nL own D tys N ad ret) {q g t0 n : Nat} {cA : ClassId} {f : Nat → Int32} {i : Int32} {O : Type} {X : Option O} {out : O} (hg : g < N) (hc : cel σ g = .inl (cA, n, .inl f)) (ht : tys[t0]? = some (cA, .int)) (h : ck (inB i n) X = some out) (hdg : decode cc pc = .ok (.iaload, 1)) (hq : pc + 1 = q) (k : X = some out → Jd p l e R s m args below meth c D N ad cel ok nL Q q lv (.int (f i.toNatClampNeg) :: rest) σ) : Jd p l e R s m args below meth c D N ad cel ok nL Q pc lv (.int i :: .ref (ad g) :: rest) σ := by
  subst hq; intro hok ls H locs hl hP hS
  exact va_iald (D := D) C.1 C.2.1 C.2.2.2.2.2.1 hP g t0 (wd_get hg hc) ht (inB_in (ck_of h).1) hdg (k (ck_of h).2 hok ls H locs hl hP hS)
theorem J_iast (C : Cx p s m args meth c cc nL own D tys N ad ret) {q g t0 n : Nat} {cA : ClassId} {f : Nat → Int32} {i x : Int32} {σ' : Sg} {O : Type} {X : Option O} {out : O} (hg : g < N) (hc : cel σ g = .inl (cA, n, .inl f)) (ht : tys[t0]? = some (cA, .int)) (h : ck (inB i n) X = some out) (hc' : cel σ' g = .inl (cA, n, .inl (upd f i.toNatClampNeg x))) (hne : ∀ z, z ≠ g → cel σ' z = cel σ z) (hok' : ok σ → ok σ') (hdg : decode cc pc = .ok (.iastore, 1)) (hq : pc + 1 = q) (k : X = some out → Jd p l e R s m args below meth c D N ad cel ok nL Q q lv rest σ') : Jd p l e R s m args below meth c D N ad cel ok nL Q pc lv (.int x :: .int i :: .ref (ad g) :: rest) σ := by
  subst hq; intro hok ls H locs hl hP hS
  refine va_iast (D := D) C.1 C.2.1 C.2.2.2.2.2.1 hP (wd_D C.2.2.2.2.2.2.1) hS g t0 (wd_get hg hc) ht (inB_in (ck_of h).1) hdg (fun H1 locs1 hP1 hD1 hS1 => ?_)
  rw [wd_set hc' hne] at hP1
  exact k (ck_of h).2 (hok' hok) ls H1 locs1 hl hP1 hS1
theorem J_alen (C : Cx p s m args meth c cc nL own D tys N ad ret) {q g t0 : Nat} {cA : ClassId} {x : vp_A} {ty : FieldType} (hg : g < N) (hc : cel σ g = .inl (cA, x)) (ht : tys[t0]? = some (cA, ty)) (hdg : decode cc pc = .ok (.arraylength, 1)) (hq : pc + 1 = q) (k : Jd p l e R s m args below meth c D N ad cel ok nL Q q lv (.int (nI x.1) :: rest) σ) : Jd p l e R s m args below meth c D N ad cel ok nL Q pc lv (.ref (ad g) :: rest) σ := by
  subst hq; intro hok ls H locs hl hP hS
  exact va_alen (D := D) C.1 C.2.1 C.2.2.2.2.2.1 hP g t0 (wd_get hg hc) ht rfl hdg (k hok ls H locs hl hP hS)
theorem J_aald (C : Cx p s m args meth c cc nL own D tys N ad ret) {q g t0 n : Nat} {cA : ClassId} {Cn : String} {f : Nat → Nat} {i : Int32} {O : Type} {X : Option O} {out : O} (hg : g < N) (hc : cel σ g = .inl (cA, n, .inr (.inr (.inr (.inr (fun j => some (ad (f j)))))))) (ht : tys[t0]? = some (cA, .object Cn)) (h : ck (inB i n) X = some out) (hdg : decode cc pc = .ok (.aaload, 1)) (hq : pc + 1 = q) (k : inB i n = true → X = some out → Jd p l e R s m args below meth c D N ad cel ok nL Q q lv (.ref (ad (f i.toNatClampNeg)) :: rest) σ) : Jd p l e R s m args below meth c D N ad cel ok nL Q pc lv (.int i :: .ref (ad g) :: rest) σ := by
  subst hq; intro hok ls H locs hl hP hS
  exact va_aldq (D := D) C.1 C.2.1 C.2.2.2.2.2.1 hP g t0 (wd_get hg hc) ht (inB_in (ck_of h).1) hdg (k (ck_of h).1 (ck_of h).2 hok ls H locs hl hP hS)
theorem J_acopy (C : Cx p s m args meth c cc nL own D tys N ad ret) {q g1 g2 t0 t1 n1 n2 index : Nat} {c1 c2 : ClassId} {f1 f2 : Nat → Int32} {sp dp n : Int32} {σ' : Sg} {O : Type} {X : Option O} {out : O} (hl0 : Cond.methodLink own index arraycopyName ∈ WA) (hnat : Cond.native arraycopyName ∈ WA) (hstt : Cond.static arraycopyName ∈ WA) (hini : Cond.initialized "java/lang/System" ∈ WA) (hg1 : g1 < N) (hg2 : g2 < N) (hc1 : cel σ g1 = .inl (c1, n1, .inl f1)) (hc2 : cel σ g2 = .inl (c2, n2, .inl f2)) (ht0 : tys[t0]? = some (c1, .int)) (ht1 : tys[t1]? = some (c2, .int)) (h : ck (!(decide (sp < 0)) && !(decide (dp < 0)) && !(decide (n < 0)) && decide (sp.toNatClampNeg + n.toNatClampNeg ≤ n1) && decide (dp.toNatClampNeg + n.toNatClampNeg ≤ n2)) X = some out) (hc' : cel σ' g2 = .inl (c2, n2, .inl (va_cpy f1 f2 sp.toNatClampNeg dp.toNatClampNeg n.toNatClampNeg))) (hne : ∀ z, z ≠ g2 → cel σ' z = cel σ z) (hok' : ok σ → ok σ') (hf : 1 ≤ R.frames) (hlo : (rest.map fun v => v.category).sum + (nativeFrameWords "java/lang/System" "arraycopy" 5 + 11) ≤ R.locals) (hdg : decode cc pc = .ok (.invokestatic index, 3)) (hq : pc + 3 = q) (k : X = some out → Jd p l e R s m args below meth c D N ad cel ok nL Q q lv rest σ') : Jd p l e R s m args below meth c D N ad cel ok nL Q pc lv (.int n :: .int dp :: .ref (ad g2) :: .int sp :: .ref (ad g1) :: rest) σ := by
  subst hq; intro hok ls H locs hl hP hS
  have hb := (ck_of h).1
  simp only [Bool.and_eq_true, Bool.not_eq_true', decide_eq_false_iff_not, decide_eq_true_eq] at hb
  obtain ⟨⟨⟨⟨b1, b2⟩, b3⟩, b4⟩, b5⟩ := hb
  refine va_copyi (D := D) (ty := .int) C.1 C.2.1 (C.2.2.1.trans hl.1.symm) C.2.2.2.1 (C.2.2.2.2.1 _ hl0) (C.2.2.2.2.1 _ hnat) (C.2.2.2.2.1 _ hstt) (C.2.2.2.2.1 _ hini) C.2.2.2.2.2.1 hP (wd_D C.2.2.2.2.2.2.1) hS g1 g2 t0 t1 (wd_get hg1 hc1) (wd_get hg2 hc2) ht0 ht1 rfl b1 b2 b3 b4 b5 (fun _ _ => rfl) hf hlo hdg (fun H1 locs1 hP1 hD1 hS1 => ?_)
  rw [wd_set hc' hne] at hP1
  exact k (ck_of h).2 (hok' hok) ls H1 locs1 hl hP1 hS1
theorem J_iret (C : Cx p s m args meth c cc nL own D tys N ad (some .int)) {r : Int32} (hdg : decode cc pc = .ok (.ireturn, 1)) : Jd p l e R s m args below meth c D N ad cel ok nL (MQ below (QI D tys N ad cel ok r σ) args s 0 0 (inA N ad)) pc lv [.int r] σ := by
  intro hok ls H locs hl hP hS
  exact W.iret C.1 C.2.1 C.2.2.2.2.2.2.2.1 (fun t ht hW => ⟨⟨r, (), rfl, rfl, ⟨by rw [ht]; exact hP, hok⟩⟩, hS.F ht⟩) hS.2.2 hdg C.2.2.2.2.2.2.2.2.1
theorem J_zret (C : Cx p s m args meth c cc nL own D tys N ad (some .boolean)) {b : Bool} (hdg : decode cc pc = .ok (.ireturn, 1)) : Jd p l e R s m args below meth c D N ad cel ok nL (MQ below (QI D tys N ad cel ok (b2i b) σ) args s 0 0 (inA N ad)) pc lv [.int (b2i b)] σ := by
  intro hok ls H locs hl hP hS
  exact W.zret C.1 C.2.1 C.2.2.2.2.2.2.2.1 (by cases b <;> rfl) (fun t ht hW => ⟨⟨b2i b, (), rfl, rfl, ⟨by rw [ht]; exact hP, hok⟩⟩, hS.F ht⟩) hS.2.2 hdg C.2.2.2.2.2.2.2.2.1
theorem J_lret (C : Cx p s m args meth c cc nL own D tys N ad (some .long)) {r : Int64} (hdg : decode cc pc = .ok (.lreturn, 1)) : Jd p l e R s m args below meth c D N ad cel ok nL (MQ below (QL D tys N ad cel ok r σ) args s 0 0 (inA N ad)) pc lv [.long r] σ := by
  intro hok ls H locs hl hP hS
  exact W.lret C.1 C.2.1 C.2.2.2.2.2.2.2.1 (fun t ht hW => ⟨⟨r, (), rfl, rfl, ⟨by rw [ht]; exact hP, hok⟩⟩, hS.F ht⟩) hS.2.2 hdg C.2.2.2.2.2.2.2.2.1
theorem J_vret (C : Cx p s m args meth c cc nL own D tys N ad (none)) (hdg : decode cc pc = .ok (.return_, 1)) : Jd p l e R s m args below meth c D N ad cel ok nL (MQ below (QV D tys N ad cel ok σ) args s 0 0 (inA N ad)) pc lv [] σ := by
  intro hok ls H locs hl hP hS
  exact W.vret C.1 C.2.1 C.2.2.2.2.2.2.2.1 (fun t ht hW => ⟨⟨(), rfl, trivial, ⟨by rw [ht]; exact hP, hok⟩⟩, hS.F ht⟩) hS.2.2 hdg C.2.2.2.2.2.2.2.2.1
theorem J_aret {rt : String} (C : Cx p s m args meth c cc nL own D tys N ad (some (.object rt))) {r : Option Nat} {v : Value} (hv : v = va_rf (r.map ad)) (hdg : decode cc pc = .ok (.areturn, 1)) : Jd p l e R s m args below meth c D N ad cel ok nL (MQ below (QR D tys N ad cel ok r σ) args s 0 0 (inA N ad)) pc lv [v] σ := by
  intro hok ls H locs hl hP hS
  subst hv
  exact W.aret C.1 C.2.1 C.2.2.2.2.2.2.2.1 (Or.inl ⟨rt, rfl⟩) (va_rf_or _) (fun t ht hW => ⟨⟨r.map ad, (), rfl, rfl, ⟨by rw [ht]; exact hP, hok⟩⟩, hS.F ht⟩) hS.2.2 hdg C.2.2.2.2.2.2.2.2.1
theorem J_callIV (C : Cx p s m args meth c cc nL own D tys N ad ret) {y : MethodName} {cc' : ByteArray} {maxL fr lo n index q : Nat} {ty : FieldType} {av : List Value} {r : Int32} {σ' : Sg} {As : List Value} (hM : MI l D tys N ad cel ok y cc' maxL ty fr lo av σ r σ') (hy : okV y cc' maxL (some ty) n) (hl0 : Cond.methodLink own index y ∈ WA) {Cn : String} {T : u_T} {Nf ci g : Nat} {fs : List Value} (hg : g < N) (hc : cel σ g = .inr (ci, fs)) (hcl : vwCl[ci]? = some (Cn, T, Nf)) (hyc : y.cls = Cn) (hav : av = .ref (ad g) :: As) (hn : As.length = n) {st : List Value} (hst : st = As.reverse ++ (.ref (ad g) :: rest)) (hR : fr + 1 ≤ R.frames ∧ 8 + (maxL + 11) + lo ≤ R.locals) (hW8 : (rest.map fun v => v.category).sum ≤ 8) (hdg : decode cc pc = .ok (.invokevirtual index, 3)) (hq : pc + 3 = q) (k : Jd p l e R s m args below meth c D N ad cel ok nL Q q lv (.int r :: rest) σ') : Jd p l e R s m args below meth c D N ad cel ok nL Q pc lv st σ := by
  subst hq; subst hav; subst hst
  intro hok ls H locs hl hP hS
  obtain ⟨hx, hb, hml, hown, hts, hK, hap, -, -, hNW⟩ := C
  refine va_calli (va_runV (As := As) (rest := rest) ⟨hx, hb, hml, hown, hts⟩ hM ⟨callB_of n hts (gWB hy.1) rfl rfl rfl (hts _ hy.2.2.2.1) (hts _ hl0) hy.2.2.2.2 hR, hts _ hy.2.1, hts _ hy.2.2.1⟩ ⟨fun a U g0 mk z => ⟨z.1, WP_call z.2⟩, hyc ▸ va_recv hK hP (q0 := g) hcl (wd_get hg hc), fun U hU hW => ⟨rfl, by rw [hU]; exact hP, ⟨va_K.moved hW.alike hK, NW_warm hW hNW⟩, hok⟩⟩ rfl hn hl.1 rfl (lv_room hW8) hdg ⟨Nat.zero_le _, Nat.zero_le _⟩) hS (fun _ _ h9 => h9) (fun _ h9 => h9) (fun r1 u t H1 locs1 ht hvm hw hB hz hk1 hS => ?_)
  obtain ⟨hP1, hok1⟩ := hB
  rw [ht] at hP1
  subst hw; exact k hok1 ls H1 locs1 hl hP1 hS
theorem J_callIS (C : Cx p s m args meth c cc nL own D tys N ad ret) {y : MethodName} {cc' : ByteArray} {maxL fr lo n index q : Nat} {ty : FieldType} {av : List Value} {r : Int32} {σ' : Sg} {As : List Value} (hM : MI l D tys N ad cel ok y cc' maxL ty fr lo av σ r σ') (hy : okS y cc' maxL (some ty) n) (hl0 : Cond.methodLink own index y ∈ WA) (hyc : y.cls = own) (hav : av = As) (hn : As.length = n) {st : List Value} (hst : st = As.reverse ++ (rest)) (hR : fr + 1 ≤ R.frames ∧ 8 + (maxL + 11) + lo ≤ R.locals) (hW8 : (rest.map fun v => v.category).sum ≤ 8) (hdg : decode cc pc = .ok (.invokestatic index, 3)) (hq : pc + 3 = q) (k : Jd p l e R s m args below meth c D N ad cel ok nL Q q lv (.int r :: rest) σ') : Jd p l e R s m args below meth c D N ad cel ok nL Q pc lv st σ := by
  subst hq; subst hav; subst hst
  intro hok ls H locs hl hP hS
  obtain ⟨hx, hb, hml, hown, hts, hK, hap, -, -, hNW⟩ := C
  refine va_calli (va_runS (As := av) (rest := rest) ⟨hx, hb, hml, hown, hts⟩ hM ⟨callB_of n hts (gWB hy.1) rfl rfl rfl (hts _ hy.2.2.1) (hts _ hl0) hy.2.2.2 hR, hts _ hy.2.1⟩ ⟨fun a U g0 mk z => ⟨z.1, WP_call z.2⟩, fun U hU hW => ⟨rfl, by rw [hU]; exact hP, ⟨va_K.moved hW.alike hK, NW_warm hW hNW⟩, hok⟩⟩ rfl hn hl.1 rfl (lv_room hW8) hdg ⟨Nat.zero_le _, Nat.zero_le _⟩) hS (fun _ _ h9 => h9) (fun _ h9 => h9) (fun r1 u t H1 locs1 ht hvm hw hB hz hk1 hS => ?_)
  obtain ⟨hP1, hok1⟩ := hB
  rw [ht] at hP1
  subst hw; exact k hok1 ls H1 locs1 hl hP1 hS
theorem J_callISN (C : Cx p s m args meth c cc nL own D tys N ad ret) {y : MethodName} {host : String} {cc' : ByteArray} {maxL fr lo n index q : Nat} {ty : FieldType} {av : List Value} {r : Int32} {σ' : Sg} {As : List Value} (hM : MI l D tys N ad cel ok y cc' maxL ty fr lo av σ r σ') (hy : okS y cc' maxL (some ty) n) (hl0 : va_Nw (.methodLinkNest own index y host) s) (hav : av = As) (hn : As.length = n) {st : List Value} (hst : st = As.reverse ++ rest) (hR : fr + 1 ≤ R.frames ∧ 8 + (maxL + 11) + lo ≤ R.locals) (hW8 : (rest.map fun v => v.category).sum ≤ 8) (hdg : decode cc pc = .ok (.invokestatic index, 3)) (hq : pc + 3 = q) (k : Jd p l e R s m args below meth c D N ad cel ok nL Q q lv (.int r :: rest) σ') : Jd p l e R s m args below meth c D N ad cel ok nL Q pc lv st σ := by
  subst hq; subst hav; subst hst
  intro hok ls H locs hl hP hS
  obtain ⟨hx, hb, hml, hown, hts, hK, hap, -, -, hNW⟩ := C
  refine va_calli (va_runSN (As := av) (rest := rest) ⟨hx, hb, hml, hown, hts⟩ hM ⟨va_cnB n hts (gWB hy.1) rfl rfl rfl hl0 (hts _ hy.2.2.1) hy.2.2.2 hR, hts _ hy.2.1, trivial⟩ ⟨fun a U g0 mk z => ⟨z.1, WP_call z.2⟩, fun U hU hW => ⟨rfl, by rw [hU]; exact hP, ⟨va_K.moved hW.alike hK, NW_warm hW hNW⟩, hok⟩⟩ rfl hn hl.1 rfl (lv_room hW8) hdg ⟨Nat.zero_le _, Nat.zero_le _⟩) hS (fun _ _ h9 => h9) (fun _ h9 => h9) (fun r1 u t H1 locs1 ht hvm hw hB hz hk1 hS => ?_)
  obtain ⟨hP1, hok1⟩ := hB
  rw [ht] at hP1
  subst hw; exact k hok1 ls H1 locs1 hl hP1 hS
theorem J_callLV (C : Cx p s m args meth c cc nL own D tys N ad ret) {y : MethodName} {cc' : ByteArray} {maxL fr lo n index q : Nat} {av : List Value} {r : Int64} {σ' : Sg} {As : List Value} (hM : ML l D tys N ad cel ok y cc' maxL fr lo av σ r σ') (hy : okV y cc' maxL (some .long) n) (hl0 : Cond.methodLink own index y ∈ WA) {Cn : String} {T : u_T} {Nf ci g : Nat} {fs : List Value} (hg : g < N) (hc : cel σ g = .inr (ci, fs)) (hcl : vwCl[ci]? = some (Cn, T, Nf)) (hyc : y.cls = Cn) (hav : av = .ref (ad g) :: As) (hn : As.length = n) {st : List Value} (hst : st = As.reverse ++ (.ref (ad g) :: rest)) (hR : fr + 1 ≤ R.frames ∧ 8 + (maxL + 11) + lo ≤ R.locals) (hW8 : (rest.map fun v => v.category).sum ≤ 8) (hdg : decode cc pc = .ok (.invokevirtual index, 3)) (hq : pc + 3 = q) (k : Jd p l e R s m args below meth c D N ad cel ok nL Q q lv (.long r :: rest) σ') : Jd p l e R s m args below meth c D N ad cel ok nL Q pc lv st σ := by
  subst hq; subst hav; subst hst
  intro hok ls H locs hl hP hS
  obtain ⟨hx, hb, hml, hown, hts, hK, hap, -, -, hNW⟩ := C
  refine va_calll (va_runV (As := As) (rest := rest) ⟨hx, hb, hml, hown, hts⟩ hM ⟨callB_of n hts (gWB hy.1) rfl rfl rfl (hts _ hy.2.2.2.1) (hts _ hl0) hy.2.2.2.2 hR, hts _ hy.2.1, hts _ hy.2.2.1⟩ ⟨fun a U g0 mk z => ⟨z.1, WP_call z.2⟩, hyc ▸ va_recv hK hP (q0 := g) hcl (wd_get hg hc), fun U hU hW => ⟨rfl, by rw [hU]; exact hP, ⟨va_K.moved hW.alike hK, NW_warm hW hNW⟩, hok⟩⟩ rfl hn hl.1 rfl (lv_room hW8) hdg ⟨Nat.zero_le _, Nat.zero_le _⟩) hS (fun _ _ h9 => h9) (fun _ h9 => h9) (fun r1 u t H1 locs1 ht hvm hw hB hz hk1 hS => ?_)
  obtain ⟨hP1, hok1⟩ := hB
  rw [ht] at hP1
  subst hw; exact k hok1 ls H1 locs1 hl hP1 hS
theorem J_callLS (C : Cx p s m args meth c cc nL own D tys N ad ret) {y : MethodName} {cc' : ByteArray} {maxL fr lo n index q : Nat} {av : List Value} {r : Int64} {σ' : Sg} {As : List Value} (hM : ML l D tys N ad cel ok y cc' maxL fr lo av σ r σ') (hy : okS y cc' maxL (some .long) n) (hl0 : Cond.methodLink own index y ∈ WA) (hyc : y.cls = own) (hav : av = As) (hn : As.length = n) {st : List Value} (hst : st = As.reverse ++ (rest)) (hR : fr + 1 ≤ R.frames ∧ 8 + (maxL + 11) + lo ≤ R.locals) (hW8 : (rest.map fun v => v.category).sum ≤ 8) (hdg : decode cc pc = .ok (.invokestatic index, 3)) (hq : pc + 3 = q) (k : Jd p l e R s m args below meth c D N ad cel ok nL Q q lv (.long r :: rest) σ') : Jd p l e R s m args below meth c D N ad cel ok nL Q pc lv st σ := by
  subst hq; subst hav; subst hst
  intro hok ls H locs hl hP hS
  obtain ⟨hx, hb, hml, hown, hts, hK, hap, -, -, hNW⟩ := C
  refine va_calll (va_runS (As := av) (rest := rest) ⟨hx, hb, hml, hown, hts⟩ hM ⟨callB_of n hts (gWB hy.1) rfl rfl rfl (hts _ hy.2.2.1) (hts _ hl0) hy.2.2.2 hR, hts _ hy.2.1⟩ ⟨fun a U g0 mk z => ⟨z.1, WP_call z.2⟩, fun U hU hW => ⟨rfl, by rw [hU]; exact hP, ⟨va_K.moved hW.alike hK, NW_warm hW hNW⟩, hok⟩⟩ rfl hn hl.1 rfl (lv_room hW8) hdg ⟨Nat.zero_le _, Nat.zero_le _⟩) hS (fun _ _ h9 => h9) (fun _ h9 => h9) (fun r1 u t H1 locs1 ht hvm hw hB hz hk1 hS => ?_)
  obtain ⟨hP1, hok1⟩ := hB
  rw [ht] at hP1
  subst hw; exact k hok1 ls H1 locs1 hl hP1 hS
theorem J_callXV (C : Cx p s m args meth c cc nL own D tys N ad ret) {y : MethodName} {cc' : ByteArray} {maxL fr lo n index q : Nat} {av : List Value} {σ' : Sg} {As : List Value} (hM : MV l D tys N ad cel ok y cc' maxL fr lo av σ σ') (hy : okV y cc' maxL none n) (hl0 : Cond.methodLink own index y ∈ WA) {Cn : String} {T : u_T} {Nf ci g : Nat} {fs : List Value} (hg : g < N) (hc : cel σ g = .inr (ci, fs)) (hcl : vwCl[ci]? = some (Cn, T, Nf)) (hyc : y.cls = Cn) (hav : av = .ref (ad g) :: As) (hn : As.length = n) {st : List Value} (hst : st = As.reverse ++ (.ref (ad g) :: rest)) (hR : fr + 1 ≤ R.frames ∧ 8 + (maxL + 11) + lo ≤ R.locals) (hW8 : (rest.map fun v => v.category).sum ≤ 8) (hdg : decode cc pc = .ok (.invokevirtual index, 3)) (hq : pc + 3 = q) (k : Jd p l e R s m args below meth c D N ad cel ok nL Q q lv (rest) σ') : Jd p l e R s m args below meth c D N ad cel ok nL Q pc lv st σ := by
  subst hq; subst hav; subst hst
  intro hok ls H locs hl hP hS
  obtain ⟨hx, hb, hml, hown, hts, hK, hap, -, -, hNW⟩ := C
  refine va_callv (va_runV (As := As) (rest := rest) ⟨hx, hb, hml, hown, hts⟩ hM ⟨callB_of n hts (gWB hy.1) rfl rfl rfl (hts _ hy.2.2.2.1) (hts _ hl0) hy.2.2.2.2 hR, hts _ hy.2.1, hts _ hy.2.2.1⟩ ⟨fun a U g0 mk z => ⟨z.1, WP_call z.2⟩, hyc ▸ va_recv hK hP (q0 := g) hcl (wd_get hg hc), fun U hU hW => ⟨rfl, by rw [hU]; exact hP, ⟨va_K.moved hW.alike hK, NW_warm hW hNW⟩, hok⟩⟩ rfl hn hl.1 rfl (lv_room hW8) hdg ⟨Nat.zero_le _, Nat.zero_le _⟩) hS (fun _ _ h9 => h9) (fun _ h9 => h9) (fun u t H1 locs1 ht hvm hw hB hz hk1 hS => ?_)
  obtain ⟨hP1, hok1⟩ := hB
  rw [ht] at hP1
  exact k hok1 ls H1 locs1 hl hP1 hS
theorem J_callXS (C : Cx p s m args meth c cc nL own D tys N ad ret) {y : MethodName} {cc' : ByteArray} {maxL fr lo n index q : Nat} {av : List Value} {σ' : Sg} {As : List Value} (hM : MV l D tys N ad cel ok y cc' maxL fr lo av σ σ') (hy : okS y cc' maxL none n) (hl0 : Cond.methodLink own index y ∈ WA) (hyc : y.cls = own) (hav : av = As) (hn : As.length = n) {st : List Value} (hst : st = As.reverse ++ (rest)) (hR : fr + 1 ≤ R.frames ∧ 8 + (maxL + 11) + lo ≤ R.locals) (hW8 : (rest.map fun v => v.category).sum ≤ 8) (hdg : decode cc pc = .ok (.invokestatic index, 3)) (hq : pc + 3 = q) (k : Jd p l e R s m args below meth c D N ad cel ok nL Q q lv (rest) σ') : Jd p l e R s m args below meth c D N ad cel ok nL Q pc lv st σ := by
  subst hq; subst hav; subst hst
  intro hok ls H locs hl hP hS
  obtain ⟨hx, hb, hml, hown, hts, hK, hap, -, -, hNW⟩ := C
  refine va_callv (va_runS (As := av) (rest := rest) ⟨hx, hb, hml, hown, hts⟩ hM ⟨callB_of n hts (gWB hy.1) rfl rfl rfl (hts _ hy.2.2.1) (hts _ hl0) hy.2.2.2 hR, hts _ hy.2.1⟩ ⟨fun a U g0 mk z => ⟨z.1, WP_call z.2⟩, fun U hU hW => ⟨rfl, by rw [hU]; exact hP, ⟨va_K.moved hW.alike hK, NW_warm hW hNW⟩, hok⟩⟩ rfl hn hl.1 rfl (lv_room hW8) hdg ⟨Nat.zero_le _, Nat.zero_le _⟩) hS (fun _ _ h9 => h9) (fun _ h9 => h9) (fun u t H1 locs1 ht hvm hw hB hz hk1 hS => ?_)
  obtain ⟨hP1, hok1⟩ := hB
  rw [ht] at hP1
  exact k hok1 ls H1 locs1 hl hP1 hS
theorem J_callRV (C : Cx p s m args meth c cc nL own D tys N ad ret) {y : MethodName} {cc' : ByteArray} {maxL fr lo n index q : Nat} {ty : FieldType} {av : List Value} {r : Option Nat} {σ' : Sg} {As : List Value} (hM : MR l D tys N ad cel ok y cc' maxL ty fr lo av σ r σ') (hy : okV y cc' maxL (some ty) n) (hl0 : Cond.methodLink own index y ∈ WA) {Cn : String} {T : u_T} {Nf ci g : Nat} {fs : List Value} (hg : g < N) (hc : cel σ g = .inr (ci, fs)) (hcl : vwCl[ci]? = some (Cn, T, Nf)) (hyc : y.cls = Cn) (hav : av = .ref (ad g) :: As) (hn : As.length = n) {st : List Value} (hst : st = As.reverse ++ (.ref (ad g) :: rest)) (hR : fr + 1 ≤ R.frames ∧ 8 + (maxL + 11) + lo ≤ R.locals) (hW8 : (rest.map fun v => v.category).sum ≤ 8) (hdg : decode cc pc = .ok (.invokevirtual index, 3)) (hq : pc + 3 = q) (k : Jd p l e R s m args below meth c D N ad cel ok nL Q q lv (va_rf (r.map ad) :: rest) σ') : Jd p l e R s m args below meth c D N ad cel ok nL Q pc lv st σ := by
  subst hq; subst hav; subst hst
  intro hok ls H locs hl hP hS
  obtain ⟨hx, hb, hml, hown, hts, hK, hap, -, -, hNW⟩ := C
  refine va_callq (va_runV (As := As) (rest := rest) ⟨hx, hb, hml, hown, hts⟩ hM ⟨callB_of n hts (gWB hy.1) rfl rfl rfl (hts _ hy.2.2.2.1) (hts _ hl0) hy.2.2.2.2 hR, hts _ hy.2.1, hts _ hy.2.2.1⟩ ⟨fun a U g0 mk z => ⟨z.1, WP_call z.2⟩, hyc ▸ va_recv hK hP (q0 := g) hcl (wd_get hg hc), fun U hU hW => ⟨rfl, by rw [hU]; exact hP, ⟨va_K.moved hW.alike hK, NW_warm hW hNW⟩, hok⟩⟩ rfl hn hl.1 rfl (lv_room hW8) hdg ⟨Nat.zero_le _, Nat.zero_le _⟩) hS (fun _ _ h9 => h9) (fun _ h9 => h9) (fun r1 u t H1 locs1 ht hvm hw hB hz hk1 hS => ?_)
  obtain ⟨hP1, hok1⟩ := hB
  rw [ht] at hP1
  subst hw; exact k hok1 ls H1 locs1 hl hP1 hS
theorem J_callRS (C : Cx p s m args meth c cc nL own D tys N ad ret) {y : MethodName} {cc' : ByteArray} {maxL fr lo n index q : Nat} {ty : FieldType} {av : List Value} {r : Option Nat} {σ' : Sg} {As : List Value} (hM : MR l D tys N ad cel ok y cc' maxL ty fr lo av σ r σ') (hy : okS y cc' maxL (some ty) n) (hl0 : Cond.methodLink own index y ∈ WA) (hyc : y.cls = own) (hav : av = As) (hn : As.length = n) {st : List Value} (hst : st = As.reverse ++ (rest)) (hR : fr + 1 ≤ R.frames ∧ 8 + (maxL + 11) + lo ≤ R.locals) (hW8 : (rest.map fun v => v.category).sum ≤ 8) (hdg : decode cc pc = .ok (.invokestatic index, 3)) (hq : pc + 3 = q) (k : Jd p l e R s m args below meth c D N ad cel ok nL Q q lv (va_rf (r.map ad) :: rest) σ') : Jd p l e R s m args below meth c D N ad cel ok nL Q pc lv st σ := by
  subst hq; subst hav; subst hst
  intro hok ls H locs hl hP hS
  obtain ⟨hx, hb, hml, hown, hts, hK, hap, -, -, hNW⟩ := C
  refine va_callq (va_runS (As := av) (rest := rest) ⟨hx, hb, hml, hown, hts⟩ hM ⟨callB_of n hts (gWB hy.1) rfl rfl rfl (hts _ hy.2.2.1) (hts _ hl0) hy.2.2.2 hR, hts _ hy.2.1⟩ ⟨fun a U g0 mk z => ⟨z.1, WP_call z.2⟩, fun U hU hW => ⟨rfl, by rw [hU]; exact hP, ⟨va_K.moved hW.alike hK, NW_warm hW hNW⟩, hok⟩⟩ rfl hn hl.1 rfl (lv_room hW8) hdg ⟨Nat.zero_le _, Nat.zero_le _⟩) hS (fun _ _ h9 => h9) (fun _ h9 => h9) (fun r1 u t H1 locs1 ht hvm hw hB hz hk1 hS => ?_)
  obtain ⟨hP1, hok1⟩ := hB
  rw [ht] at hP1
  subst hw; exact k hok1 ls H1 locs1 hl hP1 hS
end JJ
theorem entI {l : Launch} {D : va_G} {tys : List (ClassId × FieldType)} {N : Nat} {ad : Nat → Nat} {cel : Sg → Nat → va_E} {ok : Sg → Prop} {y : MethodName} {cc : ByteArray} {maxL : Nat} {ty : FieldType} {fr lo : Nat} {av : List Value} {σ σ' : Sg} {r : Int32} (own : String) (hap : apN N ad) (hy : plainName y.cls = true) (hcl : y.cls = own) (hlen : (lg_sl av).length ≤ maxL) (K : ∀ (p : Program) (e : Env) (s : State) (m : MethodId) (args : Array Value) (below : List Frame) (meth : Method) (c : Code), Cx p s m args meth c cc maxL own D tys N ad (some ty) → Jd p l e (rmF fr lo) s m args below meth c D N ad cel ok maxL (MQ below (QI D tys N ad cel ok r σ') args s 0 0 (inA N ad)) 0 (lv_args 0 av) [] σ) : MI l D tys N ad cel ok y cc maxL ty fr lo av σ r σ' := by
  refine Met.ofW (cc := cc) (maxL := maxL) (ret := (some ty)) hy rfl ?_
  intro p e s m args below meth c s₁ B hml hv
  obtain ⟨rfl, hP, ⟨hK, hNW⟩, hok⟩ := hv
  have hts := atoms_spec B.pre
  subst hcl
  rw [lg_entry_eq]
  exact K p e s m _ below meth c ⟨B.exec, B.bytes, hml, findClass_of_methodNamed B.named, fun w hw => hts w (List.mem_cons_of_mem _ hw), hK, hap, B.returns, B.notSynchronized, hNW⟩ hok _ _ _ (lv_entry av hlen) hP va_S.rf
theorem entL {l : Launch} {D : va_G} {tys : List (ClassId × FieldType)} {N : Nat} {ad : Nat → Nat} {cel : Sg → Nat → va_E} {ok : Sg → Prop} {y : MethodName} {cc : ByteArray} {maxL : Nat} {fr lo : Nat} {av : List Value} {σ σ' : Sg} {r : Int64} (own : String) (hap : apN N ad) (hy : plainName y.cls = true) (hcl : y.cls = own) (hlen : (lg_sl av).length ≤ maxL) (K : ∀ (p : Program) (e : Env) (s : State) (m : MethodId) (args : Array Value) (below : List Frame) (meth : Method) (c : Code), Cx p s m args meth c cc maxL own D tys N ad (some .long) → Jd p l e (rmF fr lo) s m args below meth c D N ad cel ok maxL (MQ below (QL D tys N ad cel ok r σ') args s 0 0 (inA N ad)) 0 (lv_args 0 av) [] σ) : ML l D tys N ad cel ok y cc maxL fr lo av σ r σ' := by
  refine Met.ofW (cc := cc) (maxL := maxL) (ret := (some .long)) hy rfl ?_
  intro p e s m args below meth c s₁ B hml hv
  obtain ⟨rfl, hP, ⟨hK, hNW⟩, hok⟩ := hv
  have hts := atoms_spec B.pre
  subst hcl
  rw [lg_entry_eq]
  exact K p e s m _ below meth c ⟨B.exec, B.bytes, hml, findClass_of_methodNamed B.named, fun w hw => hts w (List.mem_cons_of_mem _ hw), hK, hap, B.returns, B.notSynchronized, hNW⟩ hok _ _ _ (lv_entry av hlen) hP va_S.rf
theorem entV {l : Launch} {D : va_G} {tys : List (ClassId × FieldType)} {N : Nat} {ad : Nat → Nat} {cel : Sg → Nat → va_E} {ok : Sg → Prop} {y : MethodName} {cc : ByteArray} {maxL : Nat} {fr lo : Nat} {av : List Value} {σ σ' : Sg}  (own : String) (hap : apN N ad) (hy : plainName y.cls = true) (hcl : y.cls = own) (hlen : (lg_sl av).length ≤ maxL) (K : ∀ (p : Program) (e : Env) (s : State) (m : MethodId) (args : Array Value) (below : List Frame) (meth : Method) (c : Code), Cx p s m args meth c cc maxL own D tys N ad none → Jd p l e (rmF fr lo) s m args below meth c D N ad cel ok maxL (MQ below (QV D tys N ad cel ok σ') args s 0 0 (inA N ad)) 0 (lv_args 0 av) [] σ) : MV l D tys N ad cel ok y cc maxL fr lo av σ σ' := by
  refine Met.ofW (cc := cc) (maxL := maxL) (ret := none) hy rfl ?_
  intro p e s m args below meth c s₁ B hml hv
  obtain ⟨rfl, hP, ⟨hK, hNW⟩, hok⟩ := hv
  have hts := atoms_spec B.pre
  subst hcl
  rw [lg_entry_eq]
  exact K p e s m _ below meth c ⟨B.exec, B.bytes, hml, findClass_of_methodNamed B.named, fun w hw => hts w (List.mem_cons_of_mem _ hw), hK, hap, B.returns, B.notSynchronized, hNW⟩ hok _ _ _ (lv_entry av hlen) hP va_S.rf
theorem entR {l : Launch} {D : va_G} {tys : List (ClassId × FieldType)} {N : Nat} {ad : Nat → Nat} {cel : Sg → Nat → va_E} {ok : Sg → Prop} {y : MethodName} {cc : ByteArray} {maxL : Nat} {ty : FieldType} {fr lo : Nat} {av : List Value} {σ σ' : Sg} {r : Option Nat} (own : String) (hap : apN N ad) (hy : plainName y.cls = true) (hcl : y.cls = own) (hlen : (lg_sl av).length ≤ maxL) (K : ∀ (p : Program) (e : Env) (s : State) (m : MethodId) (args : Array Value) (below : List Frame) (meth : Method) (c : Code), Cx p s m args meth c cc maxL own D tys N ad (some ty) → Jd p l e (rmF fr lo) s m args below meth c D N ad cel ok maxL (MQ below (QR D tys N ad cel ok r σ') args s 0 0 (inA N ad)) 0 (lv_args 0 av) [] σ) : MR l D tys N ad cel ok y cc maxL ty fr lo av σ r σ' := by
  refine Met.ofW (cc := cc) (maxL := maxL) (ret := (some ty)) hy rfl ?_
  intro p e s m args below meth c s₁ B hml hv
  obtain ⟨rfl, hP, ⟨hK, hNW⟩, hok⟩ := hv
  have hts := atoms_spec B.pre
  subst hcl
  rw [lg_entry_eq]
  exact K p e s m _ below meth c ⟨B.exec, B.bytes, hml, findClass_of_methodNamed B.named, fun w hw => hts w (List.mem_cons_of_mem _ hw), hK, hap, B.returns, B.notSynchronized, hNW⟩ hok _ _ _ (lv_entry av hlen) hP va_S.rf
end
