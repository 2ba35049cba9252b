section
-- ===== PART A: goes FIRST, ahead of the names: the tables' words, and 'selects' of the private methods out of them =====
/-- a private method of a class that the tables say can be made, by its rows of tables_1 -/
def lw_okq (q : MethodName × Nat) : Prop := (q.1.cls ≠ "java/lang/invoke/MethodHandle" ∧ q.1.cls ≠ "java/lang/invoke/VarHandle") ∧ Cond.instantiable q.1.cls q.2 ∈ tables_1 ∧ Cond.privateMethod q.1 ∈ tables_1 ∧ Cond.instanceMethod q.1 ∈ tables_1
theorem lw_p0 : lw_okq (⟨"WokenYears", "found", "(I)I"⟩, 12) := ⟨⟨by decide +kernel, by decide +kernel⟩, List.mem_of_getElem? (i := 11) (by decide +kernel), List.mem_of_getElem? (i := 208) (by decide +kernel), List.mem_of_getElem? (i := 209) (by decide +kernel)⟩
theorem lw_p1 : lw_okq (⟨"WokenYears", "refusedAt", "(LWokenYears$Ints;I)I"⟩, 12) := ⟨⟨by decide +kernel, by decide +kernel⟩, List.mem_of_getElem? (i := 11) (by decide +kernel), List.mem_of_getElem? (i := 224) (by decide +kernel), List.mem_of_getElem? (i := 225) (by decide +kernel)⟩
theorem lw_p2 : lw_okq (⟨"WokenYears", "refused", "(LWokenYears$Ints;)I"⟩, 12) := ⟨⟨by decide +kernel, by decide +kernel⟩, List.mem_of_getElem? (i := 11) (by decide +kernel), List.mem_of_getElem? (i := 228) (by decide +kernel), List.mem_of_getElem? (i := 229) (by decide +kernel)⟩
theorem lw_p3 : lw_okq (⟨"WokenYears", "isFull", "(I)Z"⟩, 12) := ⟨⟨by decide +kernel, by decide +kernel⟩, List.mem_of_getElem? (i := 11) (by decide +kernel), List.mem_of_getElem? (i := 277) (by decide +kernel), List.mem_of_getElem? (i := 278) (by decide +kernel)⟩
theorem lw_p4 : lw_okq (⟨"WokenYears$Street", "perform", "(I)V"⟩, 15) := ⟨⟨by decide +kernel, by decide +kernel⟩, List.mem_of_getElem? (i := 88) (by decide +kernel), List.mem_of_getElem? (i := 289) (by decide +kernel), List.mem_of_getElem? (i := 290) (by decide +kernel)⟩
theorem lw_p5 : lw_okq (⟨"WokenYears$Street", "hear", "(I)V"⟩, 15) := ⟨⟨by decide +kernel, by decide +kernel⟩, List.mem_of_getElem? (i := 88) (by decide +kernel), List.mem_of_getElem? (i := 296) (by decide +kernel), List.mem_of_getElem? (i := 297) (by decide +kernel)⟩
theorem lw_p6 : lw_okq (⟨"WokenYears$Street", "sleep", "()V"⟩, 15) := ⟨⟨by decide +kernel, by decide +kernel⟩, List.mem_of_getElem? (i := 88) (by decide +kernel), List.mem_of_getElem? (i := 309) (by decide +kernel), List.mem_of_getElem? (i := 310) (by decide +kernel)⟩
theorem lw_p7 : lw_okq (⟨"WokenYears$Rounds", "start", "(LWokenYears$Street;)V"⟩, 6) := ⟨⟨by decide +kernel, by decide +kernel⟩, List.mem_of_getElem? (i := 60) (by decide +kernel), List.mem_of_getElem? (i := 405) (by decide +kernel), List.mem_of_getElem? (i := 406) (by decide +kernel)⟩
theorem lw_p8 : lw_okq (⟨"WokenYears$Rounds", "endAt", "(III)I"⟩, 6) := ⟨⟨by decide +kernel, by decide +kernel⟩, List.mem_of_getElem? (i := 60) (by decide +kernel), List.mem_of_getElem? (i := 433) (by decide +kernel), List.mem_of_getElem? (i := 434) (by decide +kernel)⟩
theorem lw_p9 : lw_okq (⟨"WokenYears", "refusedPairs", "(LWokenYears$Ints;)I"⟩, 12) := ⟨⟨by decide +kernel, by decide +kernel⟩, List.mem_of_getElem? (i := 11) (by decide +kernel), List.mem_of_getElem? (i := 450) (by decide +kernel), List.mem_of_getElem? (i := 451) (by decide +kernel)⟩
theorem lw_p10 : lw_okq (⟨"WokenYears", "canBe", "(ILWokenYears$Ints;)Z"⟩, 12) := ⟨⟨by decide +kernel, by decide +kernel⟩, List.mem_of_getElem? (i := 11) (by decide +kernel), List.mem_of_getElem? (i := 454) (by decide +kernel), List.mem_of_getElem? (i := 455) (by decide +kernel)⟩
theorem lw_p11 : lw_okq (⟨"WokenYears", "kindsBy", "(LWokenYears$Ints;)I"⟩, 12) := ⟨⟨by decide +kernel, by decide +kernel⟩, List.mem_of_getElem? (i := 11) (by decide +kernel), List.mem_of_getElem? (i := 466) (by decide +kernel), List.mem_of_getElem? (i := 467) (by decide +kernel)⟩
theorem lw_p12 : lw_okq (⟨"WokenYears", "greatestPart", "(II)I"⟩, 12) := ⟨⟨by decide +kernel, by decide +kernel⟩, List.mem_of_getElem? (i := 11) (by decide +kernel), List.mem_of_getElem? (i := 474) (by decide +kernel), List.mem_of_getElem? (i := 475) (by decide +kernel)⟩
theorem lw_p13 : lw_okq (⟨"WokenYears", "partOf", "(III)I"⟩, 12) := ⟨⟨by decide +kernel, by decide +kernel⟩, List.mem_of_getElem? (i := 11) (by decide +kernel), List.mem_of_getElem? (i := 479) (by decide +kernel), List.mem_of_getElem? (i := 480) (by decide +kernel)⟩
theorem lw_p14 : lw_okq (⟨"WokenYears", "tellRatio", "(JJ)V"⟩, 12) := ⟨⟨by decide +kernel, by decide +kernel⟩, List.mem_of_getElem? (i := 11) (by decide +kernel), List.mem_of_getElem? (i := 491) (by decide +kernel), List.mem_of_getElem? (i := 492) (by decide +kernel)⟩
theorem lw_p15 : lw_okq (⟨"WokenYears", "isTry", "(III)Z"⟩, 12) := ⟨⟨by decide +kernel, by decide +kernel⟩, List.mem_of_getElem? (i := 11) (by decide +kernel), List.mem_of_getElem? (i := 514) (by decide +kernel), List.mem_of_getElem? (i := 515) (by decide +kernel)⟩
def lw_privs_1 : List (MethodName × Nat) := [(⟨"WokenYears", "found", "(I)I"⟩, 12), (⟨"WokenYears", "refusedAt", "(LWokenYears$Ints;I)I"⟩, 12), (⟨"WokenYears", "refused", "(LWokenYears$Ints;)I"⟩, 12), (⟨"WokenYears", "isFull", "(I)Z"⟩, 12), (⟨"WokenYears$Street", "perform", "(I)V"⟩, 15), (⟨"WokenYears$Street", "hear", "(I)V"⟩, 15), (⟨"WokenYears$Street", "sleep", "()V"⟩, 15), (⟨"WokenYears$Rounds", "start", "(LWokenYears$Street;)V"⟩, 6), (⟨"WokenYears$Rounds", "endAt", "(III)I"⟩, 6), (⟨"WokenYears", "refusedPairs", "(LWokenYears$Ints;)I"⟩, 12), (⟨"WokenYears", "canBe", "(ILWokenYears$Ints;)Z"⟩, 12), (⟨"WokenYears", "kindsBy", "(LWokenYears$Ints;)I"⟩, 12), (⟨"WokenYears", "greatestPart", "(II)I"⟩, 12), (⟨"WokenYears", "partOf", "(III)I"⟩, 12), (⟨"WokenYears", "tellRatio", "(JJ)V"⟩, 12), (⟨"WokenYears", "isTry", "(III)Z"⟩, 12)]
theorem lw_r1 : ∀ q ∈ lw_privs_1, lw_okq q := List.forall_mem_cons.mpr ⟨lw_p0, List.forall_mem_cons.mpr ⟨lw_p1, List.forall_mem_cons.mpr ⟨lw_p2, List.forall_mem_cons.mpr ⟨lw_p3, List.forall_mem_cons.mpr ⟨lw_p4, List.forall_mem_cons.mpr ⟨lw_p5, List.forall_mem_cons.mpr ⟨lw_p6, List.forall_mem_cons.mpr ⟨lw_p7, List.forall_mem_cons.mpr ⟨lw_p8, List.forall_mem_cons.mpr ⟨lw_p9, List.forall_mem_cons.mpr ⟨lw_p10, List.forall_mem_cons.mpr ⟨lw_p11, List.forall_mem_cons.mpr ⟨lw_p12, List.forall_mem_cons.mpr ⟨lw_p13, List.forall_mem_cons.mpr ⟨lw_p14, List.forall_mem_cons.mpr ⟨lw_p15, fun _ h => absurd h List.not_mem_nil⟩⟩⟩⟩⟩⟩⟩⟩⟩⟩⟩⟩⟩⟩⟩⟩
theorem lw_p16 : lw_okq (⟨"WokenYears$Reader", "skipBlanks", "()V"⟩, 3) := ⟨⟨by decide +kernel, by decide +kernel⟩, List.mem_of_getElem? (i := 44) (by decide +kernel), List.mem_of_getElem? (i := 594) (by decide +kernel), List.mem_of_getElem? (i := 595) (by decide +kernel)⟩
theorem lw_p17 : lw_okq (⟨"WokenYears$Reader", "sign", "()I"⟩, 3) := ⟨⟨by decide +kernel, by decide +kernel⟩, List.mem_of_getElem? (i := 44) (by decide +kernel), List.mem_of_getElem? (i := 598) (by decide +kernel), List.mem_of_getElem? (i := 599) (by decide +kernel)⟩
theorem lw_p18 : lw_okq (⟨"WokenYears$Reader", "letter", "(I)V"⟩, 3) := ⟨⟨by decide +kernel, by decide +kernel⟩, List.mem_of_getElem? (i := 44) (by decide +kernel), List.mem_of_getElem? (i := 603) (by decide +kernel), List.mem_of_getElem? (i := 604) (by decide +kernel)⟩
theorem lw_p19 : lw_okq (⟨"WokenYears$Reader", "figure", "(I)I"⟩, 3) := ⟨⟨by decide +kernel, by decide +kernel⟩, List.mem_of_getElem? (i := 44) (by decide +kernel), List.mem_of_getElem? (i := 607) (by decide +kernel), List.mem_of_getElem? (i := 608) (by decide +kernel)⟩
theorem lw_p20 : lw_okq (⟨"WokenYears$Reader", "twoFigures", "()I"⟩, 3) := ⟨⟨by decide +kernel, by decide +kernel⟩, List.mem_of_getElem? (i := 44) (by decide +kernel), List.mem_of_getElem? (i := 611) (by decide +kernel), List.mem_of_getElem? (i := 612) (by decide +kernel)⟩
theorem lw_p21 : lw_okq (⟨"WokenYears$Reader", "readHouse", "(LWokenYears$Street;)V"⟩, 3) := ⟨⟨by decide +kernel, by decide +kernel⟩, List.mem_of_getElem? (i := 44) (by decide +kernel), List.mem_of_getElem? (i := 619) (by decide +kernel), List.mem_of_getElem? (i := 620) (by decide +kernel)⟩
def lw_privs_2 : List (MethodName × Nat) := [(⟨"WokenYears$Reader", "skipBlanks", "()V"⟩, 3), (⟨"WokenYears$Reader", "sign", "()I"⟩, 3), (⟨"WokenYears$Reader", "letter", "(I)V"⟩, 3), (⟨"WokenYears$Reader", "figure", "(I)I"⟩, 3), (⟨"WokenYears$Reader", "twoFigures", "()I"⟩, 3), (⟨"WokenYears$Reader", "readHouse", "(LWokenYears$Street;)V"⟩, 3)]
theorem lw_r2 : ∀ q ∈ lw_privs_2, lw_okq q := List.forall_mem_cons.mpr ⟨lw_p16, List.forall_mem_cons.mpr ⟨lw_p17, List.forall_mem_cons.mpr ⟨lw_p18, List.forall_mem_cons.mpr ⟨lw_p19, List.forall_mem_cons.mpr ⟨lw_p20, List.forall_mem_cons.mpr ⟨lw_p21, fun _ h => absurd h List.not_mem_nil⟩⟩⟩⟩⟩⟩
def lw_privs : List (MethodName × Nat) := lw_privs_1 ++ (lw_privs_2)
def lw_tbl : List Cond := k2_sels lw_privs ++ tables_1
theorem lw_privs_ok : ∀ q ∈ lw_privs, lw_okq q := by
  show ∀ q ∈ lw_privs_1 ++ (lw_privs_2), lw_okq q
  exact List.forall_mem_append.mpr ⟨lw_r1, lw_r2⟩
-- ===== end of PART A; then your names; then what follows =====
end
section
/-! ===== BEGIN printed: names, fields, word lists, decode rows ===== -/
def RX0 : String := "WokenYears$Ints"
def TX0 : u_T := fun k => match k with
  | 0 => ("WokenYears$Ints", "cells", "[I", true)
  | _ => ("WokenYears$Ints", "size", "I", false)
def tyX0 : Nat → FieldType := fun k => match k with
  | 0 => .array .int
  | _ => .int
abbrev wsX00 : List Cond := u_ws RX0 TX0 2
theorem nmX0 : ∀ a, a < 2 → ∀ b, b < 2 → a ≠ b → (TX0 a).2.1 ≠ (TX0 b).2.1 := by decide +kernel
theorem tyX0_ok : ∀ k, k < 2 → parseFieldDescriptor (TX0 k).2.2.1 = some (tyX0 k) := by decide +kernel
abbrev cX0_init : ByteArray := prog_2_method_1_code
def yX0_init : MethodName := ⟨RX0, "<init>", "(I)V"⟩
abbrev cX0_has : ByteArray := prog_2_method_2_code
def yX0_has : MethodName := ⟨RX0, "has", "(I)Z"⟩
abbrev cX0_get : ByteArray := prog_2_method_3_code
def yX0_get : MethodName := ⟨RX0, "get", "(I)I"⟩
abbrev cX0_set : ByteArray := prog_2_method_4_code
def yX0_set : MethodName := ⟨RX0, "set", "(II)V"⟩
abbrev cX0_fill : ByteArray := prog_2_method_5_code
def yX0_fill : MethodName := ⟨RX0, "fill", "(II)V"⟩
abbrev cX0_add : ByteArray := prog_2_method_6_code
def yX0_add : MethodName := ⟨RX0, "add", "(I)V"⟩
abbrev cX0_cut : ByteArray := prog_2_method_7_code
def yX0_cut : MethodName := ⟨RX0, "cut", "(I)V"⟩
abbrev cX0_drop : ByteArray := prog_2_method_8_code
def yX0_drop : MethodName := ⟨RX0, "drop", "()V"⟩
abbrev cX0_spans : ByteArray := prog_2_method_9_code
def yX0_spans : MethodName := ⟨RX0, "spans", "(II)Z"⟩
abbrev cX0_copyOut : ByteArray := prog_2_method_10_code
def yX0_copyOut : MethodName := ⟨RX0, "copyOut", "(ILWokenYears$Ints;II)V"⟩
abbrev cX0_takeFrom : ByteArray := prog_2_method_11_code
def yX0_takeFrom : MethodName := ⟨RX0, "takeFrom", "(LWokenYears$Ints;)V"⟩
def RX1 : String := "WokenYears$Kinds"
def TX1 : u_T := fun k => match k with
  | _ => ("", "", "", false)
def tyX1 : Nat → FieldType := fun k => match k with
  | _ => .int
abbrev wsX10 : List Cond := u_ws RX1 TX1 0
theorem nmX1 : ∀ a, a < 0 → ∀ b, b < 0 → a ≠ b → (TX1 a).2.1 ≠ (TX1 b).2.1 := by decide +kernel
theorem tyX1_ok : ∀ k, k < 0 → parseFieldDescriptor (TX1 k).2.2.1 = some (tyX1 k) := by decide +kernel
abbrev cX1_byLetter : ByteArray := prog_3_method_2_code
def yX1_byLetter : MethodName := ⟨RX1, "byLetter", "(I)I"⟩
abbrev cX1_isOf : ByteArray := prog_3_method_3_code
def yX1_isOf : MethodName := ⟨RX1, "isOf", "(II)Z"⟩
abbrev cX1_taps : ByteArray := prog_3_method_4_code
def yX1_taps : MethodName := ⟨RX1, "taps", "(III)I"⟩
abbrev cX1_fee : ByteArray := prog_3_method_5_code
def yX1_fee : MethodName := ⟨RX1, "fee", "(I)I"⟩
def RX2 : String := "WokenYears$Reader"
def TX2 : u_T := fun k => match k with
  | 0 => ("WokenYears$Reader", "text", "LWokenYears$Ints;", false)
  | 1 => ("WokenYears$Reader", "place", "I", false)
  | _ => ("WokenYears$Reader", "good", "Z", false)
def tyX2 : Nat → FieldType := fun k => match k with
  | 0 => .object "WokenYears$Ints"
  | 1 => .int
  | _ => .boolean
abbrev wsX20 : List Cond := u_ws RX2 TX2 3
theorem nmX2 : ∀ a, a < 3 → ∀ b, b < 3 → a ≠ b → (TX2 a).2.1 ≠ (TX2 b).2.1 := by decide +kernel
theorem tyX2_ok : ∀ k, k < 3 → parseFieldDescriptor (TX2 k).2.2.1 = some (tyX2 k) := by decide +kernel
abbrev cX2_init : ByteArray := prog_4_method_1_code
def yX2_init : MethodName := ⟨RX2, "<init>", "()V"⟩
abbrev cX2_read : ByteArray := prog_4_method_2_code
def yX2_read : MethodName := ⟨RX2, "read", "(LWokenYears$Ints;LWokenYears$Street;)I"⟩
abbrev cX2_readHouse : ByteArray := prog_4_method_3_code
def yX2_readHouse : MethodName := ⟨RX2, "readHouse", "(LWokenYears$Street;)V"⟩
abbrev cX2_sign : ByteArray := prog_4_method_4_code
def yX2_sign : MethodName := ⟨RX2, "sign", "()I"⟩
abbrev cX2_skipBlanks : ByteArray := prog_4_method_5_code
def yX2_skipBlanks : MethodName := ⟨RX2, "skipBlanks", "()V"⟩
abbrev cX2_letter : ByteArray := prog_4_method_6_code
def yX2_letter : MethodName := ⟨RX2, "letter", "(I)V"⟩
abbrev cX2_figure : ByteArray := prog_4_method_7_code
def yX2_figure : MethodName := ⟨RX2, "figure", "(I)I"⟩
abbrev cX2_twoFigures : ByteArray := prog_4_method_8_code
def yX2_twoFigures : MethodName := ⟨RX2, "twoFigures", "()I"⟩
def RX3 : String := "WokenYears$Rounds"
def TX3 : u_T := fun k => match k with
  | 0 => ("WokenYears$Rounds", "ends", "LWokenYears$Ints;", true)
  | 1 => ("WokenYears$Rounds", "order", "LWokenYears$Ints;", true)
  | 2 => ("WokenYears$Rounds", "more", "LWokenYears$Ints;", true)
  | 3 => ("WokenYears$Rounds", "spare", "LWokenYears$Ints;", true)
  | 4 => ("WokenYears$Rounds", "best", "LWokenYears$Ints;", true)
  | _ => ("WokenYears$Rounds", "bestWalked", "I", false)
def tyX3 : Nat → FieldType := fun k => match k with
  | 0 => .object "WokenYears$Ints"
  | 1 => .object "WokenYears$Ints"
  | 2 => .object "WokenYears$Ints"
  | 3 => .object "WokenYears$Ints"
  | 4 => .object "WokenYears$Ints"
  | _ => .int
abbrev wsX30 : List Cond := u_ws RX3 TX3 6
theorem nmX3 : ∀ a, a < 6 → ∀ b, b < 6 → a ≠ b → (TX3 a).2.1 ≠ (TX3 b).2.1 := by decide +kernel
theorem tyX3_ok : ∀ k, k < 6 → parseFieldDescriptor (TX3 k).2.2.1 = some (tyX3 k) := by decide +kernel
abbrev cX3_init : ByteArray := prog_5_method_1_code
def yX3_init : MethodName := ⟨RX3, "<init>", "()V"⟩
abbrev cX3_start : ByteArray := prog_5_method_2_code
def yX3_start : MethodName := ⟨RX3, "start", "(LWokenYears$Street;)V"⟩
abbrev cX3_walkOver : ByteArray := prog_5_method_3_code
def yX3_walkOver : MethodName := ⟨RX3, "walkOver", "(II)I"⟩
abbrev cX3_fewest : ByteArray := prog_5_method_4_code
def yX3_fewest : MethodName := ⟨RX3, "fewest", "(LWokenYears$Street;I)I"⟩
abbrev cX3_seek : ByteArray := prog_5_method_5_code
def yX3_seek : MethodName := ⟨RX3, "seek", "(LWokenYears$Rounds;IIIII)V"⟩
abbrev cX3_greatest : ByteArray := prog_5_method_6_code
def yX3_greatest : MethodName := ⟨RX3, "greatest", "(LWokenYears$Street;)I"⟩
abbrev cX3_endAt : ByteArray := prog_5_method_7_code
def yX3_endAt : MethodName := ⟨RX3, "endAt", "(III)I"⟩
def RX4 : String := "WokenYears$Street"
def TX4 : u_T := fun k => match k with
  | 0 => ("WokenYears$Street", "kinds", "LWokenYears$Ints;", true)
  | 1 => ("WokenYears$Street", "wants", "LWokenYears$Ints;", true)
  | 2 => ("WokenYears$Street", "firstDates", "LWokenYears$Ints;", true)
  | 3 => ("WokenYears$Street", "dates", "LWokenYears$Ints;", true)
  | 4 => ("WokenYears$Street", "tapped", "LWokenYears$Ints;", true)
  | 5 => ("WokenYears$Street", "years", "LWokenYears$Ints;", true)
  | 6 => ("WokenYears$Street", "deeds", "LWokenYears$Ints;", true)
  | 7 => ("WokenYears$Street", "size", "I", false)
  | 8 => ("WokenYears$Street", "quarrel", "I", false)
  | 9 => ("WokenYears$Street", "firstFrost", "I", false)
  | 10 => ("WokenYears$Street", "frost", "I", false)
  | 11 => ("WokenYears$Street", "minute", "I", false)
  | 12 => ("WokenYears$Street", "night", "I", false)
  | 13 => ("WokenYears$Street", "place", "I", false)
  | _ => ("WokenYears$Street", "purse", "I", false)
def tyX4 : Nat → FieldType := fun k => match k with
  | 0 => .object "WokenYears$Ints"
  | 1 => .object "WokenYears$Ints"
  | 2 => .object "WokenYears$Ints"
  | 3 => .object "WokenYears$Ints"
  | 4 => .object "WokenYears$Ints"
  | 5 => .object "WokenYears$Ints"
  | 6 => .object "WokenYears$Ints"
  | 7 => .int
  | 8 => .int
  | 9 => .int
  | 10 => .int
  | 11 => .int
  | 12 => .int
  | 13 => .int
  | _ => .int
abbrev wsX40 : List Cond := u_ws RX4 TX4 15
theorem nmX4 : ∀ a, a < 15 → ∀ b, b < 15 → a ≠ b → (TX4 a).2.1 ≠ (TX4 b).2.1 := by decide +kernel
theorem tyX4_ok : ∀ k, k < 15 → parseFieldDescriptor (TX4 k).2.2.1 = some (tyX4 k) := by decide +kernel
abbrev cX4_init : ByteArray := prog_6_method_1_code
def yX4_init : MethodName := ⟨RX4, "<init>", "()V"⟩
abbrev cX4_begin : ByteArray := prog_6_method_2_code
def yX4_begin : MethodName := ⟨RX4, "begin", "(II)V"⟩
abbrev cX4_build : ByteArray := prog_6_method_3_code
def yX4_build : MethodName := ⟨RX4, "build", "(III)V"⟩
abbrev cX4_sleep : ByteArray := prog_6_method_4_code
def yX4_sleep : MethodName := ⟨RX4, "sleep", "()V"⟩
abbrev cX4_replay : ByteArray := prog_6_method_5_code
def yX4_replay : MethodName := ⟨RX4, "replay", "()V"⟩
abbrev cX4_does : ByteArray := prog_6_method_6_code
def yX4_does : MethodName := ⟨RX4, "does", "(III)V"⟩
abbrev cX4_perform : ByteArray := prog_6_method_8_code
def yX4_perform : MethodName := ⟨RX4, "perform", "(I)V"⟩
abbrev cX4_hear : ByteArray := prog_6_method_9_code
def yX4_hear : MethodName := ⟨RX4, "hear", "(I)V"⟩
abbrev cX4_isHouse : ByteArray := prog_6_method_10_code
def yX4_isHouse : MethodName := ⟨RX4, "isHouse", "(I)Z"⟩
abbrev cX4_isSet : ByteArray := prog_6_method_11_code
def yX4_isSet : MethodName := ⟨RX4, "isSet", "(I)Z"⟩
abbrev cX4_isAwake : ByteArray := prog_6_method_12_code
def yX4_isAwake : MethodName := ⟨RX4, "isAwake", "(I)Z"⟩
abbrev cX4_tapsFor : ByteArray := prog_6_method_13_code
def yX4_tapsFor : MethodName := ⟨RX4, "tapsFor", "(II)I"⟩
abbrev cX4_fee : ByteArray := prog_6_method_14_code
def yX4_fee : MethodName := ⟨RX4, "fee", "(I)I"⟩
abbrev cX4_more : ByteArray := prog_6_method_15_code
def yX4_more : MethodName := ⟨RX4, "more", "(I)I"⟩
abbrev cX4_tell : ByteArray := prog_6_method_16_code
def yX4_tell : MethodName := ⟨RX4, "tell", "(II)I"⟩
abbrev cX4_awakeSet : ByteArray := prog_6_method_17_code
def yX4_awakeSet : MethodName := ⟨RX4, "awakeSet", "()I"⟩
abbrev cX4_canWake : ByteArray := prog_6_method_18_code
def yX4_canWake : MethodName := ⟨RX4, "canWake", "(I)Z"⟩
abbrev cX4_tapsLeft : ByteArray := prog_6_method_19_code
def yX4_tapsLeft : MethodName := ⟨RX4, "tapsLeft", "(I)I"⟩
abbrev cX4_fees : ByteArray := prog_6_method_20_code
def yX4_fees : MethodName := ⟨RX4, "fees", "(I)I"⟩
abbrev cX4_manyOf : ByteArray := prog_6_method_21_code
def yX4_manyOf : MethodName := ⟨RX4, "manyOf", "(I)I"⟩
abbrev cX4_nextByDate : ByteArray := prog_6_method_25_code
def yX4_nextByDate : MethodName := ⟨RX4, "nextByDate", "(II)I"⟩
abbrev cX4_mostAwake : ByteArray := prog_6_method_26_code
def yX4_mostAwake : MethodName := ⟨RX4, "mostAwake", "(II)I"⟩
def RX5 : String := "WokenYears"
def TX5 : u_T := fun k => match k with
  | 0 => ("WokenYears", "rows", "[LWokenYears$Ints;", true)
  | 1 => ("WokenYears", "texts", "[LWokenYears$Ints;", true)
  | 2 => ("WokenYears", "kept", "[LWokenYears$Ints;", true)
  | 3 => ("WokenYears", "reader", "LWokenYears$Reader;", true)
  | 4 => ("WokenYears", "rounds", "LWokenYears$Rounds;", true)
  | 5 => ("WokenYears", "findings", "LWokenYears$Ints;", true)
  | 6 => ("WokenYears", "street", "LWokenYears$Street;", false)
  | 7 => ("WokenYears", "draft", "LWokenYears$Street;", false)
  | 8 => ("WokenYears", "finding", "I", false)
  | 9 => ("WokenYears", "asked", "I", false)
  | 10 => ("WokenYears", "upper", "J", false)
  | _ => ("WokenYears", "lower", "J", false)
def tyX5 : Nat → FieldType := fun k => match k with
  | 0 => .array (.object "WokenYears$Ints")
  | 1 => .array (.object "WokenYears$Ints")
  | 2 => .array (.object "WokenYears$Ints")
  | 3 => .object "WokenYears$Reader"
  | 4 => .object "WokenYears$Rounds"
  | 5 => .object "WokenYears$Ints"
  | 6 => .object "WokenYears$Street"
  | 7 => .object "WokenYears$Street"
  | 8 => .int
  | 9 => .int
  | 10 => .long
  | _ => .long
abbrev wsX50 : List Cond := u_ws RX5 TX5 12
theorem nmX5 : ∀ a, a < 12 → ∀ b, b < 12 → a ≠ b → (TX5 a).2.1 ≠ (TX5 b).2.1 := by decide +kernel
theorem tyX5_ok : ∀ k, k < 12 → parseFieldDescriptor (TX5 k).2.2.1 = some (tyX5 k) := by decide +kernel
abbrev cX5_init : ByteArray := prog_1_method_1_code
def yX5_init : MethodName := ⟨RX5, "<init>", "()V"⟩
abbrev cX5_found : ByteArray := prog_1_method_2_code
def yX5_found : MethodName := ⟨RX5, "found", "(I)I"⟩
abbrev cX5_within : ByteArray := prog_1_method_3_code
def yX5_within : MethodName := ⟨RX5, "within", "(III)Z"⟩
abbrev cX5_isDate : ByteArray := prog_1_method_4_code
def yX5_isDate : MethodName := ⟨RX5, "isDate", "(I)Z"⟩
abbrev cX5_missing : ByteArray := prog_1_method_5_code
def yX5_missing : MethodName := ⟨RX5, "missing", "(II)[LWokenYears$Ints;"⟩
abbrev cX5_pick : ByteArray := prog_1_method_6_code
def yX5_pick : MethodName := ⟨RX5, "pick", "([LWokenYears$Ints;I)LWokenYears$Ints;"⟩
abbrev cX5_refused : ByteArray := prog_1_method_7_code
def yX5_refused : MethodName := ⟨RX5, "refused", "(LWokenYears$Ints;)I"⟩
abbrev cX5_refusedAt : ByteArray := prog_1_method_8_code
def yX5_refusedAt : MethodName := ⟨RX5, "refusedAt", "(LWokenYears$Ints;I)I"⟩
abbrev cX5_present : ByteArray := prog_1_method_9_code
def yX5_present : MethodName := ⟨RX5, "present", "([LWokenYears$Ints;)I"⟩
abbrev cX5_row : ByteArray := prog_1_method_10_code
def yX5_row : MethodName := ⟨RX5, "row", "(II)I"⟩
abbrev cX5_lay : ByteArray := prog_1_method_11_code
def yX5_lay : MethodName := ⟨RX5, "lay", "(III)I"⟩
abbrev cX5_at : ByteArray := prog_1_method_12_code
def yX5_at : MethodName := ⟨RX5, "at", "(II)I"⟩
abbrev cX5_text : ByteArray := prog_1_method_16_code
def yX5_text : MethodName := ⟨RX5, "text", "(II)I"⟩
abbrev cX5_put : ByteArray := prog_1_method_17_code
def yX5_put : MethodName := ⟨RX5, "put", "(III)I"⟩
abbrev cX5_fault : ByteArray := prog_1_method_18_code
def yX5_fault : MethodName := ⟨RX5, "fault", "(I)I"⟩
abbrev cX5_town : ByteArray := prog_1_method_19_code
def yX5_town : MethodName := ⟨RX5, "town", "(I)I"⟩
abbrev cX5_house : ByteArray := prog_1_method_20_code
def yX5_house : MethodName := ⟨RX5, "house", "(II)I"⟩
abbrev cX5_isFull : ByteArray := prog_1_method_22_code
def yX5_isFull : MethodName := ⟨RX5, "isFull", "(I)Z"⟩
abbrev cX5_walk : ByteArray := prog_1_method_23_code
def yX5_walk : MethodName := ⟨RX5, "walk", "(I)I"⟩
abbrev cX5_tap : ByteArray := prog_1_method_24_code
def yX5_tap : MethodName := ⟨RX5, "tap", "()I"⟩
abbrev cX5_slate : ByteArray := prog_1_method_25_code
def yX5_slate : MethodName := ⟨RX5, "slate", "(II)I"⟩
abbrev cX5_frost : ByteArray := prog_1_method_26_code
def yX5_frost : MethodName := ⟨RX5, "frost", "(I)I"⟩
abbrev cX5_night : ByteArray := prog_1_method_27_code
def yX5_night : MethodName := ⟨RX5, "night", "()I"⟩
abbrev cX5_undo : ByteArray := prog_1_method_28_code
def yX5_undo : MethodName := ⟨RX5, "undo", "(I)I"⟩
abbrev cX5_keep : ByteArray := prog_1_method_29_code
def yX5_keep : MethodName := ⟨RX5, "keep", "(I)I"⟩
abbrev cX5_on : ByteArray := prog_1_method_30_code
def yX5_on : MethodName := ⟨RX5, "on", "(I)I"⟩
abbrev cX5_takes : ByteArray := prog_1_method_31_code
def yX5_takes : MethodName := ⟨RX5, "takes", "(II)I"⟩
abbrev cX5_pays : ByteArray := prog_1_method_32_code
def yX5_pays : MethodName := ⟨RX5, "pays", "(I)I"⟩
abbrev cX5_who : ByteArray := prog_1_method_33_code
def yX5_who : MethodName := ⟨RX5, "who", "(II)I"⟩
abbrev cX5_soonest : ByteArray := prog_1_method_35_code
def yX5_soonest : MethodName := ⟨RX5, "soonest", "(I)I"⟩
abbrev cX5_intime : ByteArray := prog_1_method_36_code
def yX5_intime : MethodName := ⟨RX5, "intime", "(II)I"⟩
abbrev cX5_many : ByteArray := prog_1_method_37_code
def yX5_many : MethodName := ⟨RX5, "many", "()I"⟩
abbrev cX5_dates : ByteArray := prog_1_method_38_code
def yX5_dates : MethodName := ⟨RX5, "dates", "(I)I"⟩
abbrev cX5_refusedPairs : ByteArray := prog_1_method_39_code
def yX5_refusedPairs : MethodName := ⟨RX5, "refusedPairs", "(LWokenYears$Ints;)I"⟩
abbrev cX5_tookOf : ByteArray := prog_1_method_40_code
def yX5_tookOf : MethodName := ⟨RX5, "tookOf", "(III)I"⟩
abbrev cX5_canBe : ByteArray := prog_1_method_41_code
def yX5_canBe : MethodName := ⟨RX5, "canBe", "(ILWokenYears$Ints;)Z"⟩
abbrev cX5_kindsBy : ByteArray := prog_1_method_42_code
def yX5_kindsBy : MethodName := ⟨RX5, "kindsBy", "(LWokenYears$Ints;)I"⟩
abbrev cX5_holds : ByteArray := prog_1_method_43_code
def yX5_holds : MethodName := ⟨RX5, "holds", "(II)Z"⟩
abbrev cX5_partOf : ByteArray := prog_1_method_44_code
def yX5_partOf : MethodName := ⟨RX5, "partOf", "(III)I"⟩
abbrev cX5_greatestPart : ByteArray := prog_1_method_45_code
def yX5_greatestPart : MethodName := ⟨RX5, "greatestPart", "(II)I"⟩
abbrev cX5_whose : ByteArray := prog_1_method_46_code
def yX5_whose : MethodName := ⟨RX5, "whose", "(I)I"⟩
abbrev cX5_kinds : ByteArray := prog_1_method_47_code
def yX5_kinds : MethodName := ⟨RX5, "kinds", "(I)I"⟩
abbrev cX5_test : ByteArray := prog_1_method_48_code
def yX5_test : MethodName := ⟨RX5, "test", "(I)I"⟩
abbrev cX5_sets : ByteArray := prog_1_method_49_code
def yX5_sets : MethodName := ⟨RX5, "sets", "(I)I"⟩
abbrev cX5_sure : ByteArray := prog_1_method_50_code
def yX5_sure : MethodName := ⟨RX5, "sure", "(I)I"⟩
abbrev cX5_duel : ByteArray := prog_1_method_51_code
def yX5_duel : MethodName := ⟨RX5, "duel", "(I)I"⟩
abbrev cX5_power : ByteArray := prog_1_method_52_code
def yX5_power : MethodName := ⟨RX5, "power", "(JI)J"⟩
abbrev cX5_ways : ByteArray := prog_1_method_53_code
def yX5_ways : MethodName := ⟨RX5, "ways", "(II)J"⟩
abbrev cX5_weight : ByteArray := prog_1_method_54_code
def yX5_weight : MethodName := ⟨RX5, "weight", "(III)J"⟩
abbrev cX5_divisor : ByteArray := prog_1_method_55_code
def yX5_divisor : MethodName := ⟨RX5, "divisor", "(JJ)J"⟩
abbrev cX5_tellRatio : ByteArray := prog_1_method_56_code
def yX5_tellRatio : MethodName := ⟨RX5, "tellRatio", "(JJ)V"⟩
abbrev cX5_isTry : ByteArray := prog_1_method_57_code
def yX5_isTry : MethodName := ⟨RX5, "isTry", "(III)Z"⟩
abbrev cX5_odds : ByteArray := prog_1_method_58_code
def yX5_odds : MethodName := ⟨RX5, "odds", "(III)I"⟩
abbrev cX5_mid : ByteArray := prog_1_method_59_code
def yX5_mid : MethodName := ⟨RX5, "mid", "(III)I"⟩
abbrev cX5_asked : ByteArray := prog_1_method_61_code
def yX5_asked : MethodName := ⟨RX5, "asked", "()I"⟩
abbrev cX5_upper : ByteArray := prog_1_method_62_code
def yX5_upper : MethodName := ⟨RX5, "upper", "()J"⟩
abbrev cX5_lower : ByteArray := prog_1_method_63_code
def yX5_lower : MethodName := ⟨RX5, "lower", "()J"⟩
abbrev cX5_count : ByteArray := prog_1_method_64_code
def yX5_count : MethodName := ⟨RX5, "count", "(I)I"⟩
def RX6 : String := "WokenYearsModel"
def TX6 : u_T := fun k => match k with
  | _ => ("", "", "", false)
def tyX6 : Nat → FieldType := fun k => match k with
  | _ => .int
abbrev wsX60 : List Cond := u_ws RX6 TX6 0
theorem nmX6 : ∀ a, a < 0 → ∀ b, b < 0 → a ≠ b → (TX6 a).2.1 ≠ (TX6 b).2.1 := by decide +kernel
theorem tyX6_ok : ∀ k, k < 0 → parseFieldDescriptor (TX6 k).2.2.1 = some (tyX6 k) := by decide +kernel
def RJ6 : String := "java/lang/Integer"
def TJ6 : u_T := fun k => match k with
  | _ => ("", "", "", false)
def tyJ6 : Nat → FieldType := fun k => match k with
  | _ => .int
abbrev wsJ60 : List Cond := u_ws RJ6 TJ6 0
theorem nmJ6 : ∀ a, a < 0 → ∀ b, b < 0 → a ≠ b → (TJ6 a).2.1 ≠ (TJ6 b).2.1 := by decide +kernel
theorem tyJ6_ok : ∀ k, k < 0 → parseFieldDescriptor (TJ6 k).2.2.1 = some (tyJ6 k) := by decide +kernel
abbrev cJ6_bitCount_0f7a4 : ByteArray := prog_9_method_49_code
def yJ6_bitCount_0f7a4 : MethodName := ⟨RJ6, "bitCount", "(I)I"⟩
def RJ9 : String := "java/lang/Math"
def TJ9 : u_T := fun k => match k with
  | _ => ("", "", "", false)
def tyJ9 : Nat → FieldType := fun k => match k with
  | _ => .int
abbrev wsJ90 : List Cond := u_ws RJ9 TJ9 0
theorem nmJ9 : ∀ a, a < 0 → ∀ b, b < 0 → a ≠ b → (TJ9 a).2.1 ≠ (TJ9 b).2.1 := by decide +kernel
theorem tyJ9_ok : ∀ k, k < 0 → parseFieldDescriptor (TJ9 k).2.2.1 = some (tyJ9 k) := by decide +kernel
abbrev cJ9_abs_0f7a4 : ByteArray := prog_10_method_59_code
def yJ9_abs_0f7a4 : MethodName := ⟨RJ9, "abs", "(I)I"⟩
abbrev cJ9_max_7cf53 : ByteArray := prog_10_method_65_code
def yJ9_max_7cf53 : MethodName := ⟨RJ9, "max", "(II)I"⟩
abbrev cJ9_min_7cf53 : ByteArray := prog_10_method_69_code
def yJ9_min_7cf53 : MethodName := ⟨RJ9, "min", "(II)I"⟩
def RJ10 : String := "java/lang/System"
def TJ10 : u_T := fun k => match k with
  | _ => ("", "", "", false)
def tyJ10 : Nat → FieldType := fun k => match k with
  | _ => .int
abbrev wsJ100 : List Cond := u_ws RJ10 TJ10 0
theorem nmJ10 : ∀ a, a < 0 → ∀ b, b < 0 → a ≠ b → (TJ10 a).2.1 ≠ (TJ10 b).2.1 := by decide +kernel
theorem tyJ10_ok : ∀ k, k < 0 → parseFieldDescriptor (TJ10 k).2.2.1 = some (tyJ10 k) := by decide +kernel
def RL : String := "WokenYearsLaw"
abbrev cL_cell : ByteArray := method_2_code
def yL_cell : MethodName := ⟨RL, "cell", "([II)I"⟩
abbrev cL_low : ByteArray := method_3_code
def yL_low : MethodName := ⟨RL, "low", "(II)I"⟩
abbrev cL_letter : ByteArray := method_5_code
def yL_letter : MethodName := ⟨RL, "letter", "(I)I"⟩
abbrev cL_figures : ByteArray := method_6_code
def yL_figures : MethodName := ⟨RL, "figures", "(LWokenYears;III)Z"⟩
abbrev cL_built : ByteArray := method_7_code
def yL_built : MethodName := ⟨RL, "built", "(LWokenYears;[III[I[I)Z"⟩
abbrev cL_has : ByteArray := method_8_code
def yL_has : MethodName := ⟨RL, "has", "(II)Z"⟩
abbrev cL_bits : ByteArray := method_9_code
def yL_bits : MethodName := ⟨RL, "bits", "(I)I"⟩
abbrev cL_copy : ByteArray := method_10_code
def yL_copy : MethodName := ⟨RL, "copy", "([I[I)V"⟩
abbrev cL_takes : ByteArray := method_11_code
def yL_takes : MethodName := ⟨RL, "takes", "(III)I"⟩
abbrev cL_pays : ByteArray := method_12_code
def yL_pays : MethodName := ⟨RL, "pays", "(I)I"⟩
abbrev cL_more : ByteArray := method_13_code
def yL_more : MethodName := ⟨RL, "more", "([I[II)I"⟩
abbrev cL_awake : ByteArray := method_14_code
def yL_awake : MethodName := ⟨RL, "awake", "([I)I"⟩
abbrev cL_far : ByteArray := method_15_code
def yL_far : MethodName := ⟨RL, "far", "(II)I"⟩
abbrev cL_walk : ByteArray := method_16_code
def yL_walk : MethodName := ⟨RL, "walk", "([II)V"⟩
abbrev cL_tap : ByteArray := method_17_code
def yL_tap : MethodName := ⟨RL, "tap", "([I[I)I"⟩
abbrev cL_night : ByteArray := method_18_code
def yL_night : MethodName := ⟨RL, "night", "([I)I"⟩
abbrev cL_deed : ByteArray := method_19_code
def yL_deed : MethodName := ⟨RL, "deed", "(LWokenYears;I[I[I)I"⟩
abbrev cL_same : ByteArray := method_20_code
def yL_same : MethodName := ⟨RL, "same", "(LWokenYears;[I[I)Z"⟩
abbrev cL_law : ByteArray := code
def yL_law : MethodName := ⟨RL, "law", "([I)Z"⟩
abbrev vwCl : List vw_C := [(RX0, TX0, 2), (RX2, TX2, 3), (RX3, TX3, 6), (RX4, TX4, 15), (RX5, TX5, 12)]
end
section
theorem dX0_init_0 : decode cX0_init 0 = .ok (.aload_n 0, 1) := by decide +kernel
theorem dX0_init_1 : decode cX0_init 1 = .ok (.invokespecial 1, 3) := by decide +kernel
theorem dX0_init_4 : decode cX0_init 4 = .ok (.aload_n 0, 1) := by decide +kernel
theorem dX0_init_5 : decode cX0_init 5 = .ok (.iconst (-1), 1) := by decide +kernel
theorem dX0_init_6 : decode cX0_init 6 = .ok (.putfield 7, 3) := by decide +kernel
theorem dX0_init_9 : decode cX0_init 9 = .ok (.aload_n 0, 1) := by decide +kernel
theorem dX0_init_10 : decode cX0_init 10 = .ok (.iconst 0, 1) := by decide +kernel
theorem dX0_init_11 : decode cX0_init 11 = .ok (.iload_n 1, 1) := by decide +kernel
theorem dX0_init_12 : decode cX0_init 12 = .ok (.invokestatic 13, 3) := by decide +kernel
theorem dX0_init_15 : decode cX0_init 15 = .ok (.newarray .int, 2) := by decide +kernel
theorem dX0_init_17 : decode cX0_init 17 = .ok (.putfield 19, 3) := by decide +kernel
theorem dX0_init_20 : decode cX0_init 20 = .ok (.return_, 1) := by decide +kernel
theorem dX0_has_0 : decode cX0_has 0 = .ok (.iload_n 1, 1) := by decide +kernel
theorem dX0_has_1 : decode cX0_has 1 = .ok (.ifCond .lt 24, 3) := by decide +kernel
theorem dX0_has_4 : decode cX0_has 4 = .ok (.iload_n 1, 1) := by decide +kernel
theorem dX0_has_5 : decode cX0_has 5 = .ok (.aload_n 0, 1) := by decide +kernel
theorem dX0_has_6 : decode cX0_has 6 = .ok (.getfield 7, 3) := by decide +kernel
theorem dX0_has_9 : decode cX0_has 9 = .ok (.if_icmp .ge 16, 3) := by decide +kernel
theorem dX0_has_12 : decode cX0_has 12 = .ok (.iload_n 1, 1) := by decide +kernel
theorem dX0_has_13 : decode cX0_has 13 = .ok (.aload_n 0, 1) := by decide +kernel
theorem dX0_has_14 : decode cX0_has 14 = .ok (.getfield 19, 3) := by decide +kernel
theorem dX0_has_17 : decode cX0_has 17 = .ok (.arraylength, 1) := by decide +kernel
theorem dX0_has_18 : decode cX0_has 18 = .ok (.if_icmp .ge 7, 3) := by decide +kernel
theorem dX0_has_21 : decode cX0_has 21 = .ok (.iconst 1, 1) := by decide +kernel
theorem dX0_has_22 : decode cX0_has 22 = .ok (.goto 4, 3) := by decide +kernel
theorem dX0_has_25 : decode cX0_has 25 = .ok (.iconst 0, 1) := by decide +kernel
theorem dX0_has_26 : decode cX0_has 26 = .ok (.ireturn, 1) := by decide +kernel
theorem dX0_get_0 : decode cX0_get 0 = .ok (.iload_n 1, 1) := by decide +kernel
theorem dX0_get_1 : decode cX0_get 1 = .ok (.ifCond .lt 29, 3) := by decide +kernel
theorem dX0_get_4 : decode cX0_get 4 = .ok (.iload_n 1, 1) := by decide +kernel
theorem dX0_get_5 : decode cX0_get 5 = .ok (.aload_n 0, 1) := by decide +kernel
theorem dX0_get_6 : decode cX0_get 6 = .ok (.getfield 7, 3) := by decide +kernel
theorem dX0_get_9 : decode cX0_get 9 = .ok (.if_icmp .ge 21, 3) := by decide +kernel
theorem dX0_get_12 : decode cX0_get 12 = .ok (.iload_n 1, 1) := by decide +kernel
theorem dX0_get_13 : decode cX0_get 13 = .ok (.aload_n 0, 1) := by decide +kernel
theorem dX0_get_14 : decode cX0_get 14 = .ok (.getfield 19, 3) := by decide +kernel
theorem dX0_get_17 : decode cX0_get 17 = .ok (.arraylength, 1) := by decide +kernel
theorem dX0_get_18 : decode cX0_get 18 = .ok (.if_icmp .ge 12, 3) := by decide +kernel
theorem dX0_get_21 : decode cX0_get 21 = .ok (.aload_n 0, 1) := by decide +kernel
theorem dX0_get_22 : decode cX0_get 22 = .ok (.getfield 19, 3) := by decide +kernel
theorem dX0_get_25 : decode cX0_get 25 = .ok (.iload_n 1, 1) := by decide +kernel
theorem dX0_get_26 : decode cX0_get 26 = .ok (.iaload, 1) := by decide +kernel
theorem dX0_get_27 : decode cX0_get 27 = .ok (.goto 4, 3) := by decide +kernel
theorem dX0_get_30 : decode cX0_get 30 = .ok (.iconst 0, 1) := by decide +kernel
theorem dX0_get_31 : decode cX0_get 31 = .ok (.ireturn, 1) := by decide +kernel
theorem dX0_set_0 : decode cX0_set 0 = .ok (.iload_n 1, 1) := by decide +kernel
theorem dX0_set_1 : decode cX0_set 1 = .ok (.ifCond .lt 27, 3) := by decide +kernel
theorem dX0_set_4 : decode cX0_set 4 = .ok (.iload_n 1, 1) := by decide +kernel
theorem dX0_set_5 : decode cX0_set 5 = .ok (.aload_n 0, 1) := by decide +kernel
theorem dX0_set_6 : decode cX0_set 6 = .ok (.getfield 7, 3) := by decide +kernel
theorem dX0_set_9 : decode cX0_set 9 = .ok (.if_icmp .ge 19, 3) := by decide +kernel
theorem dX0_set_12 : decode cX0_set 12 = .ok (.iload_n 1, 1) := by decide +kernel
theorem dX0_set_13 : decode cX0_set 13 = .ok (.aload_n 0, 1) := by decide +kernel
theorem dX0_set_14 : decode cX0_set 14 = .ok (.getfield 19, 3) := by decide +kernel
theorem dX0_set_17 : decode cX0_set 17 = .ok (.arraylength, 1) := by decide +kernel
theorem dX0_set_18 : decode cX0_set 18 = .ok (.if_icmp .ge 10, 3) := by decide +kernel
theorem dX0_set_21 : decode cX0_set 21 = .ok (.aload_n 0, 1) := by decide +kernel
theorem dX0_set_22 : decode cX0_set 22 = .ok (.getfield 19, 3) := by decide +kernel
theorem dX0_set_25 : decode cX0_set 25 = .ok (.iload_n 1, 1) := by decide +kernel
theorem dX0_set_26 : decode cX0_set 26 = .ok (.iload_n 2, 1) := by decide +kernel
theorem dX0_set_27 : decode cX0_set 27 = .ok (.iastore, 1) := by decide +kernel
theorem dX0_set_28 : decode cX0_set 28 = .ok (.return_, 1) := by decide +kernel
theorem dX0_fill_0 : decode cX0_fill 0 = .ok (.aload_n 0, 1) := by decide +kernel
theorem dX0_fill_1 : decode cX0_fill 1 = .ok (.iconst 0, 1) := by decide +kernel
theorem dX0_fill_2 : decode cX0_fill 2 = .ok (.iload_n 1, 1) := by decide +kernel
theorem dX0_fill_3 : decode cX0_fill 3 = .ok (.aload_n 0, 1) := by decide +kernel
theorem dX0_fill_4 : decode cX0_fill 4 = .ok (.getfield 19, 3) := by decide +kernel
theorem dX0_fill_7 : decode cX0_fill 7 = .ok (.arraylength, 1) := by decide +kernel
theorem dX0_fill_8 : decode cX0_fill 8 = .ok (.invokestatic 23, 3) := by decide +kernel
theorem dX0_fill_11 : decode cX0_fill 11 = .ok (.invokestatic 13, 3) := by decide +kernel
theorem dX0_fill_14 : decode cX0_fill 14 = .ok (.putfield 7, 3) := by decide +kernel
theorem dX0_fill_17 : decode cX0_fill 17 = .ok (.iconst 0, 1) := by decide +kernel
theorem dX0_fill_18 : decode cX0_fill 18 = .ok (.istore_n 3, 1) := by decide +kernel
theorem dX0_fill_19 : decode cX0_fill 19 = .ok (.iload_n 3, 1) := by decide +kernel
theorem dX0_fill_20 : decode cX0_fill 20 = .ok (.aload_n 0, 1) := by decide +kernel
theorem dX0_fill_21 : decode cX0_fill 21 = .ok (.getfield 7, 3) := by decide +kernel
theorem dX0_fill_24 : decode cX0_fill 24 = .ok (.if_icmp .ge 25, 3) := by decide +kernel
theorem dX0_fill_27 : decode cX0_fill 27 = .ok (.iload_n 3, 1) := by decide +kernel
theorem dX0_fill_28 : decode cX0_fill 28 = .ok (.aload_n 0, 1) := by decide +kernel
theorem dX0_fill_29 : decode cX0_fill 29 = .ok (.getfield 19, 3) := by decide +kernel
theorem dX0_fill_32 : decode cX0_fill 32 = .ok (.arraylength, 1) := by decide +kernel
theorem dX0_fill_33 : decode cX0_fill 33 = .ok (.if_icmp .ge 16, 3) := by decide +kernel
theorem dX0_fill_36 : decode cX0_fill 36 = .ok (.aload_n 0, 1) := by decide +kernel
theorem dX0_fill_37 : decode cX0_fill 37 = .ok (.getfield 19, 3) := by decide +kernel
theorem dX0_fill_40 : decode cX0_fill 40 = .ok (.iload_n 3, 1) := by decide +kernel
theorem dX0_fill_41 : decode cX0_fill 41 = .ok (.iload_n 2, 1) := by decide +kernel
theorem dX0_fill_42 : decode cX0_fill 42 = .ok (.iastore, 1) := by decide +kernel
theorem dX0_fill_43 : decode cX0_fill 43 = .ok (.iinc 3 1, 3) := by decide +kernel
theorem dX0_fill_46 : decode cX0_fill 46 = .ok (.goto (-27), 3) := by decide +kernel
theorem dX0_fill_49 : decode cX0_fill 49 = .ok (.return_, 1) := by decide +kernel
theorem dX0_add_0 : decode cX0_add 0 = .ok (.aload_n 0, 1) := by decide +kernel
theorem dX0_add_1 : decode cX0_add 1 = .ok (.getfield 7, 3) := by decide +kernel
theorem dX0_add_4 : decode cX0_add 4 = .ok (.ifCond .lt 35, 3) := by decide +kernel
theorem dX0_add_7 : decode cX0_add 7 = .ok (.aload_n 0, 1) := by decide +kernel
theorem dX0_add_8 : decode cX0_add 8 = .ok (.getfield 7, 3) := by decide +kernel
theorem dX0_add_11 : decode cX0_add 11 = .ok (.aload_n 0, 1) := by decide +kernel
theorem dX0_add_12 : decode cX0_add 12 = .ok (.getfield 19, 3) := by decide +kernel
theorem dX0_add_15 : decode cX0_add 15 = .ok (.arraylength, 1) := by decide +kernel
theorem dX0_add_16 : decode cX0_add 16 = .ok (.if_icmp .ge 23, 3) := by decide +kernel
theorem dX0_add_19 : decode cX0_add 19 = .ok (.aload_n 0, 1) := by decide +kernel
theorem dX0_add_20 : decode cX0_add 20 = .ok (.getfield 19, 3) := by decide +kernel
theorem dX0_add_23 : decode cX0_add 23 = .ok (.aload_n 0, 1) := by decide +kernel
theorem dX0_add_24 : decode cX0_add 24 = .ok (.getfield 7, 3) := by decide +kernel
theorem dX0_add_27 : decode cX0_add 27 = .ok (.iload_n 1, 1) := by decide +kernel
theorem dX0_add_28 : decode cX0_add 28 = .ok (.iastore, 1) := by decide +kernel
theorem dX0_add_29 : decode cX0_add 29 = .ok (.aload_n 0, 1) := by decide +kernel
theorem dX0_add_30 : decode cX0_add 30 = .ok (.dup, 1) := by decide +kernel
theorem dX0_add_31 : decode cX0_add 31 = .ok (.getfield 7, 3) := by decide +kernel
theorem dX0_add_34 : decode cX0_add 34 = .ok (.iconst 1, 1) := by decide +kernel
theorem dX0_add_35 : decode cX0_add 35 = .ok (.iadd, 1) := by decide +kernel
theorem dX0_add_36 : decode cX0_add 36 = .ok (.putfield 7, 3) := by decide +kernel
theorem dX0_add_39 : decode cX0_add 39 = .ok (.return_, 1) := by decide +kernel
theorem dX0_cut_0 : decode cX0_cut 0 = .ok (.aload_n 0, 1) := by decide +kernel
theorem dX0_cut_1 : decode cX0_cut 1 = .ok (.aload_n 0, 1) := by decide +kernel
theorem dX0_cut_2 : decode cX0_cut 2 = .ok (.getfield 7, 3) := by decide +kernel
theorem dX0_cut_5 : decode cX0_cut 5 = .ok (.iconst 0, 1) := by decide +kernel
theorem dX0_cut_6 : decode cX0_cut 6 = .ok (.iload_n 1, 1) := by decide +kernel
theorem dX0_cut_7 : decode cX0_cut 7 = .ok (.invokestatic 13, 3) := by decide +kernel
theorem dX0_cut_10 : decode cX0_cut 10 = .ok (.invokestatic 23, 3) := by decide +kernel
theorem dX0_cut_13 : decode cX0_cut 13 = .ok (.putfield 7, 3) := by decide +kernel
theorem dX0_cut_16 : decode cX0_cut 16 = .ok (.return_, 1) := by decide +kernel
theorem dX0_drop_0 : decode cX0_drop 0 = .ok (.aload_n 0, 1) := by decide +kernel
theorem dX0_drop_1 : decode cX0_drop 1 = .ok (.iconst (-1), 1) := by decide +kernel
theorem dX0_drop_2 : decode cX0_drop 2 = .ok (.putfield 7, 3) := by decide +kernel
theorem dX0_drop_5 : decode cX0_drop 5 = .ok (.return_, 1) := by decide +kernel
theorem dX0_spans_0 : decode cX0_spans 0 = .ok (.iload_n 1, 1) := by decide +kernel
theorem dX0_spans_1 : decode cX0_spans 1 = .ok (.ifCond .lt 33, 3) := by decide +kernel
theorem dX0_spans_4 : decode cX0_spans 4 = .ok (.iload_n 2, 1) := by decide +kernel
theorem dX0_spans_5 : decode cX0_spans 5 = .ok (.ifCond .lt 29, 3) := by decide +kernel
theorem dX0_spans_8 : decode cX0_spans 8 = .ok (.iload_n 1, 1) := by decide +kernel
theorem dX0_spans_9 : decode cX0_spans 9 = .ok (.aload_n 0, 1) := by decide +kernel
theorem dX0_spans_10 : decode cX0_spans 10 = .ok (.getfield 7, 3) := by decide +kernel
theorem dX0_spans_13 : decode cX0_spans 13 = .ok (.iload_n 2, 1) := by decide +kernel
theorem dX0_spans_14 : decode cX0_spans 14 = .ok (.isub, 1) := by decide +kernel
theorem dX0_spans_15 : decode cX0_spans 15 = .ok (.if_icmp .gt 19, 3) := by decide +kernel
theorem dX0_spans_18 : decode cX0_spans 18 = .ok (.aload_n 0, 1) := by decide +kernel
theorem dX0_spans_19 : decode cX0_spans 19 = .ok (.getfield 7, 3) := by decide +kernel
theorem dX0_spans_22 : decode cX0_spans 22 = .ok (.aload_n 0, 1) := by decide +kernel
theorem dX0_spans_23 : decode cX0_spans 23 = .ok (.getfield 19, 3) := by decide +kernel
theorem dX0_spans_26 : decode cX0_spans 26 = .ok (.arraylength, 1) := by decide +kernel
theorem dX0_spans_27 : decode cX0_spans 27 = .ok (.if_icmp .gt 7, 3) := by decide +kernel
theorem dX0_spans_30 : decode cX0_spans 30 = .ok (.iconst 1, 1) := by decide +kernel
theorem dX0_spans_31 : decode cX0_spans 31 = .ok (.goto 4, 3) := by decide +kernel
theorem dX0_spans_34 : decode cX0_spans 34 = .ok (.iconst 0, 1) := by decide +kernel
theorem dX0_spans_35 : decode cX0_spans 35 = .ok (.ireturn, 1) := by decide +kernel
theorem dX0_copyOut_0 : decode cX0_copyOut 0 = .ok (.aload_n 0, 1) := by decide +kernel
theorem dX0_copyOut_1 : decode cX0_copyOut 1 = .ok (.iload_n 1, 1) := by decide +kernel
theorem dX0_copyOut_2 : decode cX0_copyOut 2 = .ok (.iload 4, 2) := by decide +kernel
theorem dX0_copyOut_4 : decode cX0_copyOut 4 = .ok (.invokevirtual 26, 3) := by decide +kernel
theorem dX0_copyOut_7 : decode cX0_copyOut 7 = .ok (.ifCond .eq 28, 3) := by decide +kernel
theorem dX0_copyOut_10 : decode cX0_copyOut 10 = .ok (.aload_n 2, 1) := by decide +kernel
theorem dX0_copyOut_11 : decode cX0_copyOut 11 = .ok (.iload_n 3, 1) := by decide +kernel
theorem dX0_copyOut_12 : decode cX0_copyOut 12 = .ok (.iload 4, 2) := by decide +kernel
theorem dX0_copyOut_14 : decode cX0_copyOut 14 = .ok (.invokevirtual 26, 3) := by decide +kernel
theorem dX0_copyOut_17 : decode cX0_copyOut 17 = .ok (.ifCond .eq 18, 3) := by decide +kernel
theorem dX0_copyOut_20 : decode cX0_copyOut 20 = .ok (.aload_n 0, 1) := by decide +kernel
theorem dX0_copyOut_21 : decode cX0_copyOut 21 = .ok (.getfield 19, 3) := by decide +kernel
theorem dX0_copyOut_24 : decode cX0_copyOut 24 = .ok (.iload_n 1, 1) := by decide +kernel
theorem dX0_copyOut_25 : decode cX0_copyOut 25 = .ok (.aload_n 2, 1) := by decide +kernel
theorem dX0_copyOut_26 : decode cX0_copyOut 26 = .ok (.getfield 19, 3) := by decide +kernel
theorem dX0_copyOut_29 : decode cX0_copyOut 29 = .ok (.iload_n 3, 1) := by decide +kernel
theorem dX0_copyOut_30 : decode cX0_copyOut 30 = .ok (.iload 4, 2) := by decide +kernel
theorem dX0_copyOut_32 : decode cX0_copyOut 32 = .ok (.invokestatic 30, 3) := by decide +kernel
theorem dX0_copyOut_35 : decode cX0_copyOut 35 = .ok (.return_, 1) := by decide +kernel
theorem dX0_takeFrom_0 : decode cX0_takeFrom 0 = .ok (.aload_n 0, 1) := by decide +kernel
theorem dX0_takeFrom_1 : decode cX0_takeFrom 1 = .ok (.aload_n 1, 1) := by decide +kernel
theorem dX0_takeFrom_2 : decode cX0_takeFrom 2 = .ok (.getfield 7, 3) := by decide +kernel
theorem dX0_takeFrom_5 : decode cX0_takeFrom 5 = .ok (.iconst 0, 1) := by decide +kernel
theorem dX0_takeFrom_6 : decode cX0_takeFrom 6 = .ok (.invokevirtual 36, 3) := by decide +kernel
theorem dX0_takeFrom_9 : decode cX0_takeFrom 9 = .ok (.aload_n 1, 1) := by decide +kernel
theorem dX0_takeFrom_10 : decode cX0_takeFrom 10 = .ok (.iconst 0, 1) := by decide +kernel
theorem dX0_takeFrom_11 : decode cX0_takeFrom 11 = .ok (.aload_n 0, 1) := by decide +kernel
theorem dX0_takeFrom_12 : decode cX0_takeFrom 12 = .ok (.iconst 0, 1) := by decide +kernel
theorem dX0_takeFrom_13 : decode cX0_takeFrom 13 = .ok (.aload_n 0, 1) := by decide +kernel
theorem dX0_takeFrom_14 : decode cX0_takeFrom 14 = .ok (.getfield 7, 3) := by decide +kernel
theorem dX0_takeFrom_17 : decode cX0_takeFrom 17 = .ok (.invokevirtual 40, 3) := by decide +kernel
theorem dX0_takeFrom_20 : decode cX0_takeFrom 20 = .ok (.return_, 1) := by decide +kernel
theorem dX1_byLetter_0 : decode cX1_byLetter 0 = .ok (.iload_n 0, 1) := by decide +kernel
theorem dX1_byLetter_1 : decode cX1_byLetter 1 = .ok (.tableswitch 103 100 118 #[97, 103, 103, 103, 91, 99, 103, 103, 103, 101, 103, 103, 103, 103, 95, 103, 103, 103, 93], 91) := by decide +kernel
theorem dX1_byLetter_92 : decode cX1_byLetter 92 = .ok (.iconst 0, 1) := by decide +kernel
theorem dX1_byLetter_93 : decode cX1_byLetter 93 = .ok (.ireturn, 1) := by decide +kernel
theorem dX1_byLetter_94 : decode cX1_byLetter 94 = .ok (.iconst 1, 1) := by decide +kernel
theorem dX1_byLetter_95 : decode cX1_byLetter 95 = .ok (.ireturn, 1) := by decide +kernel
theorem dX1_byLetter_96 : decode cX1_byLetter 96 = .ok (.iconst 2, 1) := by decide +kernel
theorem dX1_byLetter_97 : decode cX1_byLetter 97 = .ok (.ireturn, 1) := by decide +kernel
theorem dX1_byLetter_98 : decode cX1_byLetter 98 = .ok (.iconst 3, 1) := by decide +kernel
theorem dX1_byLetter_99 : decode cX1_byLetter 99 = .ok (.ireturn, 1) := by decide +kernel
theorem dX1_byLetter_100 : decode cX1_byLetter 100 = .ok (.iconst 4, 1) := by decide +kernel
theorem dX1_byLetter_101 : decode cX1_byLetter 101 = .ok (.ireturn, 1) := by decide +kernel
theorem dX1_byLetter_102 : decode cX1_byLetter 102 = .ok (.iconst 5, 1) := by decide +kernel
theorem dX1_byLetter_103 : decode cX1_byLetter 103 = .ok (.ireturn, 1) := by decide +kernel
theorem dX1_byLetter_104 : decode cX1_byLetter 104 = .ok (.bipush (-9), 2) := by decide +kernel
theorem dX1_byLetter_106 : decode cX1_byLetter 106 = .ok (.ireturn, 1) := by decide +kernel
theorem dX1_isOf_0 : decode cX1_isOf 0 = .ok (.iload_n 1, 1) := by decide +kernel
theorem dX1_isOf_1 : decode cX1_isOf 1 = .ok (.tableswitch 61 0 2 #[27, 29, 45], 27) := by decide +kernel
theorem dX1_isOf_28 : decode cX1_isOf 28 = .ok (.iconst 1, 1) := by decide +kernel
theorem dX1_isOf_29 : decode cX1_isOf 29 = .ok (.ireturn, 1) := by decide +kernel
theorem dX1_isOf_30 : decode cX1_isOf 30 = .ok (.iload_n 0, 1) := by decide +kernel
theorem dX1_isOf_31 : decode cX1_isOf 31 = .ok (.iconst 1, 1) := by decide +kernel
theorem dX1_isOf_32 : decode cX1_isOf 32 = .ok (.if_icmp .eq 8, 3) := by decide +kernel
theorem dX1_isOf_35 : decode cX1_isOf 35 = .ok (.iload_n 0, 1) := by decide +kernel
theorem dX1_isOf_36 : decode cX1_isOf 36 = .ok (.iconst 4, 1) := by decide +kernel
theorem dX1_isOf_37 : decode cX1_isOf 37 = .ok (.if_icmp .ne 7, 3) := by decide +kernel
theorem dX1_isOf_40 : decode cX1_isOf 40 = .ok (.iconst 1, 1) := by decide +kernel
theorem dX1_isOf_41 : decode cX1_isOf 41 = .ok (.goto 4, 3) := by decide +kernel
theorem dX1_isOf_44 : decode cX1_isOf 44 = .ok (.iconst 0, 1) := by decide +kernel
theorem dX1_isOf_45 : decode cX1_isOf 45 = .ok (.ireturn, 1) := by decide +kernel
theorem dX1_isOf_46 : decode cX1_isOf 46 = .ok (.iload_n 0, 1) := by decide +kernel
theorem dX1_isOf_47 : decode cX1_isOf 47 = .ok (.iconst 2, 1) := by decide +kernel
theorem dX1_isOf_48 : decode cX1_isOf 48 = .ok (.if_icmp .eq 8, 3) := by decide +kernel
theorem dX1_isOf_51 : decode cX1_isOf 51 = .ok (.iload_n 0, 1) := by decide +kernel
theorem dX1_isOf_52 : decode cX1_isOf 52 = .ok (.iconst 5, 1) := by decide +kernel
theorem dX1_isOf_53 : decode cX1_isOf 53 = .ok (.if_icmp .ne 7, 3) := by decide +kernel
theorem dX1_isOf_56 : decode cX1_isOf 56 = .ok (.iconst 1, 1) := by decide +kernel
theorem dX1_isOf_57 : decode cX1_isOf 57 = .ok (.goto 4, 3) := by decide +kernel
theorem dX1_isOf_60 : decode cX1_isOf 60 = .ok (.iconst 0, 1) := by decide +kernel
theorem dX1_isOf_61 : decode cX1_isOf 61 = .ok (.ireturn, 1) := by decide +kernel
theorem dX1_isOf_62 : decode cX1_isOf 62 = .ok (.iload_n 0, 1) := by decide +kernel
theorem dX1_isOf_63 : decode cX1_isOf 63 = .ok (.iload_n 1, 1) := by decide +kernel
theorem dX1_isOf_64 : decode cX1_isOf 64 = .ok (.if_icmp .ne 7, 3) := by decide +kernel
theorem dX1_isOf_67 : decode cX1_isOf 67 = .ok (.iconst 1, 1) := by decide +kernel
theorem dX1_isOf_68 : decode cX1_isOf 68 = .ok (.goto 4, 3) := by decide +kernel
theorem dX1_isOf_71 : decode cX1_isOf 71 = .ok (.iconst 0, 1) := by decide +kernel
theorem dX1_isOf_72 : decode cX1_isOf 72 = .ok (.ireturn, 1) := by decide +kernel
theorem dX1_taps_0 : decode cX1_taps 0 = .ok (.iload_n 2, 1) := by decide +kernel
theorem dX1_taps_1 : decode cX1_taps 1 = .ok (.ifCond .eq 24, 3) := by decide +kernel
theorem dX1_taps_4 : decode cX1_taps 4 = .ok (.iload_n 1, 1) := by decide +kernel
theorem dX1_taps_5 : decode cX1_taps 5 = .ok (.bipush 40, 2) := by decide +kernel
theorem dX1_taps_7 : decode cX1_taps 7 = .ok (.if_icmp .lt 18, 3) := by decide +kernel
theorem dX1_taps_10 : decode cX1_taps 10 = .ok (.iload_n 1, 1) := by decide +kernel
theorem dX1_taps_11 : decode cX1_taps 11 = .ok (.bipush 49, 2) := by decide +kernel
theorem dX1_taps_13 : decode cX1_taps 13 = .ok (.if_icmp .gt 12, 3) := by decide +kernel
theorem dX1_taps_16 : decode cX1_taps 16 = .ok (.iload_n 0, 1) := by decide +kernel
theorem dX1_taps_17 : decode cX1_taps 17 = .ok (.iconst 5, 1) := by decide +kernel
theorem dX1_taps_18 : decode cX1_taps 18 = .ok (.if_icmp .eq 7, 3) := by decide +kernel
theorem dX1_taps_21 : decode cX1_taps 21 = .ok (.iconst 1, 1) := by decide +kernel
theorem dX1_taps_22 : decode cX1_taps 22 = .ok (.goto 4, 3) := by decide +kernel
theorem dX1_taps_25 : decode cX1_taps 25 = .ok (.iconst 0, 1) := by decide +kernel
theorem dX1_taps_26 : decode cX1_taps 26 = .ok (.istore_n 3, 1) := by decide +kernel
theorem dX1_taps_27 : decode cX1_taps 27 = .ok (.iload_n 0, 1) := by decide +kernel
theorem dX1_taps_28 : decode cX1_taps 28 = .ok (.iconst 3, 1) := by decide +kernel
theorem dX1_taps_29 : decode cX1_taps 29 = .ok (.if_icmp .eq 7, 3) := by decide +kernel
theorem dX1_taps_32 : decode cX1_taps 32 = .ok (.iload_n 3, 1) := by decide +kernel
theorem dX1_taps_33 : decode cX1_taps 33 = .ok (.ifCond .eq 6, 3) := by decide +kernel
theorem dX1_taps_36 : decode cX1_taps 36 = .ok (.bipush (-9), 2) := by decide +kernel
theorem dX1_taps_38 : decode cX1_taps 38 = .ok (.ireturn, 1) := by decide +kernel
theorem dX1_taps_39 : decode cX1_taps 39 = .ok (.iload_n 1, 1) := by decide +kernel
theorem dX1_taps_40 : decode cX1_taps 40 = .ok (.bipush 49, 2) := by decide +kernel
theorem dX1_taps_42 : decode cX1_taps 42 = .ok (.if_icmp .gt 7, 3) := by decide +kernel
theorem dX1_taps_45 : decode cX1_taps 45 = .ok (.iconst 2, 1) := by decide +kernel
theorem dX1_taps_46 : decode cX1_taps 46 = .ok (.goto 4, 3) := by decide +kernel
theorem dX1_taps_49 : decode cX1_taps 49 = .ok (.iconst 1, 1) := by decide +kernel
theorem dX1_taps_50 : decode cX1_taps 50 = .ok (.istore 4, 2) := by decide +kernel
theorem dX1_taps_52 : decode cX1_taps 52 = .ok (.iload_n 0, 1) := by decide +kernel
theorem dX1_taps_53 : decode cX1_taps 53 = .ok (.lookupswitch 39 #[(1, 27), (4, 32)], 27) := by decide +kernel
theorem dX1_taps_80 : decode cX1_taps 80 = .ok (.iconst 2, 1) := by decide +kernel
theorem dX1_taps_81 : decode cX1_taps 81 = .ok (.iload 4, 2) := by decide +kernel
theorem dX1_taps_83 : decode cX1_taps 83 = .ok (.imul, 1) := by decide +kernel
theorem dX1_taps_84 : decode cX1_taps 84 = .ok (.ireturn, 1) := by decide +kernel
theorem dX1_taps_85 : decode cX1_taps 85 = .ok (.iconst 2, 1) := by decide +kernel
theorem dX1_taps_86 : decode cX1_taps 86 = .ok (.iload 4, 2) := by decide +kernel
theorem dX1_taps_88 : decode cX1_taps 88 = .ok (.imul, 1) := by decide +kernel
theorem dX1_taps_89 : decode cX1_taps 89 = .ok (.iconst 1, 1) := by decide +kernel
theorem dX1_taps_90 : decode cX1_taps 90 = .ok (.iadd, 1) := by decide +kernel
theorem dX1_taps_91 : decode cX1_taps 91 = .ok (.ireturn, 1) := by decide +kernel
theorem dX1_taps_92 : decode cX1_taps 92 = .ok (.iload 4, 2) := by decide +kernel
theorem dX1_taps_94 : decode cX1_taps 94 = .ok (.ireturn, 1) := by decide +kernel
theorem dX1_fee_0 : decode cX1_fee 0 = .ok (.iload_n 0, 1) := by decide +kernel
theorem dX1_fee_1 : decode cX1_fee 1 = .ok (.tableswitch 37 2 5 #[31, 33, 37, 35], 31) := by decide +kernel
theorem dX1_fee_32 : decode cX1_fee 32 = .ok (.iconst 2, 1) := by decide +kernel
theorem dX1_fee_33 : decode cX1_fee 33 = .ok (.ireturn, 1) := by decide +kernel
theorem dX1_fee_34 : decode cX1_fee 34 = .ok (.iconst 0, 1) := by decide +kernel
theorem dX1_fee_35 : decode cX1_fee 35 = .ok (.ireturn, 1) := by decide +kernel
theorem dX1_fee_36 : decode cX1_fee 36 = .ok (.iconst 5, 1) := by decide +kernel
theorem dX1_fee_37 : decode cX1_fee 37 = .ok (.ireturn, 1) := by decide +kernel
theorem dX1_fee_38 : decode cX1_fee 38 = .ok (.iconst 1, 1) := by decide +kernel
theorem dX1_fee_39 : decode cX1_fee 39 = .ok (.ireturn, 1) := by decide +kernel
theorem dX2_init_0 : decode cX2_init 0 = .ok (.aload_n 0, 1) := by decide +kernel
theorem dX2_init_1 : decode cX2_init 1 = .ok (.invokespecial 3, 3) := by decide +kernel
theorem dX2_init_4 : decode cX2_init 4 = .ok (.return_, 1) := by decide +kernel
theorem dX2_read_0 : decode cX2_read 0 = .ok (.aload_n 0, 1) := by decide +kernel
theorem dX2_read_1 : decode cX2_read 1 = .ok (.aload_n 1, 1) := by decide +kernel
theorem dX2_read_2 : decode cX2_read 2 = .ok (.putfield 9, 3) := by decide +kernel
theorem dX2_read_5 : decode cX2_read 5 = .ok (.aload_n 0, 1) := by decide +kernel
theorem dX2_read_6 : decode cX2_read 6 = .ok (.iconst 0, 1) := by decide +kernel
theorem dX2_read_7 : decode cX2_read 7 = .ok (.putfield 15, 3) := by decide +kernel
theorem dX2_read_10 : decode cX2_read 10 = .ok (.aload_n 0, 1) := by decide +kernel
theorem dX2_read_11 : decode cX2_read 11 = .ok (.iconst 1, 1) := by decide +kernel
theorem dX2_read_12 : decode cX2_read 12 = .ok (.putfield 19, 3) := by decide +kernel
theorem dX2_read_15 : decode cX2_read 15 = .ok (.aload_n 0, 1) := by decide +kernel
theorem dX2_read_16 : decode cX2_read 16 = .ok (.invokevirtual 23, 3) := by decide +kernel
theorem dX2_read_19 : decode cX2_read 19 = .ok (.aload_n 0, 1) := by decide +kernel
theorem dX2_read_20 : decode cX2_read 20 = .ok (.bipush 115, 2) := by decide +kernel
theorem dX2_read_22 : decode cX2_read 22 = .ok (.invokevirtual 26, 3) := by decide +kernel
theorem dX2_read_25 : decode cX2_read 25 = .ok (.aload_n 0, 1) := by decide +kernel
theorem dX2_read_26 : decode cX2_read 26 = .ok (.iconst 1, 1) := by decide +kernel
theorem dX2_read_27 : decode cX2_read 27 = .ok (.invokevirtual 30, 3) := by decide +kernel
theorem dX2_read_30 : decode cX2_read 30 = .ok (.istore_n 3, 1) := by decide +kernel
theorem dX2_read_31 : decode cX2_read 31 = .ok (.aload_n 2, 1) := by decide +kernel
theorem dX2_read_32 : decode cX2_read 32 = .ok (.iload_n 3, 1) := by decide +kernel
theorem dX2_read_33 : decode cX2_read 33 = .ok (.aload_n 0, 1) := by decide +kernel
theorem dX2_read_34 : decode cX2_read 34 = .ok (.invokevirtual 34, 3) := by decide +kernel
theorem dX2_read_37 : decode cX2_read 37 = .ok (.invokevirtual 38, 3) := by decide +kernel
theorem dX2_read_40 : decode cX2_read 40 = .ok (.iconst 0, 1) := by decide +kernel
theorem dX2_read_41 : decode cX2_read 41 = .ok (.istore 4, 2) := by decide +kernel
theorem dX2_read_43 : decode cX2_read 43 = .ok (.iload 4, 2) := by decide +kernel
theorem dX2_read_45 : decode cX2_read 45 = .ok (.bipush 6, 2) := by decide +kernel
theorem dX2_read_47 : decode cX2_read 47 = .ok (.if_icmp .gt 77, 3) := by decide +kernel
theorem dX2_read_50 : decode cX2_read 50 = .ok (.aload_n 0, 1) := by decide +kernel
theorem dX2_read_51 : decode cX2_read 51 = .ok (.getfield 19, 3) := by decide +kernel
theorem dX2_read_54 : decode cX2_read 54 = .ok (.ifCond .eq 70, 3) := by decide +kernel
theorem dX2_read_57 : decode cX2_read 57 = .ok (.aload_n 0, 1) := by decide +kernel
theorem dX2_read_58 : decode cX2_read 58 = .ok (.invokevirtual 23, 3) := by decide +kernel
theorem dX2_read_61 : decode cX2_read 61 = .ok (.aload_n 0, 1) := by decide +kernel
theorem dX2_read_62 : decode cX2_read 62 = .ok (.getfield 15, 3) := by decide +kernel
theorem dX2_read_65 : decode cX2_read 65 = .ok (.aload_n 1, 1) := by decide +kernel
theorem dX2_read_66 : decode cX2_read 66 = .ok (.getfield 44, 3) := by decide +kernel
theorem dX2_read_69 : decode cX2_read 69 = .ok (.if_icmp .lt 7, 3) := by decide +kernel
theorem dX2_read_72 : decode cX2_read 72 = .ok (.iconst 1, 1) := by decide +kernel
theorem dX2_read_73 : decode cX2_read 73 = .ok (.goto 4, 3) := by decide +kernel
theorem dX2_read_76 : decode cX2_read 76 = .ok (.iconst 0, 1) := by decide +kernel
theorem dX2_read_77 : decode cX2_read 77 = .ok (.istore 5, 2) := by decide +kernel
theorem dX2_read_79 : decode cX2_read 79 = .ok (.iload 5, 2) := by decide +kernel
theorem dX2_read_81 : decode cX2_read 81 = .ok (.ifCond .eq 11, 3) := by decide +kernel
theorem dX2_read_84 : decode cX2_read 84 = .ok (.iload 4, 2) := by decide +kernel
theorem dX2_read_86 : decode cX2_read 86 = .ok (.ifCond .le 6, 3) := by decide +kernel
theorem dX2_read_89 : decode cX2_read 89 = .ok (.bipush (-9), 2) := by decide +kernel
theorem dX2_read_91 : decode cX2_read 91 = .ok (.ireturn, 1) := by decide +kernel
theorem dX2_read_92 : decode cX2_read 92 = .ok (.aload_n 0, 1) := by decide +kernel
theorem dX2_read_93 : decode cX2_read 93 = .ok (.iload 5, 2) := by decide +kernel
theorem dX2_read_95 : decode cX2_read 95 = .ok (.ifCond .ne 14, 3) := by decide +kernel
theorem dX2_read_98 : decode cX2_read 98 = .ok (.iload 4, 2) := by decide +kernel
theorem dX2_read_100 : decode cX2_read 100 = .ok (.bipush 6, 2) := by decide +kernel
theorem dX2_read_102 : decode cX2_read 102 = .ok (.if_icmp .ge 7, 3) := by decide +kernel
theorem dX2_read_105 : decode cX2_read 105 = .ok (.iconst 1, 1) := by decide +kernel
theorem dX2_read_106 : decode cX2_read 106 = .ok (.goto 4, 3) := by decide +kernel
theorem dX2_read_109 : decode cX2_read 109 = .ok (.iconst 0, 1) := by decide +kernel
theorem dX2_read_110 : decode cX2_read 110 = .ok (.putfield 19, 3) := by decide +kernel
theorem dX2_read_113 : decode cX2_read 113 = .ok (.aload_n 0, 1) := by decide +kernel
theorem dX2_read_114 : decode cX2_read 114 = .ok (.aload_n 2, 1) := by decide +kernel
theorem dX2_read_115 : decode cX2_read 115 = .ok (.invokevirtual 49, 3) := by decide +kernel
theorem dX2_read_118 : decode cX2_read 118 = .ok (.iinc 4 1, 3) := by decide +kernel
theorem dX2_read_121 : decode cX2_read 121 = .ok (.goto (-78), 3) := by decide +kernel
theorem dX2_read_124 : decode cX2_read 124 = .ok (.aload_n 0, 1) := by decide +kernel
theorem dX2_read_125 : decode cX2_read 125 = .ok (.getfield 15, 3) := by decide +kernel
theorem dX2_read_128 : decode cX2_read 128 = .ok (.ireturn, 1) := by decide +kernel
theorem dX2_readHouse_0 : decode cX2_readHouse 0 = .ok (.aload_n 0, 1) := by decide +kernel
theorem dX2_readHouse_1 : decode cX2_readHouse 1 = .ok (.invokevirtual 53, 3) := by decide +kernel
theorem dX2_readHouse_4 : decode cX2_readHouse 4 = .ok (.invokestatic 56, 3) := by decide +kernel
theorem dX2_readHouse_7 : decode cX2_readHouse 7 = .ok (.istore_n 2, 1) := by decide +kernel
theorem dX2_readHouse_8 : decode cX2_readHouse 8 = .ok (.aload_n 0, 1) := by decide +kernel
theorem dX2_readHouse_9 : decode cX2_readHouse 9 = .ok (.aload_n 0, 1) := by decide +kernel
theorem dX2_readHouse_10 : decode cX2_readHouse 10 = .ok (.getfield 19, 3) := by decide +kernel
theorem dX2_readHouse_13 : decode cX2_readHouse 13 = .ok (.ifCond .eq 13, 3) := by decide +kernel
theorem dX2_readHouse_16 : decode cX2_readHouse 16 = .ok (.iload_n 2, 1) := by decide +kernel
theorem dX2_readHouse_17 : decode cX2_readHouse 17 = .ok (.bipush (-9), 2) := by decide +kernel
theorem dX2_readHouse_19 : decode cX2_readHouse 19 = .ok (.if_icmp .eq 7, 3) := by decide +kernel
theorem dX2_readHouse_22 : decode cX2_readHouse 22 = .ok (.iconst 1, 1) := by decide +kernel
theorem dX2_readHouse_23 : decode cX2_readHouse 23 = .ok (.goto 4, 3) := by decide +kernel
theorem dX2_readHouse_26 : decode cX2_readHouse 26 = .ok (.iconst 0, 1) := by decide +kernel
theorem dX2_readHouse_27 : decode cX2_readHouse 27 = .ok (.putfield 19, 3) := by decide +kernel
theorem dX2_readHouse_30 : decode cX2_readHouse 30 = .ok (.aload_n 0, 1) := by decide +kernel
theorem dX2_readHouse_31 : decode cX2_readHouse 31 = .ok (.dup, 1) := by decide +kernel
theorem dX2_readHouse_32 : decode cX2_readHouse 32 = .ok (.getfield 15, 3) := by decide +kernel
theorem dX2_readHouse_35 : decode cX2_readHouse 35 = .ok (.aload_n 0, 1) := by decide +kernel
theorem dX2_readHouse_36 : decode cX2_readHouse 36 = .ok (.getfield 19, 3) := by decide +kernel
theorem dX2_readHouse_39 : decode cX2_readHouse 39 = .ok (.ifCond .eq 7, 3) := by decide +kernel
theorem dX2_readHouse_42 : decode cX2_readHouse 42 = .ok (.iconst 1, 1) := by decide +kernel
theorem dX2_readHouse_43 : decode cX2_readHouse 43 = .ok (.goto 4, 3) := by decide +kernel
theorem dX2_readHouse_46 : decode cX2_readHouse 46 = .ok (.iconst 0, 1) := by decide +kernel
theorem dX2_readHouse_47 : decode cX2_readHouse 47 = .ok (.iadd, 1) := by decide +kernel
theorem dX2_readHouse_48 : decode cX2_readHouse 48 = .ok (.putfield 15, 3) := by decide +kernel
theorem dX2_readHouse_51 : decode cX2_readHouse 51 = .ok (.aload_n 0, 1) := by decide +kernel
theorem dX2_readHouse_52 : decode cX2_readHouse 52 = .ok (.invokevirtual 34, 3) := by decide +kernel
theorem dX2_readHouse_55 : decode cX2_readHouse 55 = .ok (.istore_n 3, 1) := by decide +kernel
theorem dX2_readHouse_56 : decode cX2_readHouse 56 = .ok (.aload_n 0, 1) := by decide +kernel
theorem dX2_readHouse_57 : decode cX2_readHouse 57 = .ok (.invokevirtual 34, 3) := by decide +kernel
theorem dX2_readHouse_60 : decode cX2_readHouse 60 = .ok (.istore 4, 2) := by decide +kernel
theorem dX2_readHouse_62 : decode cX2_readHouse 62 = .ok (.aload_n 0, 1) := by decide +kernel
theorem dX2_readHouse_63 : decode cX2_readHouse 63 = .ok (.getfield 19, 3) := by decide +kernel
theorem dX2_readHouse_66 : decode cX2_readHouse 66 = .ok (.ifCond .eq 11, 3) := by decide +kernel
theorem dX2_readHouse_69 : decode cX2_readHouse 69 = .ok (.aload_n 1, 1) := by decide +kernel
theorem dX2_readHouse_70 : decode cX2_readHouse 70 = .ok (.iload_n 2, 1) := by decide +kernel
theorem dX2_readHouse_71 : decode cX2_readHouse 71 = .ok (.iload_n 3, 1) := by decide +kernel
theorem dX2_readHouse_72 : decode cX2_readHouse 72 = .ok (.iload 4, 2) := by decide +kernel
theorem dX2_readHouse_74 : decode cX2_readHouse 74 = .ok (.invokevirtual 61, 3) := by decide +kernel
theorem dX2_readHouse_77 : decode cX2_readHouse 77 = .ok (.return_, 1) := by decide +kernel
theorem dX2_sign_0 : decode cX2_sign 0 = .ok (.aload_n 0, 1) := by decide +kernel
theorem dX2_sign_1 : decode cX2_sign 1 = .ok (.getfield 9, 3) := by decide +kernel
theorem dX2_sign_4 : decode cX2_sign 4 = .ok (.ifnonnull 7, 3) := by decide +kernel
theorem dX2_sign_7 : decode cX2_sign 7 = .ok (.iconst 0, 1) := by decide +kernel
theorem dX2_sign_8 : decode cX2_sign 8 = .ok (.goto 14, 3) := by decide +kernel
theorem dX2_sign_11 : decode cX2_sign 11 = .ok (.aload_n 0, 1) := by decide +kernel
theorem dX2_sign_12 : decode cX2_sign 12 = .ok (.getfield 9, 3) := by decide +kernel
theorem dX2_sign_15 : decode cX2_sign 15 = .ok (.aload_n 0, 1) := by decide +kernel
theorem dX2_sign_16 : decode cX2_sign 16 = .ok (.getfield 15, 3) := by decide +kernel
theorem dX2_sign_19 : decode cX2_sign 19 = .ok (.invokevirtual 65, 3) := by decide +kernel
theorem dX2_sign_22 : decode cX2_sign 22 = .ok (.ireturn, 1) := by decide +kernel
theorem dX2_skipBlanks_0 : decode cX2_skipBlanks 0 = .ok (.iconst 0, 1) := by decide +kernel
theorem dX2_skipBlanks_1 : decode cX2_skipBlanks 1 = .ok (.istore_n 1, 1) := by decide +kernel
theorem dX2_skipBlanks_2 : decode cX2_skipBlanks 2 = .ok (.iload_n 1, 1) := by decide +kernel
theorem dX2_skipBlanks_3 : decode cX2_skipBlanks 3 = .ok (.bipush 60, 2) := by decide +kernel
theorem dX2_skipBlanks_5 : decode cX2_skipBlanks 5 = .ok (.if_icmp .ge 28, 3) := by decide +kernel
theorem dX2_skipBlanks_8 : decode cX2_skipBlanks 8 = .ok (.aload_n 0, 1) := by decide +kernel
theorem dX2_skipBlanks_9 : decode cX2_skipBlanks 9 = .ok (.invokevirtual 53, 3) := by decide +kernel
theorem dX2_skipBlanks_12 : decode cX2_skipBlanks 12 = .ok (.bipush 32, 2) := by decide +kernel
theorem dX2_skipBlanks_14 : decode cX2_skipBlanks 14 = .ok (.if_icmp .ne 19, 3) := by decide +kernel
theorem dX2_skipBlanks_17 : decode cX2_skipBlanks 17 = .ok (.aload_n 0, 1) := by decide +kernel
theorem dX2_skipBlanks_18 : decode cX2_skipBlanks 18 = .ok (.dup, 1) := by decide +kernel
theorem dX2_skipBlanks_19 : decode cX2_skipBlanks 19 = .ok (.getfield 15, 3) := by decide +kernel
theorem dX2_skipBlanks_22 : decode cX2_skipBlanks 22 = .ok (.iconst 1, 1) := by decide +kernel
theorem dX2_skipBlanks_23 : decode cX2_skipBlanks 23 = .ok (.iadd, 1) := by decide +kernel
theorem dX2_skipBlanks_24 : decode cX2_skipBlanks 24 = .ok (.putfield 15, 3) := by decide +kernel
theorem dX2_skipBlanks_27 : decode cX2_skipBlanks 27 = .ok (.iinc 1 1, 3) := by decide +kernel
theorem dX2_skipBlanks_30 : decode cX2_skipBlanks 30 = .ok (.goto (-28), 3) := by decide +kernel
theorem dX2_skipBlanks_33 : decode cX2_skipBlanks 33 = .ok (.return_, 1) := by decide +kernel
theorem dX2_letter_0 : decode cX2_letter 0 = .ok (.aload_n 0, 1) := by decide +kernel
theorem dX2_letter_1 : decode cX2_letter 1 = .ok (.aload_n 0, 1) := by decide +kernel
theorem dX2_letter_2 : decode cX2_letter 2 = .ok (.getfield 19, 3) := by decide +kernel
theorem dX2_letter_5 : decode cX2_letter 5 = .ok (.ifCond .eq 15, 3) := by decide +kernel
theorem dX2_letter_8 : decode cX2_letter 8 = .ok (.aload_n 0, 1) := by decide +kernel
theorem dX2_letter_9 : decode cX2_letter 9 = .ok (.invokevirtual 53, 3) := by decide +kernel
theorem dX2_letter_12 : decode cX2_letter 12 = .ok (.iload_n 1, 1) := by decide +kernel
theorem dX2_letter_13 : decode cX2_letter 13 = .ok (.if_icmp .ne 7, 3) := by decide +kernel
theorem dX2_letter_16 : decode cX2_letter 16 = .ok (.iconst 1, 1) := by decide +kernel
theorem dX2_letter_17 : decode cX2_letter 17 = .ok (.goto 4, 3) := by decide +kernel
theorem dX2_letter_20 : decode cX2_letter 20 = .ok (.iconst 0, 1) := by decide +kernel
theorem dX2_letter_21 : decode cX2_letter 21 = .ok (.putfield 19, 3) := by decide +kernel
theorem dX2_letter_24 : decode cX2_letter 24 = .ok (.aload_n 0, 1) := by decide +kernel
theorem dX2_letter_25 : decode cX2_letter 25 = .ok (.dup, 1) := by decide +kernel
theorem dX2_letter_26 : decode cX2_letter 26 = .ok (.getfield 15, 3) := by decide +kernel
theorem dX2_letter_29 : decode cX2_letter 29 = .ok (.aload_n 0, 1) := by decide +kernel
theorem dX2_letter_30 : decode cX2_letter 30 = .ok (.getfield 19, 3) := by decide +kernel
theorem dX2_letter_33 : decode cX2_letter 33 = .ok (.ifCond .eq 7, 3) := by decide +kernel
theorem dX2_letter_36 : decode cX2_letter 36 = .ok (.iconst 1, 1) := by decide +kernel
theorem dX2_letter_37 : decode cX2_letter 37 = .ok (.goto 4, 3) := by decide +kernel
theorem dX2_letter_40 : decode cX2_letter 40 = .ok (.iconst 0, 1) := by decide +kernel
theorem dX2_letter_41 : decode cX2_letter 41 = .ok (.iadd, 1) := by decide +kernel
theorem dX2_letter_42 : decode cX2_letter 42 = .ok (.putfield 15, 3) := by decide +kernel
theorem dX2_letter_45 : decode cX2_letter 45 = .ok (.return_, 1) := by decide +kernel
theorem dX2_figure_0 : decode cX2_figure 0 = .ok (.aload_n 0, 1) := by decide +kernel
theorem dX2_figure_1 : decode cX2_figure 1 = .ok (.invokevirtual 53, 3) := by decide +kernel
theorem dX2_figure_4 : decode cX2_figure 4 = .ok (.bipush 48, 2) := by decide +kernel
theorem dX2_figure_6 : decode cX2_figure 6 = .ok (.isub, 1) := by decide +kernel
theorem dX2_figure_7 : decode cX2_figure 7 = .ok (.istore_n 2, 1) := by decide +kernel
theorem dX2_figure_8 : decode cX2_figure 8 = .ok (.aload_n 0, 1) := by decide +kernel
theorem dX2_figure_9 : decode cX2_figure 9 = .ok (.aload_n 0, 1) := by decide +kernel
theorem dX2_figure_10 : decode cX2_figure 10 = .ok (.getfield 19, 3) := by decide +kernel
theorem dX2_figure_13 : decode cX2_figure 13 = .ok (.ifCond .eq 16, 3) := by decide +kernel
theorem dX2_figure_16 : decode cX2_figure 16 = .ok (.iload_n 2, 1) := by decide +kernel
theorem dX2_figure_17 : decode cX2_figure 17 = .ok (.ifCond .lt 12, 3) := by decide +kernel
theorem dX2_figure_20 : decode cX2_figure 20 = .ok (.iload_n 2, 1) := by decide +kernel
theorem dX2_figure_21 : decode cX2_figure 21 = .ok (.iload_n 1, 1) := by decide +kernel
theorem dX2_figure_22 : decode cX2_figure 22 = .ok (.if_icmp .gt 7, 3) := by decide +kernel
theorem dX2_figure_25 : decode cX2_figure 25 = .ok (.iconst 1, 1) := by decide +kernel
theorem dX2_figure_26 : decode cX2_figure 26 = .ok (.goto 4, 3) := by decide +kernel
theorem dX2_figure_29 : decode cX2_figure 29 = .ok (.iconst 0, 1) := by decide +kernel
theorem dX2_figure_30 : decode cX2_figure 30 = .ok (.putfield 19, 3) := by decide +kernel
theorem dX2_figure_33 : decode cX2_figure 33 = .ok (.aload_n 0, 1) := by decide +kernel
theorem dX2_figure_34 : decode cX2_figure 34 = .ok (.dup, 1) := by decide +kernel
theorem dX2_figure_35 : decode cX2_figure 35 = .ok (.getfield 15, 3) := by decide +kernel
theorem dX2_figure_38 : decode cX2_figure 38 = .ok (.aload_n 0, 1) := by decide +kernel
theorem dX2_figure_39 : decode cX2_figure 39 = .ok (.getfield 19, 3) := by decide +kernel
theorem dX2_figure_42 : decode cX2_figure 42 = .ok (.ifCond .eq 7, 3) := by decide +kernel
theorem dX2_figure_45 : decode cX2_figure 45 = .ok (.iconst 1, 1) := by decide +kernel
theorem dX2_figure_46 : decode cX2_figure 46 = .ok (.goto 4, 3) := by decide +kernel
theorem dX2_figure_49 : decode cX2_figure 49 = .ok (.iconst 0, 1) := by decide +kernel
theorem dX2_figure_50 : decode cX2_figure 50 = .ok (.iadd, 1) := by decide +kernel
theorem dX2_figure_51 : decode cX2_figure 51 = .ok (.putfield 15, 3) := by decide +kernel
theorem dX2_figure_54 : decode cX2_figure 54 = .ok (.aload_n 0, 1) := by decide +kernel
theorem dX2_figure_55 : decode cX2_figure 55 = .ok (.getfield 19, 3) := by decide +kernel
theorem dX2_figure_58 : decode cX2_figure 58 = .ok (.ifCond .eq 7, 3) := by decide +kernel
theorem dX2_figure_61 : decode cX2_figure 61 = .ok (.iload_n 2, 1) := by decide +kernel
theorem dX2_figure_62 : decode cX2_figure 62 = .ok (.goto 4, 3) := by decide +kernel
theorem dX2_figure_65 : decode cX2_figure 65 = .ok (.iconst 0, 1) := by decide +kernel
theorem dX2_figure_66 : decode cX2_figure 66 = .ok (.ireturn, 1) := by decide +kernel
theorem dX2_twoFigures_0 : decode cX2_twoFigures 0 = .ok (.aload_n 0, 1) := by decide +kernel
theorem dX2_twoFigures_1 : decode cX2_twoFigures 1 = .ok (.bipush 9, 2) := by decide +kernel
theorem dX2_twoFigures_3 : decode cX2_twoFigures 3 = .ok (.invokevirtual 30, 3) := by decide +kernel
theorem dX2_twoFigures_6 : decode cX2_twoFigures 6 = .ok (.istore_n 1, 1) := by decide +kernel
theorem dX2_twoFigures_7 : decode cX2_twoFigures 7 = .ok (.bipush 10, 2) := by decide +kernel
theorem dX2_twoFigures_9 : decode cX2_twoFigures 9 = .ok (.iload_n 1, 1) := by decide +kernel
theorem dX2_twoFigures_10 : decode cX2_twoFigures 10 = .ok (.imul, 1) := by decide +kernel
theorem dX2_twoFigures_11 : decode cX2_twoFigures 11 = .ok (.aload_n 0, 1) := by decide +kernel
theorem dX2_twoFigures_12 : decode cX2_twoFigures 12 = .ok (.bipush 9, 2) := by decide +kernel
theorem dX2_twoFigures_14 : decode cX2_twoFigures 14 = .ok (.invokevirtual 30, 3) := by decide +kernel
theorem dX2_twoFigures_17 : decode cX2_twoFigures 17 = .ok (.iadd, 1) := by decide +kernel
theorem dX2_twoFigures_18 : decode cX2_twoFigures 18 = .ok (.ireturn, 1) := by decide +kernel
theorem dX3_init_0 : decode cX3_init 0 = .ok (.aload_n 0, 1) := by decide +kernel
theorem dX3_init_1 : decode cX3_init 1 = .ok (.invokespecial 3, 3) := by decide +kernel
theorem dX3_init_4 : decode cX3_init 4 = .ok (.aload_n 0, 1) := by decide +kernel
theorem dX3_init_5 : decode cX3_init 5 = .ok (.new 9, 3) := by decide +kernel
theorem dX3_init_8 : decode cX3_init 8 = .ok (.dup, 1) := by decide +kernel
theorem dX3_init_9 : decode cX3_init 9 = .ok (.sipush 384, 3) := by decide +kernel
theorem dX3_init_12 : decode cX3_init 12 = .ok (.invokespecial 11, 3) := by decide +kernel
theorem dX3_init_15 : decode cX3_init 15 = .ok (.putfield 14, 3) := by decide +kernel
theorem dX3_init_18 : decode cX3_init 18 = .ok (.aload_n 0, 1) := by decide +kernel
theorem dX3_init_19 : decode cX3_init 19 = .ok (.new 9, 3) := by decide +kernel
theorem dX3_init_22 : decode cX3_init 22 = .ok (.dup, 1) := by decide +kernel
theorem dX3_init_23 : decode cX3_init 23 = .ok (.bipush 6, 2) := by decide +kernel
theorem dX3_init_25 : decode cX3_init 25 = .ok (.invokespecial 11, 3) := by decide +kernel
theorem dX3_init_28 : decode cX3_init 28 = .ok (.putfield 20, 3) := by decide +kernel
theorem dX3_init_31 : decode cX3_init 31 = .ok (.aload_n 0, 1) := by decide +kernel
theorem dX3_init_32 : decode cX3_init 32 = .ok (.new 9, 3) := by decide +kernel
theorem dX3_init_35 : decode cX3_init 35 = .ok (.dup, 1) := by decide +kernel
theorem dX3_init_36 : decode cX3_init 36 = .ok (.bipush 6, 2) := by decide +kernel
theorem dX3_init_38 : decode cX3_init 38 = .ok (.invokespecial 11, 3) := by decide +kernel
theorem dX3_init_41 : decode cX3_init 41 = .ok (.putfield 23, 3) := by decide +kernel
theorem dX3_init_44 : decode cX3_init 44 = .ok (.aload_n 0, 1) := by decide +kernel
theorem dX3_init_45 : decode cX3_init 45 = .ok (.new 9, 3) := by decide +kernel
theorem dX3_init_48 : decode cX3_init 48 = .ok (.dup, 1) := by decide +kernel
theorem dX3_init_49 : decode cX3_init 49 = .ok (.bipush 6, 2) := by decide +kernel
theorem dX3_init_51 : decode cX3_init 51 = .ok (.invokespecial 11, 3) := by decide +kernel
theorem dX3_init_54 : decode cX3_init 54 = .ok (.putfield 26, 3) := by decide +kernel
theorem dX3_init_57 : decode cX3_init 57 = .ok (.aload_n 0, 1) := by decide +kernel
theorem dX3_init_58 : decode cX3_init 58 = .ok (.new 9, 3) := by decide +kernel
theorem dX3_init_61 : decode cX3_init 61 = .ok (.dup, 1) := by decide +kernel
theorem dX3_init_62 : decode cX3_init 62 = .ok (.bipush 6, 2) := by decide +kernel
theorem dX3_init_64 : decode cX3_init 64 = .ok (.invokespecial 11, 3) := by decide +kernel
theorem dX3_init_67 : decode cX3_init 67 = .ok (.putfield 29, 3) := by decide +kernel
theorem dX3_init_70 : decode cX3_init 70 = .ok (.return_, 1) := by decide +kernel
theorem dX3_start_0 : decode cX3_start 0 = .ok (.aload_n 0, 1) := by decide +kernel
theorem dX3_start_1 : decode cX3_start 1 = .ok (.getfield 23, 3) := by decide +kernel
theorem dX3_start_4 : decode cX3_start 4 = .ok (.aload_n 1, 1) := by decide +kernel
theorem dX3_start_5 : decode cX3_start 5 = .ok (.getfield 32, 3) := by decide +kernel
theorem dX3_start_8 : decode cX3_start 8 = .ok (.iconst 0, 1) := by decide +kernel
theorem dX3_start_9 : decode cX3_start 9 = .ok (.invokevirtual 38, 3) := by decide +kernel
theorem dX3_start_12 : decode cX3_start 12 = .ok (.aload_n 0, 1) := by decide +kernel
theorem dX3_start_13 : decode cX3_start 13 = .ok (.getfield 26, 3) := by decide +kernel
theorem dX3_start_16 : decode cX3_start 16 = .ok (.aload_n 1, 1) := by decide +kernel
theorem dX3_start_17 : decode cX3_start 17 = .ok (.getfield 32, 3) := by decide +kernel
theorem dX3_start_20 : decode cX3_start 20 = .ok (.iconst 0, 1) := by decide +kernel
theorem dX3_start_21 : decode cX3_start 21 = .ok (.invokevirtual 38, 3) := by decide +kernel
theorem dX3_start_24 : decode cX3_start 24 = .ok (.iconst 0, 1) := by decide +kernel
theorem dX3_start_25 : decode cX3_start 25 = .ok (.istore_n 2, 1) := by decide +kernel
theorem dX3_start_26 : decode cX3_start 26 = .ok (.iload_n 2, 1) := by decide +kernel
theorem dX3_start_27 : decode cX3_start 27 = .ok (.aload_n 1, 1) := by decide +kernel
theorem dX3_start_28 : decode cX3_start 28 = .ok (.getfield 32, 3) := by decide +kernel
theorem dX3_start_31 : decode cX3_start 31 = .ok (.if_icmp .ge 43, 3) := by decide +kernel
theorem dX3_start_34 : decode cX3_start 34 = .ok (.aload_n 0, 1) := by decide +kernel
theorem dX3_start_35 : decode cX3_start 35 = .ok (.getfield 23, 3) := by decide +kernel
theorem dX3_start_38 : decode cX3_start 38 = .ok (.iload_n 2, 1) := by decide +kernel
theorem dX3_start_39 : decode cX3_start 39 = .ok (.aload_n 1, 1) := by decide +kernel
theorem dX3_start_40 : decode cX3_start 40 = .ok (.iload_n 2, 1) := by decide +kernel
theorem dX3_start_41 : decode cX3_start 41 = .ok (.invokevirtual 42, 3) := by decide +kernel
theorem dX3_start_44 : decode cX3_start 44 = .ok (.invokevirtual 45, 3) := by decide +kernel
theorem dX3_start_47 : decode cX3_start 47 = .ok (.aload_n 0, 1) := by decide +kernel
theorem dX3_start_48 : decode cX3_start 48 = .ok (.getfield 26, 3) := by decide +kernel
theorem dX3_start_51 : decode cX3_start 51 = .ok (.iload_n 2, 1) := by decide +kernel
theorem dX3_start_52 : decode cX3_start 52 = .ok (.aload_n 1, 1) := by decide +kernel
theorem dX3_start_53 : decode cX3_start 53 = .ok (.getfield 48, 3) := by decide +kernel
theorem dX3_start_56 : decode cX3_start 56 = .ok (.iload_n 2, 1) := by decide +kernel
theorem dX3_start_57 : decode cX3_start 57 = .ok (.invokevirtual 51, 3) := by decide +kernel
theorem dX3_start_60 : decode cX3_start 60 = .ok (.aload_n 1, 1) := by decide +kernel
theorem dX3_start_61 : decode cX3_start 61 = .ok (.getfield 54, 3) := by decide +kernel
theorem dX3_start_64 : decode cX3_start 64 = .ok (.isub, 1) := by decide +kernel
theorem dX3_start_65 : decode cX3_start 65 = .ok (.invokevirtual 45, 3) := by decide +kernel
theorem dX3_start_68 : decode cX3_start 68 = .ok (.iinc 2 1, 3) := by decide +kernel
theorem dX3_start_71 : decode cX3_start 71 = .ok (.goto (-45), 3) := by decide +kernel
theorem dX3_start_74 : decode cX3_start 74 = .ok (.return_, 1) := by decide +kernel
theorem dX3_walkOver_0 : decode cX3_walkOver 0 = .ok (.bipush 6, 2) := by decide +kernel
theorem dX3_walkOver_2 : decode cX3_walkOver 2 = .ok (.istore_n 2, 1) := by decide +kernel
theorem dX3_walkOver_3 : decode cX3_walkOver 3 = .ok (.iconst 0, 1) := by decide +kernel
theorem dX3_walkOver_4 : decode cX3_walkOver 4 = .ok (.istore_n 3, 1) := by decide +kernel
theorem dX3_walkOver_5 : decode cX3_walkOver 5 = .ok (.iconst 0, 1) := by decide +kernel
theorem dX3_walkOver_6 : decode cX3_walkOver 6 = .ok (.istore 4, 2) := by decide +kernel
theorem dX3_walkOver_8 : decode cX3_walkOver 8 = .ok (.iload 4, 2) := by decide +kernel
theorem dX3_walkOver_10 : decode cX3_walkOver 10 = .ok (.bipush 6, 2) := by decide +kernel
theorem dX3_walkOver_12 : decode cX3_walkOver 12 = .ok (.if_icmp .ge 28, 3) := by decide +kernel
theorem dX3_walkOver_15 : decode cX3_walkOver 15 = .ok (.iload_n 0, 1) := by decide +kernel
theorem dX3_walkOver_16 : decode cX3_walkOver 16 = .ok (.iload 4, 2) := by decide +kernel
theorem dX3_walkOver_18 : decode cX3_walkOver 18 = .ok (.invokestatic 57, 3) := by decide +kernel
theorem dX3_walkOver_21 : decode cX3_walkOver 21 = .ok (.ifCond .eq 13, 3) := by decide +kernel
theorem dX3_walkOver_24 : decode cX3_walkOver 24 = .ok (.iload_n 2, 1) := by decide +kernel
theorem dX3_walkOver_25 : decode cX3_walkOver 25 = .ok (.iload 4, 2) := by decide +kernel
theorem dX3_walkOver_27 : decode cX3_walkOver 27 = .ok (.invokestatic 61, 3) := by decide +kernel
theorem dX3_walkOver_30 : decode cX3_walkOver 30 = .ok (.istore_n 2, 1) := by decide +kernel
theorem dX3_walkOver_31 : decode cX3_walkOver 31 = .ok (.iload 4, 2) := by decide +kernel
theorem dX3_walkOver_33 : decode cX3_walkOver 33 = .ok (.istore_n 3, 1) := by decide +kernel
theorem dX3_walkOver_34 : decode cX3_walkOver 34 = .ok (.iinc 4 1, 3) := by decide +kernel
theorem dX3_walkOver_37 : decode cX3_walkOver 37 = .ok (.goto (-29), 3) := by decide +kernel
theorem dX3_walkOver_40 : decode cX3_walkOver 40 = .ok (.iload_n 1, 1) := by decide +kernel
theorem dX3_walkOver_41 : decode cX3_walkOver 41 = .ok (.iload_n 2, 1) := by decide +kernel
theorem dX3_walkOver_42 : decode cX3_walkOver 42 = .ok (.isub, 1) := by decide +kernel
theorem dX3_walkOver_43 : decode cX3_walkOver 43 = .ok (.invokestatic 67, 3) := by decide +kernel
theorem dX3_walkOver_46 : decode cX3_walkOver 46 = .ok (.iload_n 1, 1) := by decide +kernel
theorem dX3_walkOver_47 : decode cX3_walkOver 47 = .ok (.iload_n 3, 1) := by decide +kernel
theorem dX3_walkOver_48 : decode cX3_walkOver 48 = .ok (.isub, 1) := by decide +kernel
theorem dX3_walkOver_49 : decode cX3_walkOver 49 = .ok (.invokestatic 67, 3) := by decide +kernel
theorem dX3_walkOver_52 : decode cX3_walkOver 52 = .ok (.invokestatic 61, 3) := by decide +kernel
theorem dX3_walkOver_55 : decode cX3_walkOver 55 = .ok (.istore 4, 2) := by decide +kernel
theorem dX3_walkOver_57 : decode cX3_walkOver 57 = .ok (.iload_n 0, 1) := by decide +kernel
theorem dX3_walkOver_58 : decode cX3_walkOver 58 = .ok (.ifCond .ne 7, 3) := by decide +kernel
theorem dX3_walkOver_61 : decode cX3_walkOver 61 = .ok (.iconst 0, 1) := by decide +kernel
theorem dX3_walkOver_62 : decode cX3_walkOver 62 = .ok (.goto 9, 3) := by decide +kernel
theorem dX3_walkOver_65 : decode cX3_walkOver 65 = .ok (.iload_n 3, 1) := by decide +kernel
theorem dX3_walkOver_66 : decode cX3_walkOver 66 = .ok (.iload_n 2, 1) := by decide +kernel
theorem dX3_walkOver_67 : decode cX3_walkOver 67 = .ok (.isub, 1) := by decide +kernel
theorem dX3_walkOver_68 : decode cX3_walkOver 68 = .ok (.iload 4, 2) := by decide +kernel
theorem dX3_walkOver_70 : decode cX3_walkOver 70 = .ok (.iadd, 1) := by decide +kernel
theorem dX3_walkOver_71 : decode cX3_walkOver 71 = .ok (.ireturn, 1) := by decide +kernel
theorem dX3_fewest_0 : decode cX3_fewest 0 = .ok (.aload_n 0, 1) := by decide +kernel
theorem dX3_fewest_1 : decode cX3_fewest 1 = .ok (.aload_n 1, 1) := by decide +kernel
theorem dX3_fewest_2 : decode cX3_fewest 2 = .ok (.invokevirtual 70, 3) := by decide +kernel
theorem dX3_fewest_5 : decode cX3_fewest 5 = .ok (.aload_n 1, 1) := by decide +kernel
theorem dX3_fewest_6 : decode cX3_fewest 6 = .ok (.iload_n 2, 1) := by decide +kernel
theorem dX3_fewest_7 : decode cX3_fewest 7 = .ok (.invokevirtual 74, 3) := by decide +kernel
theorem dX3_fewest_10 : decode cX3_fewest 10 = .ok (.istore_n 3, 1) := by decide +kernel
theorem dX3_fewest_11 : decode cX3_fewest 11 = .ok (.sipush 1000, 3) := by decide +kernel
theorem dX3_fewest_14 : decode cX3_fewest 14 = .ok (.istore 4, 2) := by decide +kernel
theorem dX3_fewest_16 : decode cX3_fewest 16 = .ok (.aload_n 0, 1) := by decide +kernel
theorem dX3_fewest_17 : decode cX3_fewest 17 = .ok (.iload 4, 2) := by decide +kernel
theorem dX3_fewest_19 : decode cX3_fewest 19 = .ok (.putfield 77, 3) := by decide +kernel
theorem dX3_fewest_22 : decode cX3_fewest 22 = .ok (.aload_n 0, 1) := by decide +kernel
theorem dX3_fewest_23 : decode cX3_fewest 23 = .ok (.getfield 20, 3) := by decide +kernel
theorem dX3_fewest_26 : decode cX3_fewest 26 = .ok (.iload_n 2, 1) := by decide +kernel
theorem dX3_fewest_27 : decode cX3_fewest 27 = .ok (.invokestatic 80, 3) := by decide +kernel
theorem dX3_fewest_30 : decode cX3_fewest 30 = .ok (.iconst 0, 1) := by decide +kernel
theorem dX3_fewest_31 : decode cX3_fewest 31 = .ok (.invokevirtual 38, 3) := by decide +kernel
theorem dX3_fewest_34 : decode cX3_fewest 34 = .ok (.aload_n 0, 1) := by decide +kernel
theorem dX3_fewest_35 : decode cX3_fewest 35 = .ok (.iconst 0, 1) := by decide +kernel
theorem dX3_fewest_36 : decode cX3_fewest 36 = .ok (.iload_n 2, 1) := by decide +kernel
theorem dX3_fewest_37 : decode cX3_fewest 37 = .ok (.aload_n 1, 1) := by decide +kernel
theorem dX3_fewest_38 : decode cX3_fewest 38 = .ok (.getfield 85, 3) := by decide +kernel
theorem dX3_fewest_41 : decode cX3_fewest 41 = .ok (.iconst 0, 1) := by decide +kernel
theorem dX3_fewest_42 : decode cX3_fewest 42 = .ok (.iconst 0, 1) := by decide +kernel
theorem dX3_fewest_43 : decode cX3_fewest 43 = .ok (.invokestatic 88, 3) := by decide +kernel
theorem dX3_fewest_46 : decode cX3_fewest 46 = .ok (.aload_n 0, 1) := by decide +kernel
theorem dX3_fewest_47 : decode cX3_fewest 47 = .ok (.getfield 77, 3) := by decide +kernel
theorem dX3_fewest_50 : decode cX3_fewest 50 = .ok (.iload 4, 2) := by decide +kernel
theorem dX3_fewest_52 : decode cX3_fewest 52 = .ok (.if_icmp .ne 8, 3) := by decide +kernel
theorem dX3_fewest_55 : decode cX3_fewest 55 = .ok (.bipush (-9), 2) := by decide +kernel
theorem dX3_fewest_57 : decode cX3_fewest 57 = .ok (.goto 9, 3) := by decide +kernel
theorem dX3_fewest_60 : decode cX3_fewest 60 = .ok (.aload_n 0, 1) := by decide +kernel
theorem dX3_fewest_61 : decode cX3_fewest 61 = .ok (.getfield 77, 3) := by decide +kernel
theorem dX3_fewest_64 : decode cX3_fewest 64 = .ok (.iload_n 3, 1) := by decide +kernel
theorem dX3_fewest_65 : decode cX3_fewest 65 = .ok (.iadd, 1) := by decide +kernel
theorem dX3_fewest_66 : decode cX3_fewest 66 = .ok (.ireturn, 1) := by decide +kernel
theorem dX3_seek_0 : decode cX3_seek 0 = .ok (.iload_n 1, 1) := by decide +kernel
theorem dX3_seek_1 : decode cX3_seek 1 = .ok (.bipush 6, 2) := by decide +kernel
theorem dX3_seek_3 : decode cX3_seek 3 = .ok (.if_icmp .gt 18, 3) := by decide +kernel
theorem dX3_seek_6 : decode cX3_seek 6 = .ok (.iload 5, 2) := by decide +kernel
theorem dX3_seek_8 : decode cX3_seek 8 = .ok (.iload_n 2, 1) := by decide +kernel
theorem dX3_seek_9 : decode cX3_seek 9 = .ok (.iload_n 3, 1) := by decide +kernel
theorem dX3_seek_10 : decode cX3_seek 10 = .ok (.invokestatic 92, 3) := by decide +kernel
theorem dX3_seek_13 : decode cX3_seek 13 = .ok (.iadd, 1) := by decide +kernel
theorem dX3_seek_14 : decode cX3_seek 14 = .ok (.aload_n 0, 1) := by decide +kernel
theorem dX3_seek_15 : decode cX3_seek 15 = .ok (.getfield 77, 3) := by decide +kernel
theorem dX3_seek_18 : decode cX3_seek 18 = .ok (.if_icmp .lt 4, 3) := by decide +kernel
theorem dX3_seek_21 : decode cX3_seek 21 = .ok (.return_, 1) := by decide +kernel
theorem dX3_seek_22 : decode cX3_seek 22 = .ok (.iload_n 2, 1) := by decide +kernel
theorem dX3_seek_23 : decode cX3_seek 23 = .ok (.ifCond .ne 21, 3) := by decide +kernel
theorem dX3_seek_26 : decode cX3_seek 26 = .ok (.aload_n 0, 1) := by decide +kernel
theorem dX3_seek_27 : decode cX3_seek 27 = .ok (.iload 5, 2) := by decide +kernel
theorem dX3_seek_29 : decode cX3_seek 29 = .ok (.putfield 77, 3) := by decide +kernel
theorem dX3_seek_32 : decode cX3_seek 32 = .ok (.aload_n 0, 1) := by decide +kernel
theorem dX3_seek_33 : decode cX3_seek 33 = .ok (.getfield 29, 3) := by decide +kernel
theorem dX3_seek_36 : decode cX3_seek 36 = .ok (.aload_n 0, 1) := by decide +kernel
theorem dX3_seek_37 : decode cX3_seek 37 = .ok (.getfield 20, 3) := by decide +kernel
theorem dX3_seek_40 : decode cX3_seek 40 = .ok (.invokevirtual 95, 3) := by decide +kernel
theorem dX3_seek_43 : decode cX3_seek 43 = .ok (.return_, 1) := by decide +kernel
theorem dX3_seek_44 : decode cX3_seek 44 = .ok (.iconst 0, 1) := by decide +kernel
theorem dX3_seek_45 : decode cX3_seek 45 = .ok (.istore 6, 2) := by decide +kernel
theorem dX3_seek_47 : decode cX3_seek 47 = .ok (.iload 6, 2) := by decide +kernel
theorem dX3_seek_49 : decode cX3_seek 49 = .ok (.bipush 6, 2) := by decide +kernel
theorem dX3_seek_51 : decode cX3_seek 51 = .ok (.if_icmp .ge 92, 3) := by decide +kernel
theorem dX3_seek_54 : decode cX3_seek 54 = .ok (.iload 6, 2) := by decide +kernel
theorem dX3_seek_56 : decode cX3_seek 56 = .ok (.iload_n 3, 1) := by decide +kernel
theorem dX3_seek_57 : decode cX3_seek 57 = .ok (.isub, 1) := by decide +kernel
theorem dX3_seek_58 : decode cX3_seek 58 = .ok (.invokestatic 67, 3) := by decide +kernel
theorem dX3_seek_61 : decode cX3_seek 61 = .ok (.istore 7, 2) := by decide +kernel
theorem dX3_seek_63 : decode cX3_seek 63 = .ok (.iload 4, 2) := by decide +kernel
theorem dX3_seek_65 : decode cX3_seek 65 = .ok (.iload 7, 2) := by decide +kernel
theorem dX3_seek_67 : decode cX3_seek 67 = .ok (.iadd, 1) := by decide +kernel
theorem dX3_seek_68 : decode cX3_seek 68 = .ok (.aload_n 0, 1) := by decide +kernel
theorem dX3_seek_69 : decode cX3_seek 69 = .ok (.getfield 23, 3) := by decide +kernel
theorem dX3_seek_72 : decode cX3_seek 72 = .ok (.iload 6, 2) := by decide +kernel
theorem dX3_seek_74 : decode cX3_seek 74 = .ok (.invokevirtual 51, 3) := by decide +kernel
theorem dX3_seek_77 : decode cX3_seek 77 = .ok (.iadd, 1) := by decide +kernel
theorem dX3_seek_78 : decode cX3_seek 78 = .ok (.istore 8, 2) := by decide +kernel
theorem dX3_seek_80 : decode cX3_seek 80 = .ok (.iload_n 2, 1) := by decide +kernel
theorem dX3_seek_81 : decode cX3_seek 81 = .ok (.iload 6, 2) := by decide +kernel
theorem dX3_seek_83 : decode cX3_seek 83 = .ok (.invokestatic 57, 3) := by decide +kernel
theorem dX3_seek_86 : decode cX3_seek 86 = .ok (.ifCond .eq 51, 3) := by decide +kernel
theorem dX3_seek_89 : decode cX3_seek 89 = .ok (.iload 8, 2) := by decide +kernel
theorem dX3_seek_91 : decode cX3_seek 91 = .ok (.aload_n 0, 1) := by decide +kernel
theorem dX3_seek_92 : decode cX3_seek 92 = .ok (.getfield 26, 3) := by decide +kernel
theorem dX3_seek_95 : decode cX3_seek 95 = .ok (.iload 6, 2) := by decide +kernel
theorem dX3_seek_97 : decode cX3_seek 97 = .ok (.invokevirtual 51, 3) := by decide +kernel
theorem dX3_seek_100 : decode cX3_seek 100 = .ok (.if_icmp .gt 37, 3) := by decide +kernel
theorem dX3_seek_103 : decode cX3_seek 103 = .ok (.aload_n 0, 1) := by decide +kernel
theorem dX3_seek_104 : decode cX3_seek 104 = .ok (.getfield 20, 3) := by decide +kernel
theorem dX3_seek_107 : decode cX3_seek 107 = .ok (.iload_n 1, 1) := by decide +kernel
theorem dX3_seek_108 : decode cX3_seek 108 = .ok (.iload 6, 2) := by decide +kernel
theorem dX3_seek_110 : decode cX3_seek 110 = .ok (.invokevirtual 45, 3) := by decide +kernel
theorem dX3_seek_113 : decode cX3_seek 113 = .ok (.aload_n 0, 1) := by decide +kernel
theorem dX3_seek_114 : decode cX3_seek 114 = .ok (.iload_n 1, 1) := by decide +kernel
theorem dX3_seek_115 : decode cX3_seek 115 = .ok (.iconst 1, 1) := by decide +kernel
theorem dX3_seek_116 : decode cX3_seek 116 = .ok (.iadd, 1) := by decide +kernel
theorem dX3_seek_117 : decode cX3_seek 117 = .ok (.iload_n 2, 1) := by decide +kernel
theorem dX3_seek_118 : decode cX3_seek 118 = .ok (.iconst 1, 1) := by decide +kernel
theorem dX3_seek_119 : decode cX3_seek 119 = .ok (.iload 6, 2) := by decide +kernel
theorem dX3_seek_121 : decode cX3_seek 121 = .ok (.ishl, 1) := by decide +kernel
theorem dX3_seek_122 : decode cX3_seek 122 = .ok (.iconst (-1), 1) := by decide +kernel
theorem dX3_seek_123 : decode cX3_seek 123 = .ok (.ixor, 1) := by decide +kernel
theorem dX3_seek_124 : decode cX3_seek 124 = .ok (.iand, 1) := by decide +kernel
theorem dX3_seek_125 : decode cX3_seek 125 = .ok (.iload 6, 2) := by decide +kernel
theorem dX3_seek_127 : decode cX3_seek 127 = .ok (.iload 8, 2) := by decide +kernel
theorem dX3_seek_129 : decode cX3_seek 129 = .ok (.iload 5, 2) := by decide +kernel
theorem dX3_seek_131 : decode cX3_seek 131 = .ok (.iload 7, 2) := by decide +kernel
theorem dX3_seek_133 : decode cX3_seek 133 = .ok (.iadd, 1) := by decide +kernel
theorem dX3_seek_134 : decode cX3_seek 134 = .ok (.invokestatic 88, 3) := by decide +kernel
theorem dX3_seek_137 : decode cX3_seek 137 = .ok (.iinc 6 1, 3) := by decide +kernel
theorem dX3_seek_140 : decode cX3_seek 140 = .ok (.goto (-93), 3) := by decide +kernel
theorem dX3_seek_143 : decode cX3_seek 143 = .ok (.return_, 1) := by decide +kernel
theorem dX3_greatest_0 : decode cX3_greatest 0 = .ok (.aload_n 0, 1) := by decide +kernel
theorem dX3_greatest_1 : decode cX3_greatest 1 = .ok (.aload_n 1, 1) := by decide +kernel
theorem dX3_greatest_2 : decode cX3_greatest 2 = .ok (.invokevirtual 70, 3) := by decide +kernel
theorem dX3_greatest_5 : decode cX3_greatest 5 = .ok (.aload_n 0, 1) := by decide +kernel
theorem dX3_greatest_6 : decode cX3_greatest 6 = .ok (.getfield 14, 3) := by decide +kernel
theorem dX3_greatest_9 : decode cX3_greatest 9 = .ok (.bipush 6, 2) := by decide +kernel
theorem dX3_greatest_11 : decode cX3_greatest 11 = .ok (.aload_n 1, 1) := by decide +kernel
theorem dX3_greatest_12 : decode cX3_greatest 12 = .ok (.getfield 32, 3) := by decide +kernel
theorem dX3_greatest_15 : decode cX3_greatest 15 = .ok (.ishl, 1) := by decide +kernel
theorem dX3_greatest_16 : decode cX3_greatest 16 = .ok (.bipush (-9), 2) := by decide +kernel
theorem dX3_greatest_18 : decode cX3_greatest 18 = .ok (.invokevirtual 38, 3) := by decide +kernel
theorem dX3_greatest_21 : decode cX3_greatest 21 = .ok (.iconst 0, 1) := by decide +kernel
theorem dX3_greatest_22 : decode cX3_greatest 22 = .ok (.istore_n 2, 1) := by decide +kernel
theorem dX3_greatest_23 : decode cX3_greatest 23 = .ok (.iconst 1, 1) := by decide +kernel
theorem dX3_greatest_24 : decode cX3_greatest 24 = .ok (.istore_n 3, 1) := by decide +kernel
theorem dX3_greatest_25 : decode cX3_greatest 25 = .ok (.iload_n 3, 1) := by decide +kernel
theorem dX3_greatest_26 : decode cX3_greatest 26 = .ok (.iconst 1, 1) := by decide +kernel
theorem dX3_greatest_27 : decode cX3_greatest 27 = .ok (.aload_n 1, 1) := by decide +kernel
theorem dX3_greatest_28 : decode cX3_greatest 28 = .ok (.getfield 32, 3) := by decide +kernel
theorem dX3_greatest_31 : decode cX3_greatest 31 = .ok (.ishl, 1) := by decide +kernel
theorem dX3_greatest_32 : decode cX3_greatest 32 = .ok (.if_icmp .ge 114, 3) := by decide +kernel
theorem dX3_greatest_35 : decode cX3_greatest 35 = .ok (.iconst 0, 1) := by decide +kernel
theorem dX3_greatest_36 : decode cX3_greatest 36 = .ok (.istore 4, 2) := by decide +kernel
theorem dX3_greatest_38 : decode cX3_greatest 38 = .ok (.iconst 0, 1) := by decide +kernel
theorem dX3_greatest_39 : decode cX3_greatest 39 = .ok (.istore 5, 2) := by decide +kernel
theorem dX3_greatest_41 : decode cX3_greatest 41 = .ok (.iload 5, 2) := by decide +kernel
theorem dX3_greatest_43 : decode cX3_greatest 43 = .ok (.aload_n 1, 1) := by decide +kernel
theorem dX3_greatest_44 : decode cX3_greatest 44 = .ok (.getfield 32, 3) := by decide +kernel
theorem dX3_greatest_47 : decode cX3_greatest 47 = .ok (.if_icmp .ge 71, 3) := by decide +kernel
theorem dX3_greatest_50 : decode cX3_greatest 50 = .ok (.iload_n 3, 1) := by decide +kernel
theorem dX3_greatest_51 : decode cX3_greatest 51 = .ok (.iload 5, 2) := by decide +kernel
theorem dX3_greatest_53 : decode cX3_greatest 53 = .ok (.invokestatic 57, 3) := by decide +kernel
theorem dX3_greatest_56 : decode cX3_greatest 56 = .ok (.ifCond .eq 17, 3) := by decide +kernel
theorem dX3_greatest_59 : decode cX3_greatest 59 = .ok (.aload_n 0, 1) := by decide +kernel
theorem dX3_greatest_60 : decode cX3_greatest 60 = .ok (.iload_n 3, 1) := by decide +kernel
theorem dX3_greatest_61 : decode cX3_greatest 61 = .ok (.iload 5, 2) := by decide +kernel
theorem dX3_greatest_63 : decode cX3_greatest 63 = .ok (.aload_n 1, 1) := by decide +kernel
theorem dX3_greatest_64 : decode cX3_greatest 64 = .ok (.getfield 85, 3) := by decide +kernel
theorem dX3_greatest_67 : decode cX3_greatest 67 = .ok (.invokevirtual 99, 3) := by decide +kernel
theorem dX3_greatest_70 : decode cX3_greatest 70 = .ok (.goto 5, 3) := by decide +kernel
theorem dX3_greatest_73 : decode cX3_greatest 73 = .ok (.bipush (-9), 2) := by decide +kernel
theorem dX3_greatest_75 : decode cX3_greatest 75 = .ok (.istore 6, 2) := by decide +kernel
theorem dX3_greatest_77 : decode cX3_greatest 77 = .ok (.aload_n 0, 1) := by decide +kernel
theorem dX3_greatest_78 : decode cX3_greatest 78 = .ok (.getfield 14, 3) := by decide +kernel
theorem dX3_greatest_81 : decode cX3_greatest 81 = .ok (.iload_n 3, 1) := by decide +kernel
theorem dX3_greatest_82 : decode cX3_greatest 82 = .ok (.bipush 6, 2) := by decide +kernel
theorem dX3_greatest_84 : decode cX3_greatest 84 = .ok (.imul, 1) := by decide +kernel
theorem dX3_greatest_85 : decode cX3_greatest 85 = .ok (.iload 5, 2) := by decide +kernel
theorem dX3_greatest_87 : decode cX3_greatest 87 = .ok (.iadd, 1) := by decide +kernel
theorem dX3_greatest_88 : decode cX3_greatest 88 = .ok (.iload 6, 2) := by decide +kernel
theorem dX3_greatest_90 : decode cX3_greatest 90 = .ok (.invokevirtual 45, 3) := by decide +kernel
theorem dX3_greatest_93 : decode cX3_greatest 93 = .ok (.iload 4, 2) := by decide +kernel
theorem dX3_greatest_95 : decode cX3_greatest 95 = .ok (.ifCond .ne 10, 3) := by decide +kernel
theorem dX3_greatest_98 : decode cX3_greatest 98 = .ok (.iload 6, 2) := by decide +kernel
theorem dX3_greatest_100 : decode cX3_greatest 100 = .ok (.bipush (-9), 2) := by decide +kernel
theorem dX3_greatest_102 : decode cX3_greatest 102 = .ok (.if_icmp .eq 7, 3) := by decide +kernel
theorem dX3_greatest_105 : decode cX3_greatest 105 = .ok (.iconst 1, 1) := by decide +kernel
theorem dX3_greatest_106 : decode cX3_greatest 106 = .ok (.goto 4, 3) := by decide +kernel
theorem dX3_greatest_109 : decode cX3_greatest 109 = .ok (.iconst 0, 1) := by decide +kernel
theorem dX3_greatest_110 : decode cX3_greatest 110 = .ok (.istore 4, 2) := by decide +kernel
theorem dX3_greatest_112 : decode cX3_greatest 112 = .ok (.iinc 5 1, 3) := by decide +kernel
theorem dX3_greatest_115 : decode cX3_greatest 115 = .ok (.goto (-74), 3) := by decide +kernel
theorem dX3_greatest_118 : decode cX3_greatest 118 = .ok (.iload 4, 2) := by decide +kernel
theorem dX3_greatest_120 : decode cX3_greatest 120 = .ok (.ifCond .eq 18, 3) := by decide +kernel
theorem dX3_greatest_123 : decode cX3_greatest 123 = .ok (.iload_n 3, 1) := by decide +kernel
theorem dX3_greatest_124 : decode cX3_greatest 124 = .ok (.invokestatic 80, 3) := by decide +kernel
theorem dX3_greatest_127 : decode cX3_greatest 127 = .ok (.iload_n 2, 1) := by decide +kernel
theorem dX3_greatest_128 : decode cX3_greatest 128 = .ok (.invokestatic 80, 3) := by decide +kernel
theorem dX3_greatest_131 : decode cX3_greatest 131 = .ok (.if_icmp .le 7, 3) := by decide +kernel
theorem dX3_greatest_134 : decode cX3_greatest 134 = .ok (.iload_n 3, 1) := by decide +kernel
theorem dX3_greatest_135 : decode cX3_greatest 135 = .ok (.goto 4, 3) := by decide +kernel
theorem dX3_greatest_138 : decode cX3_greatest 138 = .ok (.iload_n 2, 1) := by decide +kernel
theorem dX3_greatest_139 : decode cX3_greatest 139 = .ok (.istore_n 2, 1) := by decide +kernel
theorem dX3_greatest_140 : decode cX3_greatest 140 = .ok (.iinc 3 1, 3) := by decide +kernel
theorem dX3_greatest_143 : decode cX3_greatest 143 = .ok (.goto (-118), 3) := by decide +kernel
theorem dX3_greatest_146 : decode cX3_greatest 146 = .ok (.iload_n 2, 1) := by decide +kernel
theorem dX3_greatest_147 : decode cX3_greatest 147 = .ok (.ireturn, 1) := by decide +kernel
theorem dX3_endAt_0 : decode cX3_endAt 0 = .ok (.aload_n 0, 1) := by decide +kernel
theorem dX3_endAt_1 : decode cX3_endAt 1 = .ok (.getfield 23, 3) := by decide +kernel
theorem dX3_endAt_4 : decode cX3_endAt 4 = .ok (.iload_n 2, 1) := by decide +kernel
theorem dX3_endAt_5 : decode cX3_endAt 5 = .ok (.invokevirtual 51, 3) := by decide +kernel
theorem dX3_endAt_8 : decode cX3_endAt 8 = .ok (.ifCond .gt 6, 3) := by decide +kernel
theorem dX3_endAt_11 : decode cX3_endAt 11 = .ok (.bipush (-9), 2) := by decide +kernel
theorem dX3_endAt_13 : decode cX3_endAt 13 = .ok (.ireturn, 1) := by decide +kernel
theorem dX3_endAt_14 : decode cX3_endAt 14 = .ok (.iload_n 1, 1) := by decide +kernel
theorem dX3_endAt_15 : decode cX3_endAt 15 = .ok (.iconst 1, 1) := by decide +kernel
theorem dX3_endAt_16 : decode cX3_endAt 16 = .ok (.iload_n 2, 1) := by decide +kernel
theorem dX3_endAt_17 : decode cX3_endAt 17 = .ok (.ishl, 1) := by decide +kernel
theorem dX3_endAt_18 : decode cX3_endAt 18 = .ok (.iconst (-1), 1) := by decide +kernel
theorem dX3_endAt_19 : decode cX3_endAt 19 = .ok (.ixor, 1) := by decide +kernel
theorem dX3_endAt_20 : decode cX3_endAt 20 = .ok (.iand, 1) := by decide +kernel
theorem dX3_endAt_21 : decode cX3_endAt 21 = .ok (.istore 4, 2) := by decide +kernel
theorem dX3_endAt_23 : decode cX3_endAt 23 = .ok (.iload 4, 2) := by decide +kernel
theorem dX3_endAt_25 : decode cX3_endAt 25 = .ok (.ifCond .ne 12, 3) := by decide +kernel
theorem dX3_endAt_28 : decode cX3_endAt 28 = .ok (.iload_n 2, 1) := by decide +kernel
theorem dX3_endAt_29 : decode cX3_endAt 29 = .ok (.iload_n 3, 1) := by decide +kernel
theorem dX3_endAt_30 : decode cX3_endAt 30 = .ok (.isub, 1) := by decide +kernel
theorem dX3_endAt_31 : decode cX3_endAt 31 = .ok (.invokestatic 67, 3) := by decide +kernel
theorem dX3_endAt_34 : decode cX3_endAt 34 = .ok (.goto 5, 3) := by decide +kernel
theorem dX3_endAt_37 : decode cX3_endAt 37 = .ok (.bipush (-9), 2) := by decide +kernel
theorem dX3_endAt_39 : decode cX3_endAt 39 = .ok (.istore 5, 2) := by decide +kernel
theorem dX3_endAt_41 : decode cX3_endAt 41 = .ok (.iconst 0, 1) := by decide +kernel
theorem dX3_endAt_42 : decode cX3_endAt 42 = .ok (.istore 6, 2) := by decide +kernel
theorem dX3_endAt_44 : decode cX3_endAt 44 = .ok (.iload 6, 2) := by decide +kernel
theorem dX3_endAt_46 : decode cX3_endAt 46 = .ok (.bipush 6, 2) := by decide +kernel
theorem dX3_endAt_48 : decode cX3_endAt 48 = .ok (.if_icmp .ge 78, 3) := by decide +kernel
theorem dX3_endAt_51 : decode cX3_endAt 51 = .ok (.iload 4, 2) := by decide +kernel
theorem dX3_endAt_53 : decode cX3_endAt 53 = .ok (.iload 6, 2) := by decide +kernel
theorem dX3_endAt_55 : decode cX3_endAt 55 = .ok (.invokestatic 57, 3) := by decide +kernel
theorem dX3_endAt_58 : decode cX3_endAt 58 = .ok (.ifCond .eq 21, 3) := by decide +kernel
theorem dX3_endAt_61 : decode cX3_endAt 61 = .ok (.aload_n 0, 1) := by decide +kernel
theorem dX3_endAt_62 : decode cX3_endAt 62 = .ok (.getfield 14, 3) := by decide +kernel
theorem dX3_endAt_65 : decode cX3_endAt 65 = .ok (.iload 4, 2) := by decide +kernel
theorem dX3_endAt_67 : decode cX3_endAt 67 = .ok (.bipush 6, 2) := by decide +kernel
theorem dX3_endAt_69 : decode cX3_endAt 69 = .ok (.imul, 1) := by decide +kernel
theorem dX3_endAt_70 : decode cX3_endAt 70 = .ok (.iload 6, 2) := by decide +kernel
theorem dX3_endAt_72 : decode cX3_endAt 72 = .ok (.iadd, 1) := by decide +kernel
theorem dX3_endAt_73 : decode cX3_endAt 73 = .ok (.invokevirtual 51, 3) := by decide +kernel
theorem dX3_endAt_76 : decode cX3_endAt 76 = .ok (.goto 5, 3) := by decide +kernel
theorem dX3_endAt_79 : decode cX3_endAt 79 = .ok (.bipush (-9), 2) := by decide +kernel
theorem dX3_endAt_81 : decode cX3_endAt 81 = .ok (.istore 7, 2) := by decide +kernel
theorem dX3_endAt_83 : decode cX3_endAt 83 = .ok (.iload 7, 2) := by decide +kernel
theorem dX3_endAt_85 : decode cX3_endAt 85 = .ok (.iload_n 2, 1) := by decide +kernel
theorem dX3_endAt_86 : decode cX3_endAt 86 = .ok (.iload 6, 2) := by decide +kernel
theorem dX3_endAt_88 : decode cX3_endAt 88 = .ok (.isub, 1) := by decide +kernel
theorem dX3_endAt_89 : decode cX3_endAt 89 = .ok (.invokestatic 67, 3) := by decide +kernel
theorem dX3_endAt_92 : decode cX3_endAt 92 = .ok (.iadd, 1) := by decide +kernel
theorem dX3_endAt_93 : decode cX3_endAt 93 = .ok (.istore 8, 2) := by decide +kernel
theorem dX3_endAt_95 : decode cX3_endAt 95 = .ok (.iload 7, 2) := by decide +kernel
theorem dX3_endAt_97 : decode cX3_endAt 97 = .ok (.bipush (-9), 2) := by decide +kernel
theorem dX3_endAt_99 : decode cX3_endAt 99 = .ok (.if_icmp .eq 21, 3) := by decide +kernel
theorem dX3_endAt_102 : decode cX3_endAt 102 = .ok (.iload 5, 2) := by decide +kernel
theorem dX3_endAt_104 : decode cX3_endAt 104 = .ok (.bipush (-9), 2) := by decide +kernel
theorem dX3_endAt_106 : decode cX3_endAt 106 = .ok (.if_icmp .eq 10, 3) := by decide +kernel
theorem dX3_endAt_109 : decode cX3_endAt 109 = .ok (.iload 8, 2) := by decide +kernel
theorem dX3_endAt_111 : decode cX3_endAt 111 = .ok (.iload 5, 2) := by decide +kernel
theorem dX3_endAt_113 : decode cX3_endAt 113 = .ok (.if_icmp .ge 7, 3) := by decide +kernel
theorem dX3_endAt_116 : decode cX3_endAt 116 = .ok (.iload 8, 2) := by decide +kernel
theorem dX3_endAt_118 : decode cX3_endAt 118 = .ok (.istore 5, 2) := by decide +kernel
theorem dX3_endAt_120 : decode cX3_endAt 120 = .ok (.iinc 6 1, 3) := by decide +kernel
theorem dX3_endAt_123 : decode cX3_endAt 123 = .ok (.goto (-79), 3) := by decide +kernel
theorem dX3_endAt_126 : decode cX3_endAt 126 = .ok (.iload 5, 2) := by decide +kernel
theorem dX3_endAt_128 : decode cX3_endAt 128 = .ok (.bipush (-9), 2) := by decide +kernel
theorem dX3_endAt_130 : decode cX3_endAt 130 = .ok (.if_icmp .eq 29, 3) := by decide +kernel
theorem dX3_endAt_133 : decode cX3_endAt 133 = .ok (.iload 5, 2) := by decide +kernel
theorem dX3_endAt_135 : decode cX3_endAt 135 = .ok (.aload_n 0, 1) := by decide +kernel
theorem dX3_endAt_136 : decode cX3_endAt 136 = .ok (.getfield 23, 3) := by decide +kernel
theorem dX3_endAt_139 : decode cX3_endAt 139 = .ok (.iload_n 2, 1) := by decide +kernel
theorem dX3_endAt_140 : decode cX3_endAt 140 = .ok (.invokevirtual 51, 3) := by decide +kernel
theorem dX3_endAt_143 : decode cX3_endAt 143 = .ok (.iadd, 1) := by decide +kernel
theorem dX3_endAt_144 : decode cX3_endAt 144 = .ok (.aload_n 0, 1) := by decide +kernel
theorem dX3_endAt_145 : decode cX3_endAt 145 = .ok (.getfield 26, 3) := by decide +kernel
theorem dX3_endAt_148 : decode cX3_endAt 148 = .ok (.iload_n 2, 1) := by decide +kernel
theorem dX3_endAt_149 : decode cX3_endAt 149 = .ok (.invokevirtual 51, 3) := by decide +kernel
theorem dX3_endAt_152 : decode cX3_endAt 152 = .ok (.if_icmp .gt 7, 3) := by decide +kernel
theorem dX3_endAt_155 : decode cX3_endAt 155 = .ok (.iconst 1, 1) := by decide +kernel
theorem dX3_endAt_156 : decode cX3_endAt 156 = .ok (.goto 4, 3) := by decide +kernel
theorem dX3_endAt_159 : decode cX3_endAt 159 = .ok (.iconst 0, 1) := by decide +kernel
theorem dX3_endAt_160 : decode cX3_endAt 160 = .ok (.istore 6, 2) := by decide +kernel
theorem dX3_endAt_162 : decode cX3_endAt 162 = .ok (.iload 6, 2) := by decide +kernel
theorem dX3_endAt_164 : decode cX3_endAt 164 = .ok (.ifCond .eq 17, 3) := by decide +kernel
theorem dX3_endAt_167 : decode cX3_endAt 167 = .ok (.iload 5, 2) := by decide +kernel
theorem dX3_endAt_169 : decode cX3_endAt 169 = .ok (.aload_n 0, 1) := by decide +kernel
theorem dX3_endAt_170 : decode cX3_endAt 170 = .ok (.getfield 23, 3) := by decide +kernel
theorem dX3_endAt_173 : decode cX3_endAt 173 = .ok (.iload_n 2, 1) := by decide +kernel
theorem dX3_endAt_174 : decode cX3_endAt 174 = .ok (.invokevirtual 51, 3) := by decide +kernel
theorem dX3_endAt_177 : decode cX3_endAt 177 = .ok (.iadd, 1) := by decide +kernel
theorem dX3_endAt_178 : decode cX3_endAt 178 = .ok (.goto 5, 3) := by decide +kernel
theorem dX3_endAt_181 : decode cX3_endAt 181 = .ok (.bipush (-9), 2) := by decide +kernel
theorem dX3_endAt_183 : decode cX3_endAt 183 = .ok (.ireturn, 1) := by decide +kernel
theorem dX4_init_0 : decode cX4_init 0 = .ok (.aload_n 0, 1) := by decide +kernel
theorem dX4_init_1 : decode cX4_init 1 = .ok (.invokespecial 3, 3) := by decide +kernel
theorem dX4_init_4 : decode cX4_init 4 = .ok (.aload_n 0, 1) := by decide +kernel
theorem dX4_init_5 : decode cX4_init 5 = .ok (.new 9, 3) := by decide +kernel
theorem dX4_init_8 : decode cX4_init 8 = .ok (.dup, 1) := by decide +kernel
theorem dX4_init_9 : decode cX4_init 9 = .ok (.bipush 6, 2) := by decide +kernel
theorem dX4_init_11 : decode cX4_init 11 = .ok (.invokespecial 11, 3) := by decide +kernel
theorem dX4_init_14 : decode cX4_init 14 = .ok (.putfield 14, 3) := by decide +kernel
theorem dX4_init_17 : decode cX4_init 17 = .ok (.aload_n 0, 1) := by decide +kernel
theorem dX4_init_18 : decode cX4_init 18 = .ok (.new 9, 3) := by decide +kernel
theorem dX4_init_21 : decode cX4_init 21 = .ok (.dup, 1) := by decide +kernel
theorem dX4_init_22 : decode cX4_init 22 = .ok (.bipush 6, 2) := by decide +kernel
theorem dX4_init_24 : decode cX4_init 24 = .ok (.invokespecial 11, 3) := by decide +kernel
theorem dX4_init_27 : decode cX4_init 27 = .ok (.putfield 20, 3) := by decide +kernel
theorem dX4_init_30 : decode cX4_init 30 = .ok (.aload_n 0, 1) := by decide +kernel
theorem dX4_init_31 : decode cX4_init 31 = .ok (.new 9, 3) := by decide +kernel
theorem dX4_init_34 : decode cX4_init 34 = .ok (.dup, 1) := by decide +kernel
theorem dX4_init_35 : decode cX4_init 35 = .ok (.bipush 6, 2) := by decide +kernel
theorem dX4_init_37 : decode cX4_init 37 = .ok (.invokespecial 11, 3) := by decide +kernel
theorem dX4_init_40 : decode cX4_init 40 = .ok (.putfield 23, 3) := by decide +kernel
theorem dX4_init_43 : decode cX4_init 43 = .ok (.aload_n 0, 1) := by decide +kernel
theorem dX4_init_44 : decode cX4_init 44 = .ok (.new 9, 3) := by decide +kernel
theorem dX4_init_47 : decode cX4_init 47 = .ok (.dup, 1) := by decide +kernel
theorem dX4_init_48 : decode cX4_init 48 = .ok (.bipush 6, 2) := by decide +kernel
theorem dX4_init_50 : decode cX4_init 50 = .ok (.invokespecial 11, 3) := by decide +kernel
theorem dX4_init_53 : decode cX4_init 53 = .ok (.putfield 26, 3) := by decide +kernel
theorem dX4_init_56 : decode cX4_init 56 = .ok (.aload_n 0, 1) := by decide +kernel
theorem dX4_init_57 : decode cX4_init 57 = .ok (.new 9, 3) := by decide +kernel
theorem dX4_init_60 : decode cX4_init 60 = .ok (.dup, 1) := by decide +kernel
theorem dX4_init_61 : decode cX4_init 61 = .ok (.bipush 6, 2) := by decide +kernel
theorem dX4_init_63 : decode cX4_init 63 = .ok (.invokespecial 11, 3) := by decide +kernel
theorem dX4_init_66 : decode cX4_init 66 = .ok (.putfield 29, 3) := by decide +kernel
theorem dX4_init_69 : decode cX4_init 69 = .ok (.aload_n 0, 1) := by decide +kernel
theorem dX4_init_70 : decode cX4_init 70 = .ok (.new 9, 3) := by decide +kernel
theorem dX4_init_73 : decode cX4_init 73 = .ok (.dup, 1) := by decide +kernel
theorem dX4_init_74 : decode cX4_init 74 = .ok (.bipush 6, 2) := by decide +kernel
theorem dX4_init_76 : decode cX4_init 76 = .ok (.invokespecial 11, 3) := by decide +kernel
theorem dX4_init_79 : decode cX4_init 79 = .ok (.putfield 32, 3) := by decide +kernel
theorem dX4_init_82 : decode cX4_init 82 = .ok (.aload_n 0, 1) := by decide +kernel
theorem dX4_init_83 : decode cX4_init 83 = .ok (.new 9, 3) := by decide +kernel
theorem dX4_init_86 : decode cX4_init 86 = .ok (.dup, 1) := by decide +kernel
theorem dX4_init_87 : decode cX4_init 87 = .ok (.bipush 40, 2) := by decide +kernel
theorem dX4_init_89 : decode cX4_init 89 = .ok (.invokespecial 11, 3) := by decide +kernel
theorem dX4_init_92 : decode cX4_init 92 = .ok (.putfield 35, 3) := by decide +kernel
theorem dX4_init_95 : decode cX4_init 95 = .ok (.aload_n 0, 1) := by decide +kernel
theorem dX4_init_96 : decode cX4_init 96 = .ok (.getfield 35, 3) := by decide +kernel
theorem dX4_init_99 : decode cX4_init 99 = .ok (.iconst 0, 1) := by decide +kernel
theorem dX4_init_100 : decode cX4_init 100 = .ok (.iconst 0, 1) := by decide +kernel
theorem dX4_init_101 : decode cX4_init 101 = .ok (.invokevirtual 38, 3) := by decide +kernel
theorem dX4_init_104 : decode cX4_init 104 = .ok (.return_, 1) := by decide +kernel
theorem dX4_begin_0 : decode cX4_begin 0 = .ok (.aload_n 0, 1) := by decide +kernel
theorem dX4_begin_1 : decode cX4_begin 1 = .ok (.iconst 0, 1) := by decide +kernel
theorem dX4_begin_2 : decode cX4_begin 2 = .ok (.putfield 42, 3) := by decide +kernel
theorem dX4_begin_5 : decode cX4_begin 5 = .ok (.aload_n 0, 1) := by decide +kernel
theorem dX4_begin_6 : decode cX4_begin 6 = .ok (.iload_n 1, 1) := by decide +kernel
theorem dX4_begin_7 : decode cX4_begin 7 = .ok (.putfield 46, 3) := by decide +kernel
theorem dX4_begin_10 : decode cX4_begin 10 = .ok (.aload_n 0, 1) := by decide +kernel
theorem dX4_begin_11 : decode cX4_begin 11 = .ok (.iload_n 2, 1) := by decide +kernel
theorem dX4_begin_12 : decode cX4_begin 12 = .ok (.putfield 49, 3) := by decide +kernel
theorem dX4_begin_15 : decode cX4_begin 15 = .ok (.aload_n 0, 1) := by decide +kernel
theorem dX4_begin_16 : decode cX4_begin 16 = .ok (.getfield 14, 3) := by decide +kernel
theorem dX4_begin_19 : decode cX4_begin 19 = .ok (.iconst 0, 1) := by decide +kernel
theorem dX4_begin_20 : decode cX4_begin 20 = .ok (.iconst 0, 1) := by decide +kernel
theorem dX4_begin_21 : decode cX4_begin 21 = .ok (.invokevirtual 38, 3) := by decide +kernel
theorem dX4_begin_24 : decode cX4_begin 24 = .ok (.aload_n 0, 1) := by decide +kernel
theorem dX4_begin_25 : decode cX4_begin 25 = .ok (.getfield 20, 3) := by decide +kernel
theorem dX4_begin_28 : decode cX4_begin 28 = .ok (.iconst 0, 1) := by decide +kernel
theorem dX4_begin_29 : decode cX4_begin 29 = .ok (.iconst 0, 1) := by decide +kernel
theorem dX4_begin_30 : decode cX4_begin 30 = .ok (.invokevirtual 38, 3) := by decide +kernel
theorem dX4_begin_33 : decode cX4_begin 33 = .ok (.aload_n 0, 1) := by decide +kernel
theorem dX4_begin_34 : decode cX4_begin 34 = .ok (.getfield 23, 3) := by decide +kernel
theorem dX4_begin_37 : decode cX4_begin 37 = .ok (.iconst 0, 1) := by decide +kernel
theorem dX4_begin_38 : decode cX4_begin 38 = .ok (.iconst 0, 1) := by decide +kernel
theorem dX4_begin_39 : decode cX4_begin 39 = .ok (.invokevirtual 38, 3) := by decide +kernel
theorem dX4_begin_42 : decode cX4_begin 42 = .ok (.return_, 1) := by decide +kernel
theorem dX4_build_0 : decode cX4_build 0 = .ok (.aload_n 0, 1) := by decide +kernel
theorem dX4_build_1 : decode cX4_build 1 = .ok (.getfield 14, 3) := by decide +kernel
theorem dX4_build_4 : decode cX4_build 4 = .ok (.iload_n 1, 1) := by decide +kernel
theorem dX4_build_5 : decode cX4_build 5 = .ok (.invokevirtual 52, 3) := by decide +kernel
theorem dX4_build_8 : decode cX4_build 8 = .ok (.aload_n 0, 1) := by decide +kernel
theorem dX4_build_9 : decode cX4_build 9 = .ok (.getfield 23, 3) := by decide +kernel
theorem dX4_build_12 : decode cX4_build 12 = .ok (.iload_n 2, 1) := by decide +kernel
theorem dX4_build_13 : decode cX4_build 13 = .ok (.invokevirtual 52, 3) := by decide +kernel
theorem dX4_build_16 : decode cX4_build 16 = .ok (.aload_n 0, 1) := by decide +kernel
theorem dX4_build_17 : decode cX4_build 17 = .ok (.getfield 20, 3) := by decide +kernel
theorem dX4_build_20 : decode cX4_build 20 = .ok (.iload_n 3, 1) := by decide +kernel
theorem dX4_build_21 : decode cX4_build 21 = .ok (.invokevirtual 52, 3) := by decide +kernel
theorem dX4_build_24 : decode cX4_build 24 = .ok (.aload_n 0, 1) := by decide +kernel
theorem dX4_build_25 : decode cX4_build 25 = .ok (.aload_n 0, 1) := by decide +kernel
theorem dX4_build_26 : decode cX4_build 26 = .ok (.getfield 14, 3) := by decide +kernel
theorem dX4_build_29 : decode cX4_build 29 = .ok (.getfield 55, 3) := by decide +kernel
theorem dX4_build_32 : decode cX4_build 32 = .ok (.putfield 42, 3) := by decide +kernel
theorem dX4_build_35 : decode cX4_build 35 = .ok (.return_, 1) := by decide +kernel
theorem dX4_sleep_0 : decode cX4_sleep 0 = .ok (.aload_n 0, 1) := by decide +kernel
theorem dX4_sleep_1 : decode cX4_sleep 1 = .ok (.getfield 29, 3) := by decide +kernel
theorem dX4_sleep_4 : decode cX4_sleep 4 = .ok (.aload_n 0, 1) := by decide +kernel
theorem dX4_sleep_5 : decode cX4_sleep 5 = .ok (.getfield 42, 3) := by decide +kernel
theorem dX4_sleep_8 : decode cX4_sleep 8 = .ok (.iconst 0, 1) := by decide +kernel
theorem dX4_sleep_9 : decode cX4_sleep 9 = .ok (.invokevirtual 38, 3) := by decide +kernel
theorem dX4_sleep_12 : decode cX4_sleep 12 = .ok (.aload_n 0, 1) := by decide +kernel
theorem dX4_sleep_13 : decode cX4_sleep 13 = .ok (.getfield 32, 3) := by decide +kernel
theorem dX4_sleep_16 : decode cX4_sleep 16 = .ok (.aload_n 0, 1) := by decide +kernel
theorem dX4_sleep_17 : decode cX4_sleep 17 = .ok (.getfield 42, 3) := by decide +kernel
theorem dX4_sleep_20 : decode cX4_sleep 20 = .ok (.bipush (-9), 2) := by decide +kernel
theorem dX4_sleep_22 : decode cX4_sleep 22 = .ok (.invokevirtual 38, 3) := by decide +kernel
theorem dX4_sleep_25 : decode cX4_sleep 25 = .ok (.aload_n 0, 1) := by decide +kernel
theorem dX4_sleep_26 : decode cX4_sleep 26 = .ok (.iconst 0, 1) := by decide +kernel
theorem dX4_sleep_27 : decode cX4_sleep 27 = .ok (.putfield 56, 3) := by decide +kernel
theorem dX4_sleep_30 : decode cX4_sleep 30 = .ok (.aload_n 0, 1) := by decide +kernel
theorem dX4_sleep_31 : decode cX4_sleep 31 = .ok (.iconst 0, 1) := by decide +kernel
theorem dX4_sleep_32 : decode cX4_sleep 32 = .ok (.putfield 59, 3) := by decide +kernel
theorem dX4_sleep_35 : decode cX4_sleep 35 = .ok (.return_, 1) := by decide +kernel
theorem dX4_replay_0 : decode cX4_replay 0 = .ok (.aload_n 0, 1) := by decide +kernel
theorem dX4_replay_1 : decode cX4_replay 1 = .ok (.getfield 26, 3) := by decide +kernel
theorem dX4_replay_4 : decode cX4_replay 4 = .ok (.aload_n 0, 1) := by decide +kernel
theorem dX4_replay_5 : decode cX4_replay 5 = .ok (.getfield 23, 3) := by decide +kernel
theorem dX4_replay_8 : decode cX4_replay 8 = .ok (.invokevirtual 62, 3) := by decide +kernel
theorem dX4_replay_11 : decode cX4_replay 11 = .ok (.aload_n 0, 1) := by decide +kernel
theorem dX4_replay_12 : decode cX4_replay 12 = .ok (.aload_n 0, 1) := by decide +kernel
theorem dX4_replay_13 : decode cX4_replay 13 = .ok (.getfield 46, 3) := by decide +kernel
theorem dX4_replay_16 : decode cX4_replay 16 = .ok (.putfield 66, 3) := by decide +kernel
theorem dX4_replay_19 : decode cX4_replay 19 = .ok (.aload_n 0, 1) := by decide +kernel
theorem dX4_replay_20 : decode cX4_replay 20 = .ok (.iconst 0, 1) := by decide +kernel
theorem dX4_replay_21 : decode cX4_replay 21 = .ok (.putfield 69, 3) := by decide +kernel
theorem dX4_replay_24 : decode cX4_replay 24 = .ok (.aload_n 0, 1) := by decide +kernel
theorem dX4_replay_25 : decode cX4_replay 25 = .ok (.iconst 0, 1) := by decide +kernel
theorem dX4_replay_26 : decode cX4_replay 26 = .ok (.putfield 72, 3) := by decide +kernel
theorem dX4_replay_29 : decode cX4_replay 29 = .ok (.aload_n 0, 1) := by decide +kernel
theorem dX4_replay_30 : decode cX4_replay 30 = .ok (.invokevirtual 75, 3) := by decide +kernel
theorem dX4_replay_33 : decode cX4_replay 33 = .ok (.iconst 0, 1) := by decide +kernel
theorem dX4_replay_34 : decode cX4_replay 34 = .ok (.istore_n 1, 1) := by decide +kernel
theorem dX4_replay_35 : decode cX4_replay 35 = .ok (.iload_n 1, 1) := by decide +kernel
theorem dX4_replay_36 : decode cX4_replay 36 = .ok (.aload_n 0, 1) := by decide +kernel
theorem dX4_replay_37 : decode cX4_replay 37 = .ok (.getfield 35, 3) := by decide +kernel
theorem dX4_replay_40 : decode cX4_replay 40 = .ok (.getfield 55, 3) := by decide +kernel
theorem dX4_replay_43 : decode cX4_replay 43 = .ok (.if_icmp .ge 21, 3) := by decide +kernel
theorem dX4_replay_46 : decode cX4_replay 46 = .ok (.aload_n 0, 1) := by decide +kernel
theorem dX4_replay_47 : decode cX4_replay 47 = .ok (.aload_n 0, 1) := by decide +kernel
theorem dX4_replay_48 : decode cX4_replay 48 = .ok (.getfield 35, 3) := by decide +kernel
theorem dX4_replay_51 : decode cX4_replay 51 = .ok (.iload_n 1, 1) := by decide +kernel
theorem dX4_replay_52 : decode cX4_replay 52 = .ok (.invokevirtual 78, 3) := by decide +kernel
theorem dX4_replay_55 : decode cX4_replay 55 = .ok (.invokevirtual 82, 3) := by decide +kernel
theorem dX4_replay_58 : decode cX4_replay 58 = .ok (.iinc 1 1, 3) := by decide +kernel
theorem dX4_replay_61 : decode cX4_replay 61 = .ok (.goto (-26), 3) := by decide +kernel
theorem dX4_replay_64 : decode cX4_replay 64 = .ok (.return_, 1) := by decide +kernel
theorem dX4_does_0 : decode cX4_does 0 = .ok (.iload_n 1, 1) := by decide +kernel
theorem dX4_does_1 : decode cX4_does 1 = .ok (.sipush 1000, 3) := by decide +kernel
theorem dX4_does_4 : decode cX4_does 4 = .ok (.imul, 1) := by decide +kernel
theorem dX4_does_5 : decode cX4_does 5 = .ok (.iload_n 2, 1) := by decide +kernel
theorem dX4_does_6 : decode cX4_does 6 = .ok (.bipush 100, 2) := by decide +kernel
theorem dX4_does_8 : decode cX4_does 8 = .ok (.imul, 1) := by decide +kernel
theorem dX4_does_9 : decode cX4_does 9 = .ok (.iadd, 1) := by decide +kernel
theorem dX4_does_10 : decode cX4_does 10 = .ok (.iload_n 3, 1) := by decide +kernel
theorem dX4_does_11 : decode cX4_does 11 = .ok (.iadd, 1) := by decide +kernel
theorem dX4_does_12 : decode cX4_does 12 = .ok (.istore 4, 2) := by decide +kernel
theorem dX4_does_14 : decode cX4_does 14 = .ok (.aload_n 0, 1) := by decide +kernel
theorem dX4_does_15 : decode cX4_does 15 = .ok (.getfield 35, 3) := by decide +kernel
theorem dX4_does_18 : decode cX4_does 18 = .ok (.iload 4, 2) := by decide +kernel
theorem dX4_does_20 : decode cX4_does 20 = .ok (.invokevirtual 52, 3) := by decide +kernel
theorem dX4_does_23 : decode cX4_does 23 = .ok (.aload_n 0, 1) := by decide +kernel
theorem dX4_does_24 : decode cX4_does 24 = .ok (.iload 4, 2) := by decide +kernel
theorem dX4_does_26 : decode cX4_does 26 = .ok (.invokevirtual 82, 3) := by decide +kernel
theorem dX4_does_29 : decode cX4_does 29 = .ok (.return_, 1) := by decide +kernel
theorem dX4_perform_0 : decode cX4_perform 0 = .ok (.iload_n 1, 1) := by decide +kernel
theorem dX4_perform_1 : decode cX4_perform 1 = .ok (.bipush 100, 2) := by decide +kernel
theorem dX4_perform_3 : decode cX4_perform 3 = .ok (.idiv, 1) := by decide +kernel
theorem dX4_perform_4 : decode cX4_perform 4 = .ok (.bipush 10, 2) := by decide +kernel
theorem dX4_perform_6 : decode cX4_perform 6 = .ok (.irem, 1) := by decide +kernel
theorem dX4_perform_7 : decode cX4_perform 7 = .ok (.istore_n 2, 1) := by decide +kernel
theorem dX4_perform_8 : decode cX4_perform 8 = .ok (.iload_n 1, 1) := by decide +kernel
theorem dX4_perform_9 : decode cX4_perform 9 = .ok (.bipush 100, 2) := by decide +kernel
theorem dX4_perform_11 : decode cX4_perform 11 = .ok (.irem, 1) := by decide +kernel
theorem dX4_perform_12 : decode cX4_perform 12 = .ok (.istore_n 3, 1) := by decide +kernel
theorem dX4_perform_13 : decode cX4_perform 13 = .ok (.iload_n 1, 1) := by decide +kernel
theorem dX4_perform_14 : decode cX4_perform 14 = .ok (.sipush 1000, 3) := by decide +kernel
theorem dX4_perform_17 : decode cX4_perform 17 = .ok (.idiv, 1) := by decide +kernel
theorem dX4_perform_18 : decode cX4_perform 18 = .ok (.tableswitch 106 0 3 #[30, 56, 77, 98], 30) := by decide +kernel
theorem dX4_perform_48 : decode cX4_perform 48 = .ok (.aload_n 0, 1) := by decide +kernel
theorem dX4_perform_49 : decode cX4_perform 49 = .ok (.dup, 1) := by decide +kernel
theorem dX4_perform_50 : decode cX4_perform 50 = .ok (.getfield 56, 3) := by decide +kernel
theorem dX4_perform_53 : decode cX4_perform 53 = .ok (.iload_n 2, 1) := by decide +kernel
theorem dX4_perform_54 : decode cX4_perform 54 = .ok (.aload_n 0, 1) := by decide +kernel
theorem dX4_perform_55 : decode cX4_perform 55 = .ok (.getfield 59, 3) := by decide +kernel
theorem dX4_perform_58 : decode cX4_perform 58 = .ok (.isub, 1) := by decide +kernel
theorem dX4_perform_59 : decode cX4_perform 59 = .ok (.invokestatic 89, 3) := by decide +kernel
theorem dX4_perform_62 : decode cX4_perform 62 = .ok (.iadd, 1) := by decide +kernel
theorem dX4_perform_63 : decode cX4_perform 63 = .ok (.putfield 56, 3) := by decide +kernel
theorem dX4_perform_66 : decode cX4_perform 66 = .ok (.aload_n 0, 1) := by decide +kernel
theorem dX4_perform_67 : decode cX4_perform 67 = .ok (.iload_n 2, 1) := by decide +kernel
theorem dX4_perform_68 : decode cX4_perform 68 = .ok (.putfield 59, 3) := by decide +kernel
theorem dX4_perform_71 : decode cX4_perform 71 = .ok (.goto 67, 3) := by decide +kernel
theorem dX4_perform_74 : decode cX4_perform 74 = .ok (.aload_n 0, 1) := by decide +kernel
theorem dX4_perform_75 : decode cX4_perform 75 = .ok (.dup, 1) := by decide +kernel
theorem dX4_perform_76 : decode cX4_perform 76 = .ok (.getfield 56, 3) := by decide +kernel
theorem dX4_perform_79 : decode cX4_perform 79 = .ok (.iconst 1, 1) := by decide +kernel
theorem dX4_perform_80 : decode cX4_perform 80 = .ok (.iadd, 1) := by decide +kernel
theorem dX4_perform_81 : decode cX4_perform 81 = .ok (.putfield 56, 3) := by decide +kernel
theorem dX4_perform_84 : decode cX4_perform 84 = .ok (.aload_n 0, 1) := by decide +kernel
theorem dX4_perform_85 : decode cX4_perform 85 = .ok (.aload_n 0, 1) := by decide +kernel
theorem dX4_perform_86 : decode cX4_perform 86 = .ok (.getfield 59, 3) := by decide +kernel
theorem dX4_perform_89 : decode cX4_perform 89 = .ok (.invokevirtual 94, 3) := by decide +kernel
theorem dX4_perform_92 : decode cX4_perform 92 = .ok (.goto 46, 3) := by decide +kernel
theorem dX4_perform_95 : decode cX4_perform 95 = .ok (.aload_n 0, 1) := by decide +kernel
theorem dX4_perform_96 : decode cX4_perform 96 = .ok (.getfield 26, 3) := by decide +kernel
theorem dX4_perform_99 : decode cX4_perform 99 = .ok (.iload_n 2, 1) := by decide +kernel
theorem dX4_perform_100 : decode cX4_perform 100 = .ok (.iload_n 3, 1) := by decide +kernel
theorem dX4_perform_101 : decode cX4_perform 101 = .ok (.invokevirtual 97, 3) := by decide +kernel
theorem dX4_perform_104 : decode cX4_perform 104 = .ok (.aload_n 0, 1) := by decide +kernel
theorem dX4_perform_105 : decode cX4_perform 105 = .ok (.getfield 29, 3) := by decide +kernel
theorem dX4_perform_108 : decode cX4_perform 108 = .ok (.iload_n 2, 1) := by decide +kernel
theorem dX4_perform_109 : decode cX4_perform 109 = .ok (.iconst 0, 1) := by decide +kernel
theorem dX4_perform_110 : decode cX4_perform 110 = .ok (.invokevirtual 97, 3) := by decide +kernel
theorem dX4_perform_113 : decode cX4_perform 113 = .ok (.goto 25, 3) := by decide +kernel
theorem dX4_perform_116 : decode cX4_perform 116 = .ok (.aload_n 0, 1) := by decide +kernel
theorem dX4_perform_117 : decode cX4_perform 117 = .ok (.iload_n 3, 1) := by decide +kernel
theorem dX4_perform_118 : decode cX4_perform 118 = .ok (.putfield 66, 3) := by decide +kernel
theorem dX4_perform_121 : decode cX4_perform 121 = .ok (.goto 17, 3) := by decide +kernel
theorem dX4_perform_124 : decode cX4_perform 124 = .ok (.aload_n 0, 1) := by decide +kernel
theorem dX4_perform_125 : decode cX4_perform 125 = .ok (.dup, 1) := by decide +kernel
theorem dX4_perform_126 : decode cX4_perform 126 = .ok (.getfield 69, 3) := by decide +kernel
theorem dX4_perform_129 : decode cX4_perform 129 = .ok (.iconst 1, 1) := by decide +kernel
theorem dX4_perform_130 : decode cX4_perform 130 = .ok (.iadd, 1) := by decide +kernel
theorem dX4_perform_131 : decode cX4_perform 131 = .ok (.putfield 69, 3) := by decide +kernel
theorem dX4_perform_134 : decode cX4_perform 134 = .ok (.aload_n 0, 1) := by decide +kernel
theorem dX4_perform_135 : decode cX4_perform 135 = .ok (.invokevirtual 75, 3) := by decide +kernel
theorem dX4_perform_138 : decode cX4_perform 138 = .ok (.return_, 1) := by decide +kernel
theorem dX4_hear_0 : decode cX4_hear 0 = .ok (.aload_n 0, 1) := by decide +kernel
theorem dX4_hear_1 : decode cX4_hear 1 = .ok (.getfield 29, 3) := by decide +kernel
theorem dX4_hear_4 : decode cX4_hear 4 = .ok (.iload_n 1, 1) := by decide +kernel
theorem dX4_hear_5 : decode cX4_hear 5 = .ok (.aload_n 0, 1) := by decide +kernel
theorem dX4_hear_6 : decode cX4_hear 6 = .ok (.getfield 29, 3) := by decide +kernel
theorem dX4_hear_9 : decode cX4_hear 9 = .ok (.iload_n 1, 1) := by decide +kernel
theorem dX4_hear_10 : decode cX4_hear 10 = .ok (.invokevirtual 78, 3) := by decide +kernel
theorem dX4_hear_13 : decode cX4_hear 13 = .ok (.iconst 1, 1) := by decide +kernel
theorem dX4_hear_14 : decode cX4_hear 14 = .ok (.iadd, 1) := by decide +kernel
theorem dX4_hear_15 : decode cX4_hear 15 = .ok (.invokevirtual 97, 3) := by decide +kernel
theorem dX4_hear_18 : decode cX4_hear 18 = .ok (.aload_n 0, 1) := by decide +kernel
theorem dX4_hear_19 : decode cX4_hear 19 = .ok (.iload_n 1, 1) := by decide +kernel
theorem dX4_hear_20 : decode cX4_hear 20 = .ok (.aload_n 0, 1) := by decide +kernel
theorem dX4_hear_21 : decode cX4_hear 21 = .ok (.getfield 26, 3) := by decide +kernel
theorem dX4_hear_24 : decode cX4_hear 24 = .ok (.iload_n 1, 1) := by decide +kernel
theorem dX4_hear_25 : decode cX4_hear 25 = .ok (.invokevirtual 78, 3) := by decide +kernel
theorem dX4_hear_28 : decode cX4_hear 28 = .ok (.invokevirtual 100, 3) := by decide +kernel
theorem dX4_hear_31 : decode cX4_hear 31 = .ok (.istore_n 2, 1) := by decide +kernel
theorem dX4_hear_32 : decode cX4_hear 32 = .ok (.aload_n 0, 1) := by decide +kernel
theorem dX4_hear_33 : decode cX4_hear 33 = .ok (.iload_n 1, 1) := by decide +kernel
theorem dX4_hear_34 : decode cX4_hear 34 = .ok (.invokevirtual 104, 3) := by decide +kernel
theorem dX4_hear_37 : decode cX4_hear 37 = .ok (.ifCond .ne 57, 3) := by decide +kernel
theorem dX4_hear_40 : decode cX4_hear 40 = .ok (.iload_n 2, 1) := by decide +kernel
theorem dX4_hear_41 : decode cX4_hear 41 = .ok (.bipush (-9), 2) := by decide +kernel
theorem dX4_hear_43 : decode cX4_hear 43 = .ok (.if_icmp .eq 51, 3) := by decide +kernel
theorem dX4_hear_46 : decode cX4_hear 46 = .ok (.aload_n 0, 1) := by decide +kernel
theorem dX4_hear_47 : decode cX4_hear 47 = .ok (.getfield 29, 3) := by decide +kernel
theorem dX4_hear_50 : decode cX4_hear 50 = .ok (.iload_n 1, 1) := by decide +kernel
theorem dX4_hear_51 : decode cX4_hear 51 = .ok (.invokevirtual 78, 3) := by decide +kernel
theorem dX4_hear_54 : decode cX4_hear 54 = .ok (.iload_n 2, 1) := by decide +kernel
theorem dX4_hear_55 : decode cX4_hear 55 = .ok (.if_icmp .lt 39, 3) := by decide +kernel
theorem dX4_hear_58 : decode cX4_hear 58 = .ok (.aload_n 0, 1) := by decide +kernel
theorem dX4_hear_59 : decode cX4_hear 59 = .ok (.getfield 32, 3) := by decide +kernel
theorem dX4_hear_62 : decode cX4_hear 62 = .ok (.iload_n 1, 1) := by decide +kernel
theorem dX4_hear_63 : decode cX4_hear 63 = .ok (.aload_n 0, 1) := by decide +kernel
theorem dX4_hear_64 : decode cX4_hear 64 = .ok (.getfield 26, 3) := by decide +kernel
theorem dX4_hear_67 : decode cX4_hear 67 = .ok (.iload_n 1, 1) := by decide +kernel
theorem dX4_hear_68 : decode cX4_hear 68 = .ok (.invokevirtual 78, 3) := by decide +kernel
theorem dX4_hear_71 : decode cX4_hear 71 = .ok (.invokevirtual 97, 3) := by decide +kernel
theorem dX4_hear_74 : decode cX4_hear 74 = .ok (.aload_n 0, 1) := by decide +kernel
theorem dX4_hear_75 : decode cX4_hear 75 = .ok (.sipush 9999, 3) := by decide +kernel
theorem dX4_hear_78 : decode cX4_hear 78 = .ok (.aload_n 0, 1) := by decide +kernel
theorem dX4_hear_79 : decode cX4_hear 79 = .ok (.getfield 72, 3) := by decide +kernel
theorem dX4_hear_82 : decode cX4_hear 82 = .ok (.aload_n 0, 1) := by decide +kernel
theorem dX4_hear_83 : decode cX4_hear 83 = .ok (.iload_n 1, 1) := by decide +kernel
theorem dX4_hear_84 : decode cX4_hear 84 = .ok (.invokevirtual 108, 3) := by decide +kernel
theorem dX4_hear_87 : decode cX4_hear 87 = .ok (.iadd, 1) := by decide +kernel
theorem dX4_hear_88 : decode cX4_hear 88 = .ok (.invokestatic 111, 3) := by decide +kernel
theorem dX4_hear_91 : decode cX4_hear 91 = .ok (.putfield 72, 3) := by decide +kernel
theorem dX4_hear_94 : decode cX4_hear 94 = .ok (.return_, 1) := by decide +kernel
theorem dX4_isHouse_0 : decode cX4_isHouse 0 = .ok (.iload_n 1, 1) := by decide +kernel
theorem dX4_isHouse_1 : decode cX4_isHouse 1 = .ok (.ifCond .lt 15, 3) := by decide +kernel
theorem dX4_isHouse_4 : decode cX4_isHouse 4 = .ok (.iload_n 1, 1) := by decide +kernel
theorem dX4_isHouse_5 : decode cX4_isHouse 5 = .ok (.aload_n 0, 1) := by decide +kernel
theorem dX4_isHouse_6 : decode cX4_isHouse 6 = .ok (.getfield 42, 3) := by decide +kernel
theorem dX4_isHouse_9 : decode cX4_isHouse 9 = .ok (.if_icmp .ge 7, 3) := by decide +kernel
theorem dX4_isHouse_12 : decode cX4_isHouse 12 = .ok (.iconst 1, 1) := by decide +kernel
theorem dX4_isHouse_13 : decode cX4_isHouse 13 = .ok (.goto 4, 3) := by decide +kernel
theorem dX4_isHouse_16 : decode cX4_isHouse 16 = .ok (.iconst 0, 1) := by decide +kernel
theorem dX4_isHouse_17 : decode cX4_isHouse 17 = .ok (.ireturn, 1) := by decide +kernel
theorem dX4_isSet_0 : decode cX4_isSet 0 = .ok (.iload_n 1, 1) := by decide +kernel
theorem dX4_isSet_1 : decode cX4_isSet 1 = .ok (.ifCond .lt 17, 3) := by decide +kernel
theorem dX4_isSet_4 : decode cX4_isSet 4 = .ok (.iload_n 1, 1) := by decide +kernel
theorem dX4_isSet_5 : decode cX4_isSet 5 = .ok (.iconst 1, 1) := by decide +kernel
theorem dX4_isSet_6 : decode cX4_isSet 6 = .ok (.aload_n 0, 1) := by decide +kernel
theorem dX4_isSet_7 : decode cX4_isSet 7 = .ok (.getfield 42, 3) := by decide +kernel
theorem dX4_isSet_10 : decode cX4_isSet 10 = .ok (.ishl, 1) := by decide +kernel
theorem dX4_isSet_11 : decode cX4_isSet 11 = .ok (.if_icmp .ge 7, 3) := by decide +kernel
theorem dX4_isSet_14 : decode cX4_isSet 14 = .ok (.iconst 1, 1) := by decide +kernel
theorem dX4_isSet_15 : decode cX4_isSet 15 = .ok (.goto 4, 3) := by decide +kernel
theorem dX4_isSet_18 : decode cX4_isSet 18 = .ok (.iconst 0, 1) := by decide +kernel
theorem dX4_isSet_19 : decode cX4_isSet 19 = .ok (.ireturn, 1) := by decide +kernel
theorem dX4_isAwake_0 : decode cX4_isAwake 0 = .ok (.aload_n 0, 1) := by decide +kernel
theorem dX4_isAwake_1 : decode cX4_isAwake 1 = .ok (.iload_n 1, 1) := by decide +kernel
theorem dX4_isAwake_2 : decode cX4_isAwake 2 = .ok (.invokevirtual 114, 3) := by decide +kernel
theorem dX4_isAwake_5 : decode cX4_isAwake 5 = .ok (.ifCond .eq 20, 3) := by decide +kernel
theorem dX4_isAwake_8 : decode cX4_isAwake 8 = .ok (.aload_n 0, 1) := by decide +kernel
theorem dX4_isAwake_9 : decode cX4_isAwake 9 = .ok (.getfield 32, 3) := by decide +kernel
theorem dX4_isAwake_12 : decode cX4_isAwake 12 = .ok (.iload_n 1, 1) := by decide +kernel
theorem dX4_isAwake_13 : decode cX4_isAwake 13 = .ok (.invokevirtual 78, 3) := by decide +kernel
theorem dX4_isAwake_16 : decode cX4_isAwake 16 = .ok (.bipush (-9), 2) := by decide +kernel
theorem dX4_isAwake_18 : decode cX4_isAwake 18 = .ok (.if_icmp .eq 7, 3) := by decide +kernel
theorem dX4_isAwake_21 : decode cX4_isAwake 21 = .ok (.iconst 1, 1) := by decide +kernel
theorem dX4_isAwake_22 : decode cX4_isAwake 22 = .ok (.goto 4, 3) := by decide +kernel
theorem dX4_isAwake_25 : decode cX4_isAwake 25 = .ok (.iconst 0, 1) := by decide +kernel
theorem dX4_isAwake_26 : decode cX4_isAwake 26 = .ok (.ireturn, 1) := by decide +kernel
theorem dX4_tapsFor_0 : decode cX4_tapsFor 0 = .ok (.aload_n 0, 1) := by decide +kernel
theorem dX4_tapsFor_1 : decode cX4_tapsFor 1 = .ok (.getfield 14, 3) := by decide +kernel
theorem dX4_tapsFor_4 : decode cX4_tapsFor 4 = .ok (.iload_n 1, 1) := by decide +kernel
theorem dX4_tapsFor_5 : decode cX4_tapsFor 5 = .ok (.invokevirtual 78, 3) := by decide +kernel
theorem dX4_tapsFor_8 : decode cX4_tapsFor 8 = .ok (.iload_n 2, 1) := by decide +kernel
theorem dX4_tapsFor_9 : decode cX4_tapsFor 9 = .ok (.aload_n 0, 1) := by decide +kernel
theorem dX4_tapsFor_10 : decode cX4_tapsFor 10 = .ok (.getfield 66, 3) := by decide +kernel
theorem dX4_tapsFor_13 : decode cX4_tapsFor 13 = .ok (.invokestatic 117, 3) := by decide +kernel
theorem dX4_tapsFor_16 : decode cX4_tapsFor 16 = .ok (.ireturn, 1) := by decide +kernel
theorem dX4_fee_0 : decode cX4_fee 0 = .ok (.aload_n 0, 1) := by decide +kernel
theorem dX4_fee_1 : decode cX4_fee 1 = .ok (.getfield 14, 3) := by decide +kernel
theorem dX4_fee_4 : decode cX4_fee 4 = .ok (.iload_n 1, 1) := by decide +kernel
theorem dX4_fee_5 : decode cX4_fee 5 = .ok (.invokevirtual 78, 3) := by decide +kernel
theorem dX4_fee_8 : decode cX4_fee 8 = .ok (.invokestatic 123, 3) := by decide +kernel
theorem dX4_fee_11 : decode cX4_fee 11 = .ok (.ireturn, 1) := by decide +kernel
theorem dX4_more_0 : decode cX4_more 0 = .ok (.aload_n 0, 1) := by decide +kernel
theorem dX4_more_1 : decode cX4_more 1 = .ok (.iload_n 1, 1) := by decide +kernel
theorem dX4_more_2 : decode cX4_more 2 = .ok (.invokevirtual 104, 3) := by decide +kernel
theorem dX4_more_5 : decode cX4_more 5 = .ok (.ifCond .eq 5, 3) := by decide +kernel
theorem dX4_more_8 : decode cX4_more 8 = .ok (.iconst 0, 1) := by decide +kernel
theorem dX4_more_9 : decode cX4_more 9 = .ok (.ireturn, 1) := by decide +kernel
theorem dX4_more_10 : decode cX4_more 10 = .ok (.aload_n 0, 1) := by decide +kernel
theorem dX4_more_11 : decode cX4_more 11 = .ok (.iload_n 1, 1) := by decide +kernel
theorem dX4_more_12 : decode cX4_more 12 = .ok (.aload_n 0, 1) := by decide +kernel
theorem dX4_more_13 : decode cX4_more 13 = .ok (.getfield 26, 3) := by decide +kernel
theorem dX4_more_16 : decode cX4_more 16 = .ok (.iload_n 1, 1) := by decide +kernel
theorem dX4_more_17 : decode cX4_more 17 = .ok (.invokevirtual 78, 3) := by decide +kernel
theorem dX4_more_20 : decode cX4_more 20 = .ok (.invokevirtual 100, 3) := by decide +kernel
theorem dX4_more_23 : decode cX4_more 23 = .ok (.istore_n 2, 1) := by decide +kernel
theorem dX4_more_24 : decode cX4_more 24 = .ok (.iload_n 2, 1) := by decide +kernel
theorem dX4_more_25 : decode cX4_more 25 = .ok (.bipush (-9), 2) := by decide +kernel
theorem dX4_more_27 : decode cX4_more 27 = .ok (.if_icmp .ne 8, 3) := by decide +kernel
theorem dX4_more_30 : decode cX4_more 30 = .ok (.bipush (-9), 2) := by decide +kernel
theorem dX4_more_32 : decode cX4_more 32 = .ok (.goto 17, 3) := by decide +kernel
theorem dX4_more_35 : decode cX4_more 35 = .ok (.iconst 1, 1) := by decide +kernel
theorem dX4_more_36 : decode cX4_more 36 = .ok (.iload_n 2, 1) := by decide +kernel
theorem dX4_more_37 : decode cX4_more 37 = .ok (.aload_n 0, 1) := by decide +kernel
theorem dX4_more_38 : decode cX4_more 38 = .ok (.getfield 29, 3) := by decide +kernel
theorem dX4_more_41 : decode cX4_more 41 = .ok (.iload_n 1, 1) := by decide +kernel
theorem dX4_more_42 : decode cX4_more 42 = .ok (.invokevirtual 78, 3) := by decide +kernel
theorem dX4_more_45 : decode cX4_more 45 = .ok (.isub, 1) := by decide +kernel
theorem dX4_more_46 : decode cX4_more 46 = .ok (.invokestatic 124, 3) := by decide +kernel
theorem dX4_more_49 : decode cX4_more 49 = .ok (.ireturn, 1) := by decide +kernel
theorem dX4_tell_0 : decode cX4_tell 0 = .ok (.iload_n 2, 1) := by decide +kernel
theorem dX4_tell_1 : decode cX4_tell 1 = .ok (.tableswitch 80 0 4 #[35, 44, 53, 62, 71], 35) := by decide +kernel
theorem dX4_tell_36 : decode cX4_tell 36 = .ok (.aload_n 0, 1) := by decide +kernel
theorem dX4_tell_37 : decode cX4_tell 37 = .ok (.getfield 14, 3) := by decide +kernel
theorem dX4_tell_40 : decode cX4_tell 40 = .ok (.iload_n 1, 1) := by decide +kernel
theorem dX4_tell_41 : decode cX4_tell 41 = .ok (.invokevirtual 78, 3) := by decide +kernel
theorem dX4_tell_44 : decode cX4_tell 44 = .ok (.ireturn, 1) := by decide +kernel
theorem dX4_tell_45 : decode cX4_tell 45 = .ok (.aload_n 0, 1) := by decide +kernel
theorem dX4_tell_46 : decode cX4_tell 46 = .ok (.getfield 26, 3) := by decide +kernel
theorem dX4_tell_49 : decode cX4_tell 49 = .ok (.iload_n 1, 1) := by decide +kernel
theorem dX4_tell_50 : decode cX4_tell 50 = .ok (.invokevirtual 78, 3) := by decide +kernel
theorem dX4_tell_53 : decode cX4_tell 53 = .ok (.ireturn, 1) := by decide +kernel
theorem dX4_tell_54 : decode cX4_tell 54 = .ok (.aload_n 0, 1) := by decide +kernel
theorem dX4_tell_55 : decode cX4_tell 55 = .ok (.getfield 20, 3) := by decide +kernel
theorem dX4_tell_58 : decode cX4_tell 58 = .ok (.iload_n 1, 1) := by decide +kernel
theorem dX4_tell_59 : decode cX4_tell 59 = .ok (.invokevirtual 78, 3) := by decide +kernel
theorem dX4_tell_62 : decode cX4_tell 62 = .ok (.ireturn, 1) := by decide +kernel
theorem dX4_tell_63 : decode cX4_tell 63 = .ok (.aload_n 0, 1) := by decide +kernel
theorem dX4_tell_64 : decode cX4_tell 64 = .ok (.getfield 29, 3) := by decide +kernel
theorem dX4_tell_67 : decode cX4_tell 67 = .ok (.iload_n 1, 1) := by decide +kernel
theorem dX4_tell_68 : decode cX4_tell 68 = .ok (.invokevirtual 78, 3) := by decide +kernel
theorem dX4_tell_71 : decode cX4_tell 71 = .ok (.ireturn, 1) := by decide +kernel
theorem dX4_tell_72 : decode cX4_tell 72 = .ok (.aload_n 0, 1) := by decide +kernel
theorem dX4_tell_73 : decode cX4_tell 73 = .ok (.getfield 32, 3) := by decide +kernel
theorem dX4_tell_76 : decode cX4_tell 76 = .ok (.iload_n 1, 1) := by decide +kernel
theorem dX4_tell_77 : decode cX4_tell 77 = .ok (.invokevirtual 78, 3) := by decide +kernel
theorem dX4_tell_80 : decode cX4_tell 80 = .ok (.ireturn, 1) := by decide +kernel
theorem dX4_tell_81 : decode cX4_tell 81 = .ok (.aload_n 0, 1) := by decide +kernel
theorem dX4_tell_82 : decode cX4_tell 82 = .ok (.iload_n 1, 1) := by decide +kernel
theorem dX4_tell_83 : decode cX4_tell 83 = .ok (.invokevirtual 127, 3) := by decide +kernel
theorem dX4_tell_86 : decode cX4_tell 86 = .ok (.ireturn, 1) := by decide +kernel
theorem dX4_awakeSet_0 : decode cX4_awakeSet 0 = .ok (.iconst 0, 1) := by decide +kernel
theorem dX4_awakeSet_1 : decode cX4_awakeSet 1 = .ok (.istore_n 1, 1) := by decide +kernel
theorem dX4_awakeSet_2 : decode cX4_awakeSet 2 = .ok (.iconst 0, 1) := by decide +kernel
theorem dX4_awakeSet_3 : decode cX4_awakeSet 3 = .ok (.istore_n 2, 1) := by decide +kernel
theorem dX4_awakeSet_4 : decode cX4_awakeSet 4 = .ok (.iload_n 2, 1) := by decide +kernel
theorem dX4_awakeSet_5 : decode cX4_awakeSet 5 = .ok (.aload_n 0, 1) := by decide +kernel
theorem dX4_awakeSet_6 : decode cX4_awakeSet 6 = .ok (.getfield 42, 3) := by decide +kernel
theorem dX4_awakeSet_9 : decode cX4_awakeSet 9 = .ok (.if_icmp .ge 23, 3) := by decide +kernel
theorem dX4_awakeSet_12 : decode cX4_awakeSet 12 = .ok (.aload_n 0, 1) := by decide +kernel
theorem dX4_awakeSet_13 : decode cX4_awakeSet 13 = .ok (.iload_n 2, 1) := by decide +kernel
theorem dX4_awakeSet_14 : decode cX4_awakeSet 14 = .ok (.invokevirtual 104, 3) := by decide +kernel
theorem dX4_awakeSet_17 : decode cX4_awakeSet 17 = .ok (.ifCond .eq 9, 3) := by decide +kernel
theorem dX4_awakeSet_20 : decode cX4_awakeSet 20 = .ok (.iload_n 1, 1) := by decide +kernel
theorem dX4_awakeSet_21 : decode cX4_awakeSet 21 = .ok (.iconst 1, 1) := by decide +kernel
theorem dX4_awakeSet_22 : decode cX4_awakeSet 22 = .ok (.iload_n 2, 1) := by decide +kernel
theorem dX4_awakeSet_23 : decode cX4_awakeSet 23 = .ok (.ishl, 1) := by decide +kernel
theorem dX4_awakeSet_24 : decode cX4_awakeSet 24 = .ok (.ior, 1) := by decide +kernel
theorem dX4_awakeSet_25 : decode cX4_awakeSet 25 = .ok (.istore_n 1, 1) := by decide +kernel
theorem dX4_awakeSet_26 : decode cX4_awakeSet 26 = .ok (.iinc 2 1, 3) := by decide +kernel
theorem dX4_awakeSet_29 : decode cX4_awakeSet 29 = .ok (.goto (-25), 3) := by decide +kernel
theorem dX4_awakeSet_32 : decode cX4_awakeSet 32 = .ok (.iload_n 1, 1) := by decide +kernel
theorem dX4_awakeSet_33 : decode cX4_awakeSet 33 = .ok (.ireturn, 1) := by decide +kernel
theorem dX4_canWake_0 : decode cX4_canWake 0 = .ok (.iconst 0, 1) := by decide +kernel
theorem dX4_canWake_1 : decode cX4_canWake 1 = .ok (.istore_n 2, 1) := by decide +kernel
theorem dX4_canWake_2 : decode cX4_canWake 2 = .ok (.iload_n 2, 1) := by decide +kernel
theorem dX4_canWake_3 : decode cX4_canWake 3 = .ok (.aload_n 0, 1) := by decide +kernel
theorem dX4_canWake_4 : decode cX4_canWake 4 = .ok (.getfield 42, 3) := by decide +kernel
theorem dX4_canWake_7 : decode cX4_canWake 7 = .ok (.if_icmp .ge 27, 3) := by decide +kernel
theorem dX4_canWake_10 : decode cX4_canWake 10 = .ok (.iload_n 1, 1) := by decide +kernel
theorem dX4_canWake_11 : decode cX4_canWake 11 = .ok (.iload_n 2, 1) := by decide +kernel
theorem dX4_canWake_12 : decode cX4_canWake 12 = .ok (.invokestatic 130, 3) := by decide +kernel
theorem dX4_canWake_15 : decode cX4_canWake 15 = .ok (.ifCond .eq 13, 3) := by decide +kernel
theorem dX4_canWake_18 : decode cX4_canWake 18 = .ok (.aload_n 0, 1) := by decide +kernel
theorem dX4_canWake_19 : decode cX4_canWake 19 = .ok (.iload_n 2, 1) := by decide +kernel
theorem dX4_canWake_20 : decode cX4_canWake 20 = .ok (.invokevirtual 127, 3) := by decide +kernel
theorem dX4_canWake_23 : decode cX4_canWake 23 = .ok (.ifCond .gt 5, 3) := by decide +kernel
theorem dX4_canWake_26 : decode cX4_canWake 26 = .ok (.iconst 0, 1) := by decide +kernel
theorem dX4_canWake_27 : decode cX4_canWake 27 = .ok (.ireturn, 1) := by decide +kernel
theorem dX4_canWake_28 : decode cX4_canWake 28 = .ok (.iinc 2 1, 3) := by decide +kernel
theorem dX4_canWake_31 : decode cX4_canWake 31 = .ok (.goto (-29), 3) := by decide +kernel
theorem dX4_canWake_34 : decode cX4_canWake 34 = .ok (.iconst 1, 1) := by decide +kernel
theorem dX4_canWake_35 : decode cX4_canWake 35 = .ok (.ireturn, 1) := by decide +kernel
theorem dX4_tapsLeft_0 : decode cX4_tapsLeft 0 = .ok (.iconst 0, 1) := by decide +kernel
theorem dX4_tapsLeft_1 : decode cX4_tapsLeft 1 = .ok (.istore_n 2, 1) := by decide +kernel
theorem dX4_tapsLeft_2 : decode cX4_tapsLeft 2 = .ok (.iconst 0, 1) := by decide +kernel
theorem dX4_tapsLeft_3 : decode cX4_tapsLeft 3 = .ok (.istore_n 3, 1) := by decide +kernel
theorem dX4_tapsLeft_4 : decode cX4_tapsLeft 4 = .ok (.iload_n 3, 1) := by decide +kernel
theorem dX4_tapsLeft_5 : decode cX4_tapsLeft 5 = .ok (.aload_n 0, 1) := by decide +kernel
theorem dX4_tapsLeft_6 : decode cX4_tapsLeft 6 = .ok (.getfield 42, 3) := by decide +kernel
theorem dX4_tapsLeft_9 : decode cX4_tapsLeft 9 = .ok (.if_icmp .ge 33, 3) := by decide +kernel
theorem dX4_tapsLeft_12 : decode cX4_tapsLeft 12 = .ok (.iload_n 2, 1) := by decide +kernel
theorem dX4_tapsLeft_13 : decode cX4_tapsLeft 13 = .ok (.iload_n 1, 1) := by decide +kernel
theorem dX4_tapsLeft_14 : decode cX4_tapsLeft 14 = .ok (.iload_n 3, 1) := by decide +kernel
theorem dX4_tapsLeft_15 : decode cX4_tapsLeft 15 = .ok (.invokestatic 130, 3) := by decide +kernel
theorem dX4_tapsLeft_18 : decode cX4_tapsLeft 18 = .ok (.ifCond .eq 15, 3) := by decide +kernel
theorem dX4_tapsLeft_21 : decode cX4_tapsLeft 21 = .ok (.iconst 0, 1) := by decide +kernel
theorem dX4_tapsLeft_22 : decode cX4_tapsLeft 22 = .ok (.aload_n 0, 1) := by decide +kernel
theorem dX4_tapsLeft_23 : decode cX4_tapsLeft 23 = .ok (.iload_n 3, 1) := by decide +kernel
theorem dX4_tapsLeft_24 : decode cX4_tapsLeft 24 = .ok (.invokevirtual 127, 3) := by decide +kernel
theorem dX4_tapsLeft_27 : decode cX4_tapsLeft 27 = .ok (.invokestatic 124, 3) := by decide +kernel
theorem dX4_tapsLeft_30 : decode cX4_tapsLeft 30 = .ok (.goto 4, 3) := by decide +kernel
theorem dX4_tapsLeft_33 : decode cX4_tapsLeft 33 = .ok (.iconst 0, 1) := by decide +kernel
theorem dX4_tapsLeft_34 : decode cX4_tapsLeft 34 = .ok (.iadd, 1) := by decide +kernel
theorem dX4_tapsLeft_35 : decode cX4_tapsLeft 35 = .ok (.istore_n 2, 1) := by decide +kernel
theorem dX4_tapsLeft_36 : decode cX4_tapsLeft 36 = .ok (.iinc 3 1, 3) := by decide +kernel
theorem dX4_tapsLeft_39 : decode cX4_tapsLeft 39 = .ok (.goto (-35), 3) := by decide +kernel
theorem dX4_tapsLeft_42 : decode cX4_tapsLeft 42 = .ok (.iload_n 2, 1) := by decide +kernel
theorem dX4_tapsLeft_43 : decode cX4_tapsLeft 43 = .ok (.ireturn, 1) := by decide +kernel
theorem dX4_fees_0 : decode cX4_fees 0 = .ok (.iconst 0, 1) := by decide +kernel
theorem dX4_fees_1 : decode cX4_fees 1 = .ok (.istore_n 2, 1) := by decide +kernel
theorem dX4_fees_2 : decode cX4_fees 2 = .ok (.iconst 0, 1) := by decide +kernel
theorem dX4_fees_3 : decode cX4_fees 3 = .ok (.istore_n 3, 1) := by decide +kernel
theorem dX4_fees_4 : decode cX4_fees 4 = .ok (.iload_n 3, 1) := by decide +kernel
theorem dX4_fees_5 : decode cX4_fees 5 = .ok (.aload_n 0, 1) := by decide +kernel
theorem dX4_fees_6 : decode cX4_fees 6 = .ok (.getfield 42, 3) := by decide +kernel
theorem dX4_fees_9 : decode cX4_fees 9 = .ok (.if_icmp .ge 29, 3) := by decide +kernel
theorem dX4_fees_12 : decode cX4_fees 12 = .ok (.iload_n 2, 1) := by decide +kernel
theorem dX4_fees_13 : decode cX4_fees 13 = .ok (.iload_n 1, 1) := by decide +kernel
theorem dX4_fees_14 : decode cX4_fees 14 = .ok (.iload_n 3, 1) := by decide +kernel
theorem dX4_fees_15 : decode cX4_fees 15 = .ok (.invokestatic 130, 3) := by decide +kernel
theorem dX4_fees_18 : decode cX4_fees 18 = .ok (.ifCond .eq 11, 3) := by decide +kernel
theorem dX4_fees_21 : decode cX4_fees 21 = .ok (.aload_n 0, 1) := by decide +kernel
theorem dX4_fees_22 : decode cX4_fees 22 = .ok (.iload_n 3, 1) := by decide +kernel
theorem dX4_fees_23 : decode cX4_fees 23 = .ok (.invokevirtual 108, 3) := by decide +kernel
theorem dX4_fees_26 : decode cX4_fees 26 = .ok (.goto 4, 3) := by decide +kernel
theorem dX4_fees_29 : decode cX4_fees 29 = .ok (.iconst 0, 1) := by decide +kernel
theorem dX4_fees_30 : decode cX4_fees 30 = .ok (.iadd, 1) := by decide +kernel
theorem dX4_fees_31 : decode cX4_fees 31 = .ok (.istore_n 2, 1) := by decide +kernel
theorem dX4_fees_32 : decode cX4_fees 32 = .ok (.iinc 3 1, 3) := by decide +kernel
theorem dX4_fees_35 : decode cX4_fees 35 = .ok (.goto (-31), 3) := by decide +kernel
theorem dX4_fees_38 : decode cX4_fees 38 = .ok (.iload_n 2, 1) := by decide +kernel
theorem dX4_fees_39 : decode cX4_fees 39 = .ok (.ireturn, 1) := by decide +kernel
theorem dX4_manyOf_0 : decode cX4_manyOf 0 = .ok (.iconst 0, 1) := by decide +kernel
theorem dX4_manyOf_1 : decode cX4_manyOf 1 = .ok (.istore_n 2, 1) := by decide +kernel
theorem dX4_manyOf_2 : decode cX4_manyOf 2 = .ok (.iconst 0, 1) := by decide +kernel
theorem dX4_manyOf_3 : decode cX4_manyOf 3 = .ok (.istore_n 3, 1) := by decide +kernel
theorem dX4_manyOf_4 : decode cX4_manyOf 4 = .ok (.iload_n 3, 1) := by decide +kernel
theorem dX4_manyOf_5 : decode cX4_manyOf 5 = .ok (.aload_n 0, 1) := by decide +kernel
theorem dX4_manyOf_6 : decode cX4_manyOf 6 = .ok (.getfield 42, 3) := by decide +kernel
theorem dX4_manyOf_9 : decode cX4_manyOf 9 = .ok (.if_icmp .ge 32, 3) := by decide +kernel
theorem dX4_manyOf_12 : decode cX4_manyOf 12 = .ok (.iload_n 2, 1) := by decide +kernel
theorem dX4_manyOf_13 : decode cX4_manyOf 13 = .ok (.aload_n 0, 1) := by decide +kernel
theorem dX4_manyOf_14 : decode cX4_manyOf 14 = .ok (.getfield 14, 3) := by decide +kernel
theorem dX4_manyOf_17 : decode cX4_manyOf 17 = .ok (.iload_n 3, 1) := by decide +kernel
theorem dX4_manyOf_18 : decode cX4_manyOf 18 = .ok (.invokevirtual 78, 3) := by decide +kernel
theorem dX4_manyOf_21 : decode cX4_manyOf 21 = .ok (.iload_n 1, 1) := by decide +kernel
theorem dX4_manyOf_22 : decode cX4_manyOf 22 = .ok (.invokestatic 134, 3) := by decide +kernel
theorem dX4_manyOf_25 : decode cX4_manyOf 25 = .ok (.ifCond .eq 7, 3) := by decide +kernel
theorem dX4_manyOf_28 : decode cX4_manyOf 28 = .ok (.iconst 1, 1) := by decide +kernel
theorem dX4_manyOf_29 : decode cX4_manyOf 29 = .ok (.goto 4, 3) := by decide +kernel
theorem dX4_manyOf_32 : decode cX4_manyOf 32 = .ok (.iconst 0, 1) := by decide +kernel
theorem dX4_manyOf_33 : decode cX4_manyOf 33 = .ok (.iadd, 1) := by decide +kernel
theorem dX4_manyOf_34 : decode cX4_manyOf 34 = .ok (.istore_n 2, 1) := by decide +kernel
theorem dX4_manyOf_35 : decode cX4_manyOf 35 = .ok (.iinc 3 1, 3) := by decide +kernel
theorem dX4_manyOf_38 : decode cX4_manyOf 38 = .ok (.goto (-34), 3) := by decide +kernel
theorem dX4_manyOf_41 : decode cX4_manyOf 41 = .ok (.iload_n 2, 1) := by decide +kernel
theorem dX4_manyOf_42 : decode cX4_manyOf 42 = .ok (.ireturn, 1) := by decide +kernel
theorem dX4_nextByDate_0 : decode cX4_nextByDate 0 = .ok (.bipush (-9), 2) := by decide +kernel
theorem dX4_nextByDate_2 : decode cX4_nextByDate 2 = .ok (.istore_n 3, 1) := by decide +kernel
theorem dX4_nextByDate_3 : decode cX4_nextByDate 3 = .ok (.iconst 0, 1) := by decide +kernel
theorem dX4_nextByDate_4 : decode cX4_nextByDate 4 = .ok (.istore 4, 2) := by decide +kernel
theorem dX4_nextByDate_6 : decode cX4_nextByDate 6 = .ok (.iload 4, 2) := by decide +kernel
theorem dX4_nextByDate_8 : decode cX4_nextByDate 8 = .ok (.aload_n 0, 1) := by decide +kernel
theorem dX4_nextByDate_9 : decode cX4_nextByDate 9 = .ok (.getfield 42, 3) := by decide +kernel
theorem dX4_nextByDate_12 : decode cX4_nextByDate 12 = .ok (.if_icmp .ge 67, 3) := by decide +kernel
theorem dX4_nextByDate_15 : decode cX4_nextByDate 15 = .ok (.iload_n 3, 1) := by decide +kernel
theorem dX4_nextByDate_16 : decode cX4_nextByDate 16 = .ok (.bipush (-9), 2) := by decide +kernel
theorem dX4_nextByDate_18 : decode cX4_nextByDate 18 = .ok (.if_icmp .eq 27, 3) := by decide +kernel
theorem dX4_nextByDate_21 : decode cX4_nextByDate 21 = .ok (.iload_n 2, 1) := by decide +kernel
theorem dX4_nextByDate_22 : decode cX4_nextByDate 22 = .ok (.aload_n 0, 1) := by decide +kernel
theorem dX4_nextByDate_23 : decode cX4_nextByDate 23 = .ok (.getfield 26, 3) := by decide +kernel
theorem dX4_nextByDate_26 : decode cX4_nextByDate 26 = .ok (.iload 4, 2) := by decide +kernel
theorem dX4_nextByDate_28 : decode cX4_nextByDate 28 = .ok (.invokevirtual 78, 3) := by decide +kernel
theorem dX4_nextByDate_31 : decode cX4_nextByDate 31 = .ok (.imul, 1) := by decide +kernel
theorem dX4_nextByDate_32 : decode cX4_nextByDate 32 = .ok (.iload_n 2, 1) := by decide +kernel
theorem dX4_nextByDate_33 : decode cX4_nextByDate 33 = .ok (.aload_n 0, 1) := by decide +kernel
theorem dX4_nextByDate_34 : decode cX4_nextByDate 34 = .ok (.getfield 26, 3) := by decide +kernel
theorem dX4_nextByDate_37 : decode cX4_nextByDate 37 = .ok (.iload_n 3, 1) := by decide +kernel
theorem dX4_nextByDate_38 : decode cX4_nextByDate 38 = .ok (.invokevirtual 78, 3) := by decide +kernel
theorem dX4_nextByDate_41 : decode cX4_nextByDate 41 = .ok (.imul, 1) := by decide +kernel
theorem dX4_nextByDate_42 : decode cX4_nextByDate 42 = .ok (.if_icmp .ge 7, 3) := by decide +kernel
theorem dX4_nextByDate_45 : decode cX4_nextByDate 45 = .ok (.iconst 1, 1) := by decide +kernel
theorem dX4_nextByDate_46 : decode cX4_nextByDate 46 = .ok (.goto 4, 3) := by decide +kernel
theorem dX4_nextByDate_49 : decode cX4_nextByDate 49 = .ok (.iconst 0, 1) := by decide +kernel
theorem dX4_nextByDate_50 : decode cX4_nextByDate 50 = .ok (.istore 5, 2) := by decide +kernel
theorem dX4_nextByDate_52 : decode cX4_nextByDate 52 = .ok (.iload_n 1, 1) := by decide +kernel
theorem dX4_nextByDate_53 : decode cX4_nextByDate 53 = .ok (.iload 4, 2) := by decide +kernel
theorem dX4_nextByDate_55 : decode cX4_nextByDate 55 = .ok (.invokestatic 130, 3) := by decide +kernel
theorem dX4_nextByDate_58 : decode cX4_nextByDate 58 = .ok (.ifCond .ne 13, 3) := by decide +kernel
theorem dX4_nextByDate_61 : decode cX4_nextByDate 61 = .ok (.iload 5, 2) := by decide +kernel
theorem dX4_nextByDate_63 : decode cX4_nextByDate 63 = .ok (.ifCond .eq 8, 3) := by decide +kernel
theorem dX4_nextByDate_66 : decode cX4_nextByDate 66 = .ok (.iload 4, 2) := by decide +kernel
theorem dX4_nextByDate_68 : decode cX4_nextByDate 68 = .ok (.goto 4, 3) := by decide +kernel
theorem dX4_nextByDate_71 : decode cX4_nextByDate 71 = .ok (.iload_n 3, 1) := by decide +kernel
theorem dX4_nextByDate_72 : decode cX4_nextByDate 72 = .ok (.istore_n 3, 1) := by decide +kernel
theorem dX4_nextByDate_73 : decode cX4_nextByDate 73 = .ok (.iinc 4 1, 3) := by decide +kernel
theorem dX4_nextByDate_76 : decode cX4_nextByDate 76 = .ok (.goto (-70), 3) := by decide +kernel
theorem dX4_nextByDate_79 : decode cX4_nextByDate 79 = .ok (.iconst 0, 1) := by decide +kernel
theorem dX4_nextByDate_80 : decode cX4_nextByDate 80 = .ok (.iload_n 3, 1) := by decide +kernel
theorem dX4_nextByDate_81 : decode cX4_nextByDate 81 = .ok (.invokestatic 124, 3) := by decide +kernel
theorem dX4_nextByDate_84 : decode cX4_nextByDate 84 = .ok (.ireturn, 1) := by decide +kernel
theorem dX4_mostAwake_0 : decode cX4_mostAwake 0 = .ok (.iconst 0, 1) := by decide +kernel
theorem dX4_mostAwake_1 : decode cX4_mostAwake 1 = .ok (.istore_n 3, 1) := by decide +kernel
theorem dX4_mostAwake_2 : decode cX4_mostAwake 2 = .ok (.iload_n 2, 1) := by decide +kernel
theorem dX4_mostAwake_3 : decode cX4_mostAwake 3 = .ok (.istore 4, 2) := by decide +kernel
theorem dX4_mostAwake_5 : decode cX4_mostAwake 5 = .ok (.iconst 0, 1) := by decide +kernel
theorem dX4_mostAwake_6 : decode cX4_mostAwake 6 = .ok (.istore 5, 2) := by decide +kernel
theorem dX4_mostAwake_8 : decode cX4_mostAwake 8 = .ok (.iload 5, 2) := by decide +kernel
theorem dX4_mostAwake_10 : decode cX4_mostAwake 10 = .ok (.iload_n 2, 1) := by decide +kernel
theorem dX4_mostAwake_11 : decode cX4_mostAwake 11 = .ok (.if_icmp .gt 55, 3) := by decide +kernel
theorem dX4_mostAwake_14 : decode cX4_mostAwake 14 = .ok (.iload_n 1, 1) := by decide +kernel
theorem dX4_mostAwake_15 : decode cX4_mostAwake 15 = .ok (.istore 6, 2) := by decide +kernel
theorem dX4_mostAwake_17 : decode cX4_mostAwake 17 = .ok (.iload 6, 2) := by decide +kernel
theorem dX4_mostAwake_19 : decode cX4_mostAwake 19 = .ok (.aload_n 0, 1) := by decide +kernel
theorem dX4_mostAwake_20 : decode cX4_mostAwake 20 = .ok (.getfield 42, 3) := by decide +kernel
theorem dX4_mostAwake_23 : decode cX4_mostAwake 23 = .ok (.if_icmp .ge 37, 3) := by decide +kernel
theorem dX4_mostAwake_26 : decode cX4_mostAwake 26 = .ok (.aload_n 0, 1) := by decide +kernel
theorem dX4_mostAwake_27 : decode cX4_mostAwake 27 = .ok (.iload 6, 2) := by decide +kernel
theorem dX4_mostAwake_29 : decode cX4_mostAwake 29 = .ok (.invokevirtual 127, 3) := by decide +kernel
theorem dX4_mostAwake_32 : decode cX4_mostAwake 32 = .ok (.iload 5, 2) := by decide +kernel
theorem dX4_mostAwake_34 : decode cX4_mostAwake 34 = .ok (.if_icmp .ne 20, 3) := by decide +kernel
theorem dX4_mostAwake_37 : decode cX4_mostAwake 37 = .ok (.iload 5, 2) := by decide +kernel
theorem dX4_mostAwake_39 : decode cX4_mostAwake 39 = .ok (.iload 4, 2) := by decide +kernel
theorem dX4_mostAwake_41 : decode cX4_mostAwake 41 = .ok (.if_icmp .gt 13, 3) := by decide +kernel
theorem dX4_mostAwake_44 : decode cX4_mostAwake 44 = .ok (.iload 4, 2) := by decide +kernel
theorem dX4_mostAwake_46 : decode cX4_mostAwake 46 = .ok (.iload 5, 2) := by decide +kernel
theorem dX4_mostAwake_48 : decode cX4_mostAwake 48 = .ok (.isub, 1) := by decide +kernel
theorem dX4_mostAwake_49 : decode cX4_mostAwake 49 = .ok (.istore 4, 2) := by decide +kernel
theorem dX4_mostAwake_51 : decode cX4_mostAwake 51 = .ok (.iinc 3 1, 3) := by decide +kernel
theorem dX4_mostAwake_54 : decode cX4_mostAwake 54 = .ok (.iinc 6 2, 3) := by decide +kernel
theorem dX4_mostAwake_57 : decode cX4_mostAwake 57 = .ok (.goto (-40), 3) := by decide +kernel
theorem dX4_mostAwake_60 : decode cX4_mostAwake 60 = .ok (.iinc 5 1, 3) := by decide +kernel
theorem dX4_mostAwake_63 : decode cX4_mostAwake 63 = .ok (.goto (-55), 3) := by decide +kernel
theorem dX4_mostAwake_66 : decode cX4_mostAwake 66 = .ok (.iload_n 3, 1) := by decide +kernel
theorem dX4_mostAwake_67 : decode cX4_mostAwake 67 = .ok (.ireturn, 1) := by decide +kernel
theorem dJ6_bitCount_0f7a4_0 : decode cJ6_bitCount_0f7a4 0 = .ok (.iload_n 0, 1) := by decide +kernel
theorem dJ6_bitCount_0f7a4_1 : decode cJ6_bitCount_0f7a4 1 = .ok (.iload_n 0, 1) := by decide +kernel
theorem dJ6_bitCount_0f7a4_2 : decode cJ6_bitCount_0f7a4 2 = .ok (.iconst 1, 1) := by decide +kernel
theorem dJ6_bitCount_0f7a4_3 : decode cJ6_bitCount_0f7a4 3 = .ok (.iushr, 1) := by decide +kernel
theorem dJ6_bitCount_0f7a4_4 : decode cJ6_bitCount_0f7a4 4 = .ok (.ldc_w 265, 3) := by decide +kernel
theorem dJ6_bitCount_0f7a4_7 : decode cJ6_bitCount_0f7a4 7 = .ok (.iand, 1) := by decide +kernel
theorem dJ6_bitCount_0f7a4_8 : decode cJ6_bitCount_0f7a4 8 = .ok (.isub, 1) := by decide +kernel
theorem dJ6_bitCount_0f7a4_9 : decode cJ6_bitCount_0f7a4 9 = .ok (.istore_n 0, 1) := by decide +kernel
theorem dJ6_bitCount_0f7a4_10 : decode cJ6_bitCount_0f7a4 10 = .ok (.iload_n 0, 1) := by decide +kernel
theorem dJ6_bitCount_0f7a4_11 : decode cJ6_bitCount_0f7a4 11 = .ok (.ldc_w 266, 3) := by decide +kernel
theorem dJ6_bitCount_0f7a4_14 : decode cJ6_bitCount_0f7a4 14 = .ok (.iand, 1) := by decide +kernel
theorem dJ6_bitCount_0f7a4_15 : decode cJ6_bitCount_0f7a4 15 = .ok (.iload_n 0, 1) := by decide +kernel
theorem dJ6_bitCount_0f7a4_16 : decode cJ6_bitCount_0f7a4 16 = .ok (.iconst 2, 1) := by decide +kernel
theorem dJ6_bitCount_0f7a4_17 : decode cJ6_bitCount_0f7a4 17 = .ok (.iushr, 1) := by decide +kernel
theorem dJ6_bitCount_0f7a4_18 : decode cJ6_bitCount_0f7a4 18 = .ok (.ldc_w 266, 3) := by decide +kernel
theorem dJ6_bitCount_0f7a4_21 : decode cJ6_bitCount_0f7a4 21 = .ok (.iand, 1) := by decide +kernel
theorem dJ6_bitCount_0f7a4_22 : decode cJ6_bitCount_0f7a4 22 = .ok (.iadd, 1) := by decide +kernel
theorem dJ6_bitCount_0f7a4_23 : decode cJ6_bitCount_0f7a4 23 = .ok (.istore_n 0, 1) := by decide +kernel
theorem dJ6_bitCount_0f7a4_24 : decode cJ6_bitCount_0f7a4 24 = .ok (.iload_n 0, 1) := by decide +kernel
theorem dJ6_bitCount_0f7a4_25 : decode cJ6_bitCount_0f7a4 25 = .ok (.iload_n 0, 1) := by decide +kernel
theorem dJ6_bitCount_0f7a4_26 : decode cJ6_bitCount_0f7a4 26 = .ok (.iconst 4, 1) := by decide +kernel
theorem dJ6_bitCount_0f7a4_27 : decode cJ6_bitCount_0f7a4 27 = .ok (.iushr, 1) := by decide +kernel
theorem dJ6_bitCount_0f7a4_28 : decode cJ6_bitCount_0f7a4 28 = .ok (.iadd, 1) := by decide +kernel
theorem dJ6_bitCount_0f7a4_29 : decode cJ6_bitCount_0f7a4 29 = .ok (.ldc_w 267, 3) := by decide +kernel
theorem dJ6_bitCount_0f7a4_32 : decode cJ6_bitCount_0f7a4 32 = .ok (.iand, 1) := by decide +kernel
theorem dJ6_bitCount_0f7a4_33 : decode cJ6_bitCount_0f7a4 33 = .ok (.istore_n 0, 1) := by decide +kernel
theorem dJ6_bitCount_0f7a4_34 : decode cJ6_bitCount_0f7a4 34 = .ok (.iload_n 0, 1) := by decide +kernel
theorem dJ6_bitCount_0f7a4_35 : decode cJ6_bitCount_0f7a4 35 = .ok (.iload_n 0, 1) := by decide +kernel
theorem dJ6_bitCount_0f7a4_36 : decode cJ6_bitCount_0f7a4 36 = .ok (.bipush 8, 2) := by decide +kernel
theorem dJ6_bitCount_0f7a4_38 : decode cJ6_bitCount_0f7a4 38 = .ok (.iushr, 1) := by decide +kernel
theorem dJ6_bitCount_0f7a4_39 : decode cJ6_bitCount_0f7a4 39 = .ok (.iadd, 1) := by decide +kernel
theorem dJ6_bitCount_0f7a4_40 : decode cJ6_bitCount_0f7a4 40 = .ok (.istore_n 0, 1) := by decide +kernel
theorem dJ6_bitCount_0f7a4_41 : decode cJ6_bitCount_0f7a4 41 = .ok (.iload_n 0, 1) := by decide +kernel
theorem dJ6_bitCount_0f7a4_42 : decode cJ6_bitCount_0f7a4 42 = .ok (.iload_n 0, 1) := by decide +kernel
theorem dJ6_bitCount_0f7a4_43 : decode cJ6_bitCount_0f7a4 43 = .ok (.bipush 16, 2) := by decide +kernel
theorem dJ6_bitCount_0f7a4_45 : decode cJ6_bitCount_0f7a4 45 = .ok (.iushr, 1) := by decide +kernel
theorem dJ6_bitCount_0f7a4_46 : decode cJ6_bitCount_0f7a4 46 = .ok (.iadd, 1) := by decide +kernel
theorem dJ6_bitCount_0f7a4_47 : decode cJ6_bitCount_0f7a4 47 = .ok (.istore_n 0, 1) := by decide +kernel
theorem dJ6_bitCount_0f7a4_48 : decode cJ6_bitCount_0f7a4 48 = .ok (.iload_n 0, 1) := by decide +kernel
theorem dJ6_bitCount_0f7a4_49 : decode cJ6_bitCount_0f7a4 49 = .ok (.bipush 63, 2) := by decide +kernel
theorem dJ6_bitCount_0f7a4_51 : decode cJ6_bitCount_0f7a4 51 = .ok (.iand, 1) := by decide +kernel
theorem dJ6_bitCount_0f7a4_52 : decode cJ6_bitCount_0f7a4 52 = .ok (.ireturn, 1) := by decide +kernel
theorem dJ9_abs_0f7a4_0 : decode cJ9_abs_0f7a4 0 = .ok (.iload_n 0, 1) := by decide +kernel
theorem dJ9_abs_0f7a4_1 : decode cJ9_abs_0f7a4 1 = .ok (.ifCond .ge 8, 3) := by decide +kernel
theorem dJ9_abs_0f7a4_4 : decode cJ9_abs_0f7a4 4 = .ok (.iload_n 0, 1) := by decide +kernel
theorem dJ9_abs_0f7a4_5 : decode cJ9_abs_0f7a4 5 = .ok (.ineg, 1) := by decide +kernel
theorem dJ9_abs_0f7a4_6 : decode cJ9_abs_0f7a4 6 = .ok (.goto 4, 3) := by decide +kernel
theorem dJ9_abs_0f7a4_9 : decode cJ9_abs_0f7a4 9 = .ok (.iload_n 0, 1) := by decide +kernel
theorem dJ9_abs_0f7a4_10 : decode cJ9_abs_0f7a4 10 = .ok (.ireturn, 1) := by decide +kernel
theorem dJ9_max_7cf53_0 : decode cJ9_max_7cf53 0 = .ok (.iload_n 0, 1) := by decide +kernel
theorem dJ9_max_7cf53_1 : decode cJ9_max_7cf53 1 = .ok (.iload_n 1, 1) := by decide +kernel
theorem dJ9_max_7cf53_2 : decode cJ9_max_7cf53 2 = .ok (.if_icmp .lt 7, 3) := by decide +kernel
theorem dJ9_max_7cf53_5 : decode cJ9_max_7cf53 5 = .ok (.iload_n 0, 1) := by decide +kernel
theorem dJ9_max_7cf53_6 : decode cJ9_max_7cf53 6 = .ok (.goto 4, 3) := by decide +kernel
theorem dJ9_max_7cf53_9 : decode cJ9_max_7cf53 9 = .ok (.iload_n 1, 1) := by decide +kernel
theorem dJ9_max_7cf53_10 : decode cJ9_max_7cf53 10 = .ok (.ireturn, 1) := by decide +kernel
theorem dJ9_min_7cf53_0 : decode cJ9_min_7cf53 0 = .ok (.iload_n 0, 1) := by decide +kernel
theorem dJ9_min_7cf53_1 : decode cJ9_min_7cf53 1 = .ok (.iload_n 1, 1) := by decide +kernel
theorem dJ9_min_7cf53_2 : decode cJ9_min_7cf53 2 = .ok (.if_icmp .gt 7, 3) := by decide +kernel
theorem dJ9_min_7cf53_5 : decode cJ9_min_7cf53 5 = .ok (.iload_n 0, 1) := by decide +kernel
theorem dJ9_min_7cf53_6 : decode cJ9_min_7cf53 6 = .ok (.goto 4, 3) := by decide +kernel
theorem dJ9_min_7cf53_9 : decode cJ9_min_7cf53 9 = .ok (.iload_n 1, 1) := by decide +kernel
theorem dJ9_min_7cf53_10 : decode cJ9_min_7cf53 10 = .ok (.ireturn, 1) := by decide +kernel
end
section
theorem dX5_init_0 : decode cX5_init 0 = .ok (.aload_n 0, 1) := by decide +kernel
theorem dX5_init_1 : decode cX5_init 1 = .ok (.invokespecial 1, 3) := by decide +kernel
theorem dX5_init_4 : decode cX5_init 4 = .ok (.aload_n 0, 1) := by decide +kernel
theorem dX5_init_5 : decode cX5_init 5 = .ok (.bipush 6, 2) := by decide +kernel
theorem dX5_init_7 : decode cX5_init 7 = .ok (.bipush 40, 2) := by decide +kernel
theorem dX5_init_9 : decode cX5_init 9 = .ok (.invokestatic 9, 3) := by decide +kernel
theorem dX5_init_12 : decode cX5_init 12 = .ok (.putfield 13, 3) := by decide +kernel
theorem dX5_init_15 : decode cX5_init 15 = .ok (.aload_n 0, 1) := by decide +kernel
theorem dX5_init_16 : decode cX5_init 16 = .ok (.iconst 4, 1) := by decide +kernel
theorem dX5_init_17 : decode cX5_init 17 = .ok (.bipush 60, 2) := by decide +kernel
theorem dX5_init_19 : decode cX5_init 19 = .ok (.invokestatic 9, 3) := by decide +kernel
theorem dX5_init_22 : decode cX5_init 22 = .ok (.putfield 17, 3) := by decide +kernel
theorem dX5_init_25 : decode cX5_init 25 = .ok (.aload_n 0, 1) := by decide +kernel
theorem dX5_init_26 : decode cX5_init 26 = .ok (.iconst 3, 1) := by decide +kernel
theorem dX5_init_27 : decode cX5_init 27 = .ok (.bipush 40, 2) := by decide +kernel
theorem dX5_init_29 : decode cX5_init 29 = .ok (.invokestatic 9, 3) := by decide +kernel
theorem dX5_init_32 : decode cX5_init 32 = .ok (.putfield 20, 3) := by decide +kernel
theorem dX5_init_35 : decode cX5_init 35 = .ok (.aload_n 0, 1) := by decide +kernel
theorem dX5_init_36 : decode cX5_init 36 = .ok (.new 23, 3) := by decide +kernel
theorem dX5_init_39 : decode cX5_init 39 = .ok (.dup, 1) := by decide +kernel
theorem dX5_init_40 : decode cX5_init 40 = .ok (.invokespecial 25, 3) := by decide +kernel
theorem dX5_init_43 : decode cX5_init 43 = .ok (.putfield 26, 3) := by decide +kernel
theorem dX5_init_46 : decode cX5_init 46 = .ok (.aload_n 0, 1) := by decide +kernel
theorem dX5_init_47 : decode cX5_init 47 = .ok (.new 30, 3) := by decide +kernel
theorem dX5_init_50 : decode cX5_init 50 = .ok (.dup, 1) := by decide +kernel
theorem dX5_init_51 : decode cX5_init 51 = .ok (.invokespecial 32, 3) := by decide +kernel
theorem dX5_init_54 : decode cX5_init 54 = .ok (.putfield 33, 3) := by decide +kernel
theorem dX5_init_57 : decode cX5_init 57 = .ok (.aload_n 0, 1) := by decide +kernel
theorem dX5_init_58 : decode cX5_init 58 = .ok (.new 37, 3) := by decide +kernel
theorem dX5_init_61 : decode cX5_init 61 = .ok (.dup, 1) := by decide +kernel
theorem dX5_init_62 : decode cX5_init 62 = .ok (.bipush 6, 2) := by decide +kernel
theorem dX5_init_64 : decode cX5_init 64 = .ok (.invokespecial 39, 3) := by decide +kernel
theorem dX5_init_67 : decode cX5_init 67 = .ok (.putfield 42, 3) := by decide +kernel
theorem dX5_init_70 : decode cX5_init 70 = .ok (.aload_n 0, 1) := by decide +kernel
theorem dX5_init_71 : decode cX5_init 71 = .ok (.new 46, 3) := by decide +kernel
theorem dX5_init_74 : decode cX5_init 74 = .ok (.dup, 1) := by decide +kernel
theorem dX5_init_75 : decode cX5_init 75 = .ok (.invokespecial 48, 3) := by decide +kernel
theorem dX5_init_78 : decode cX5_init 78 = .ok (.putfield 49, 3) := by decide +kernel
theorem dX5_init_81 : decode cX5_init 81 = .ok (.aload_n 0, 1) := by decide +kernel
theorem dX5_init_82 : decode cX5_init 82 = .ok (.new 46, 3) := by decide +kernel
theorem dX5_init_85 : decode cX5_init 85 = .ok (.dup, 1) := by decide +kernel
theorem dX5_init_86 : decode cX5_init 86 = .ok (.invokespecial 48, 3) := by decide +kernel
theorem dX5_init_89 : decode cX5_init 89 = .ok (.putfield 53, 3) := by decide +kernel
theorem dX5_init_92 : decode cX5_init 92 = .ok (.aload_n 0, 1) := by decide +kernel
theorem dX5_init_93 : decode cX5_init 93 = .ok (.lconst 1, 1) := by decide +kernel
theorem dX5_init_94 : decode cX5_init 94 = .ok (.putfield 56, 3) := by decide +kernel
theorem dX5_init_97 : decode cX5_init 97 = .ok (.aload_n 0, 1) := by decide +kernel
theorem dX5_init_98 : decode cX5_init 98 = .ok (.getfield 42, 3) := by decide +kernel
theorem dX5_init_101 : decode cX5_init 101 = .ok (.bipush 6, 2) := by decide +kernel
theorem dX5_init_103 : decode cX5_init 103 = .ok (.iconst 0, 1) := by decide +kernel
theorem dX5_init_104 : decode cX5_init 104 = .ok (.invokevirtual 60, 3) := by decide +kernel
theorem dX5_init_107 : decode cX5_init 107 = .ok (.return_, 1) := by decide +kernel
theorem dX5_found_0 : decode cX5_found 0 = .ok (.aload_n 0, 1) := by decide +kernel
theorem dX5_found_1 : decode cX5_found 1 = .ok (.iload_n 1, 1) := by decide +kernel
theorem dX5_found_2 : decode cX5_found 2 = .ok (.putfield 64, 3) := by decide +kernel
theorem dX5_found_5 : decode cX5_found 5 = .ok (.aload_n 0, 1) := by decide +kernel
theorem dX5_found_6 : decode cX5_found 6 = .ok (.getfield 42, 3) := by decide +kernel
theorem dX5_found_9 : decode cX5_found 9 = .ok (.iload_n 1, 1) := by decide +kernel
theorem dX5_found_10 : decode cX5_found 10 = .ok (.aload_n 0, 1) := by decide +kernel
theorem dX5_found_11 : decode cX5_found 11 = .ok (.getfield 42, 3) := by decide +kernel
theorem dX5_found_14 : decode cX5_found 14 = .ok (.iload_n 1, 1) := by decide +kernel
theorem dX5_found_15 : decode cX5_found 15 = .ok (.invokevirtual 68, 3) := by decide +kernel
theorem dX5_found_18 : decode cX5_found 18 = .ok (.iconst 1, 1) := by decide +kernel
theorem dX5_found_19 : decode cX5_found 19 = .ok (.iadd, 1) := by decide +kernel
theorem dX5_found_20 : decode cX5_found 20 = .ok (.invokevirtual 72, 3) := by decide +kernel
theorem dX5_found_23 : decode cX5_found 23 = .ok (.bipush (-3), 2) := by decide +kernel
theorem dX5_found_25 : decode cX5_found 25 = .ok (.ireturn, 1) := by decide +kernel
theorem dX5_within_0 : decode cX5_within 0 = .ok (.iload_n 0, 1) := by decide +kernel
theorem dX5_within_1 : decode cX5_within 1 = .ok (.iload_n 1, 1) := by decide +kernel
theorem dX5_within_2 : decode cX5_within 2 = .ok (.if_icmp .lt 12, 3) := by decide +kernel
theorem dX5_within_5 : decode cX5_within 5 = .ok (.iload_n 0, 1) := by decide +kernel
theorem dX5_within_6 : decode cX5_within 6 = .ok (.iload_n 2, 1) := by decide +kernel
theorem dX5_within_7 : decode cX5_within 7 = .ok (.if_icmp .gt 7, 3) := by decide +kernel
theorem dX5_within_10 : decode cX5_within 10 = .ok (.iconst 1, 1) := by decide +kernel
theorem dX5_within_11 : decode cX5_within 11 = .ok (.goto 4, 3) := by decide +kernel
theorem dX5_within_14 : decode cX5_within 14 = .ok (.iconst 0, 1) := by decide +kernel
theorem dX5_within_15 : decode cX5_within 15 = .ok (.ireturn, 1) := by decide +kernel
theorem dX5_isDate_0 : decode cX5_isDate 0 = .ok (.iload_n 0, 1) := by decide +kernel
theorem dX5_isDate_1 : decode cX5_isDate 1 = .ok (.iconst 0, 1) := by decide +kernel
theorem dX5_isDate_2 : decode cX5_isDate 2 = .ok (.bipush 99, 2) := by decide +kernel
theorem dX5_isDate_4 : decode cX5_isDate 4 = .ok (.invokestatic 75, 3) := by decide +kernel
theorem dX5_isDate_7 : decode cX5_isDate 7 = .ok (.ireturn, 1) := by decide +kernel
theorem dX5_missing_0 : decode cX5_missing 0 = .ok (.iconst 0, 1) := by decide +kernel
theorem dX5_missing_1 : decode cX5_missing 1 = .ok (.iload_n 0, 1) := by decide +kernel
theorem dX5_missing_2 : decode cX5_missing 2 = .ok (.invokestatic 79, 3) := by decide +kernel
theorem dX5_missing_5 : decode cX5_missing 5 = .ok (.anewarray 37, 3) := by decide +kernel
theorem dX5_missing_8 : decode cX5_missing 8 = .ok (.astore_n 2, 1) := by decide +kernel
theorem dX5_missing_9 : decode cX5_missing 9 = .ok (.iconst 0, 1) := by decide +kernel
theorem dX5_missing_10 : decode cX5_missing 10 = .ok (.istore_n 3, 1) := by decide +kernel
theorem dX5_missing_11 : decode cX5_missing 11 = .ok (.iload_n 3, 1) := by decide +kernel
theorem dX5_missing_12 : decode cX5_missing 12 = .ok (.aload_n 2, 1) := by decide +kernel
theorem dX5_missing_13 : decode cX5_missing 13 = .ok (.arraylength, 1) := by decide +kernel
theorem dX5_missing_14 : decode cX5_missing 14 = .ok (.if_icmp .ge 20, 3) := by decide +kernel
theorem dX5_missing_17 : decode cX5_missing 17 = .ok (.aload_n 2, 1) := by decide +kernel
theorem dX5_missing_18 : decode cX5_missing 18 = .ok (.iload_n 3, 1) := by decide +kernel
theorem dX5_missing_19 : decode cX5_missing 19 = .ok (.new 37, 3) := by decide +kernel
theorem dX5_missing_22 : decode cX5_missing 22 = .ok (.dup, 1) := by decide +kernel
theorem dX5_missing_23 : decode cX5_missing 23 = .ok (.iload_n 1, 1) := by decide +kernel
theorem dX5_missing_24 : decode cX5_missing 24 = .ok (.invokespecial 39, 3) := by decide +kernel
theorem dX5_missing_27 : decode cX5_missing 27 = .ok (.aastore, 1) := by decide +kernel
theorem dX5_missing_28 : decode cX5_missing 28 = .ok (.iinc 3 1, 3) := by decide +kernel
theorem dX5_missing_31 : decode cX5_missing 31 = .ok (.goto (-20), 3) := by decide +kernel
theorem dX5_missing_34 : decode cX5_missing 34 = .ok (.aload_n 2, 1) := by decide +kernel
theorem dX5_missing_35 : decode cX5_missing 35 = .ok (.areturn, 1) := by decide +kernel
theorem dX5_pick_0 : decode cX5_pick 0 = .ok (.iload_n 1, 1) := by decide +kernel
theorem dX5_pick_1 : decode cX5_pick 1 = .ok (.ifCond .lt 15, 3) := by decide +kernel
theorem dX5_pick_4 : decode cX5_pick 4 = .ok (.iload_n 1, 1) := by decide +kernel
theorem dX5_pick_5 : decode cX5_pick 5 = .ok (.aload_n 0, 1) := by decide +kernel
theorem dX5_pick_6 : decode cX5_pick 6 = .ok (.arraylength, 1) := by decide +kernel
theorem dX5_pick_7 : decode cX5_pick 7 = .ok (.if_icmp .ge 9, 3) := by decide +kernel
theorem dX5_pick_10 : decode cX5_pick 10 = .ok (.aload_n 0, 1) := by decide +kernel
theorem dX5_pick_11 : decode cX5_pick 11 = .ok (.iload_n 1, 1) := by decide +kernel
theorem dX5_pick_12 : decode cX5_pick 12 = .ok (.aaload, 1) := by decide +kernel
theorem dX5_pick_13 : decode cX5_pick 13 = .ok (.goto 4, 3) := by decide +kernel
theorem dX5_pick_16 : decode cX5_pick 16 = .ok (.aconst_null, 1) := by decide +kernel
theorem dX5_pick_17 : decode cX5_pick 17 = .ok (.areturn, 1) := by decide +kernel
theorem dX5_refused_0 : decode cX5_refused 0 = .ok (.aload_n 1, 1) := by decide +kernel
theorem dX5_refused_1 : decode cX5_refused 1 = .ok (.ifnonnull 5, 3) := by decide +kernel
theorem dX5_refused_4 : decode cX5_refused 4 = .ok (.iconst (-1), 1) := by decide +kernel
theorem dX5_refused_5 : decode cX5_refused 5 = .ok (.ireturn, 1) := by decide +kernel
theorem dX5_refused_6 : decode cX5_refused 6 = .ok (.aload_n 1, 1) := by decide +kernel
theorem dX5_refused_7 : decode cX5_refused 7 = .ok (.getfield 85, 3) := by decide +kernel
theorem dX5_refused_10 : decode cX5_refused 10 = .ok (.ifCond .ge 11, 3) := by decide +kernel
theorem dX5_refused_13 : decode cX5_refused 13 = .ok (.aload_n 0, 1) := by decide +kernel
theorem dX5_refused_14 : decode cX5_refused 14 = .ok (.iconst 1, 1) := by decide +kernel
theorem dX5_refused_15 : decode cX5_refused 15 = .ok (.invokevirtual 88, 3) := by decide +kernel
theorem dX5_refused_18 : decode cX5_refused 18 = .ok (.goto 4, 3) := by decide +kernel
theorem dX5_refused_21 : decode cX5_refused 21 = .ok (.iconst 0, 1) := by decide +kernel
theorem dX5_refused_22 : decode cX5_refused 22 = .ok (.ireturn, 1) := by decide +kernel
theorem dX5_refusedAt_0 : decode cX5_refusedAt 0 = .ok (.aload_n 0, 1) := by decide +kernel
theorem dX5_refusedAt_1 : decode cX5_refusedAt 1 = .ok (.aload_n 1, 1) := by decide +kernel
theorem dX5_refusedAt_2 : decode cX5_refusedAt 2 = .ok (.invokevirtual 91, 3) := by decide +kernel
theorem dX5_refusedAt_5 : decode cX5_refusedAt 5 = .ok (.istore_n 3, 1) := by decide +kernel
theorem dX5_refusedAt_6 : decode cX5_refusedAt 6 = .ok (.aload_n 1, 1) := by decide +kernel
theorem dX5_refusedAt_7 : decode cX5_refusedAt 7 = .ok (.ifnull 7, 3) := by decide +kernel
theorem dX5_refusedAt_10 : decode cX5_refusedAt 10 = .ok (.iload_n 3, 1) := by decide +kernel
theorem dX5_refusedAt_11 : decode cX5_refusedAt 11 = .ok (.ifCond .eq 5, 3) := by decide +kernel
theorem dX5_refusedAt_14 : decode cX5_refusedAt 14 = .ok (.iload_n 3, 1) := by decide +kernel
theorem dX5_refusedAt_15 : decode cX5_refusedAt 15 = .ok (.ireturn, 1) := by decide +kernel
theorem dX5_refusedAt_16 : decode cX5_refusedAt 16 = .ok (.aload_n 1, 1) := by decide +kernel
theorem dX5_refusedAt_17 : decode cX5_refusedAt 17 = .ok (.iload_n 2, 1) := by decide +kernel
theorem dX5_refusedAt_18 : decode cX5_refusedAt 18 = .ok (.invokevirtual 95, 3) := by decide +kernel
theorem dX5_refusedAt_21 : decode cX5_refusedAt 21 = .ok (.ifCond .eq 7, 3) := by decide +kernel
theorem dX5_refusedAt_24 : decode cX5_refusedAt 24 = .ok (.iconst 0, 1) := by decide +kernel
theorem dX5_refusedAt_25 : decode cX5_refusedAt 25 = .ok (.goto 8, 3) := by decide +kernel
theorem dX5_refusedAt_28 : decode cX5_refusedAt 28 = .ok (.aload_n 0, 1) := by decide +kernel
theorem dX5_refusedAt_29 : decode cX5_refusedAt 29 = .ok (.iconst 2, 1) := by decide +kernel
theorem dX5_refusedAt_30 : decode cX5_refusedAt 30 = .ok (.invokevirtual 88, 3) := by decide +kernel
theorem dX5_refusedAt_33 : decode cX5_refusedAt 33 = .ok (.ireturn, 1) := by decide +kernel
theorem dX5_present_0 : decode cX5_present 0 = .ok (.iconst 0, 1) := by decide +kernel
theorem dX5_present_1 : decode cX5_present 1 = .ok (.istore_n 1, 1) := by decide +kernel
theorem dX5_present_2 : decode cX5_present 2 = .ok (.iconst 0, 1) := by decide +kernel
theorem dX5_present_3 : decode cX5_present 3 = .ok (.istore_n 2, 1) := by decide +kernel
theorem dX5_present_4 : decode cX5_present 4 = .ok (.iload_n 2, 1) := by decide +kernel
theorem dX5_present_5 : decode cX5_present 5 = .ok (.aload_n 0, 1) := by decide +kernel
theorem dX5_present_6 : decode cX5_present 6 = .ok (.arraylength, 1) := by decide +kernel
theorem dX5_present_7 : decode cX5_present 7 = .ok (.if_icmp .ge 27, 3) := by decide +kernel
theorem dX5_present_10 : decode cX5_present 10 = .ok (.aload_n 0, 1) := by decide +kernel
theorem dX5_present_11 : decode cX5_present 11 = .ok (.iload_n 2, 1) := by decide +kernel
theorem dX5_present_12 : decode cX5_present 12 = .ok (.aaload, 1) := by decide +kernel
theorem dX5_present_13 : decode cX5_present 13 = .ok (.astore_n 3, 1) := by decide +kernel
theorem dX5_present_14 : decode cX5_present 14 = .ok (.aload_n 3, 1) := by decide +kernel
theorem dX5_present_15 : decode cX5_present 15 = .ok (.ifnull 13, 3) := by decide +kernel
theorem dX5_present_18 : decode cX5_present 18 = .ok (.aload_n 3, 1) := by decide +kernel
theorem dX5_present_19 : decode cX5_present 19 = .ok (.getfield 85, 3) := by decide +kernel
theorem dX5_present_22 : decode cX5_present 22 = .ok (.ifCond .lt 6, 3) := by decide +kernel
theorem dX5_present_25 : decode cX5_present 25 = .ok (.iinc 1 1, 3) := by decide +kernel
theorem dX5_present_28 : decode cX5_present 28 = .ok (.iinc 2 1, 3) := by decide +kernel
theorem dX5_present_31 : decode cX5_present 31 = .ok (.goto (-27), 3) := by decide +kernel
theorem dX5_present_34 : decode cX5_present 34 = .ok (.iload_n 1, 1) := by decide +kernel
theorem dX5_present_35 : decode cX5_present 35 = .ok (.ireturn, 1) := by decide +kernel
theorem dX5_row_0 : decode cX5_row 0 = .ok (.aload_n 0, 1) := by decide +kernel
theorem dX5_row_1 : decode cX5_row 1 = .ok (.getfield 13, 3) := by decide +kernel
theorem dX5_row_4 : decode cX5_row 4 = .ok (.iload_n 1, 1) := by decide +kernel
theorem dX5_row_5 : decode cX5_row 5 = .ok (.invokestatic 99, 3) := by decide +kernel
theorem dX5_row_8 : decode cX5_row 8 = .ok (.astore_n 3, 1) := by decide +kernel
theorem dX5_row_9 : decode cX5_row 9 = .ok (.aload_n 3, 1) := by decide +kernel
theorem dX5_row_10 : decode cX5_row 10 = .ok (.ifnull 9, 3) := by decide +kernel
theorem dX5_row_13 : decode cX5_row 13 = .ok (.iload_n 2, 1) := by decide +kernel
theorem dX5_row_14 : decode cX5_row 14 = .ok (.bipush 40, 2) := by decide +kernel
theorem dX5_row_16 : decode cX5_row 16 = .ok (.if_icmp .le 5, 3) := by decide +kernel
theorem dX5_row_19 : decode cX5_row 19 = .ok (.iconst (-1), 1) := by decide +kernel
theorem dX5_row_20 : decode cX5_row 20 = .ok (.ireturn, 1) := by decide +kernel
theorem dX5_row_21 : decode cX5_row 21 = .ok (.iload_n 2, 1) := by decide +kernel
theorem dX5_row_22 : decode cX5_row 22 = .ok (.ifCond .ge 9, 3) := by decide +kernel
theorem dX5_row_25 : decode cX5_row 25 = .ok (.aload_n 0, 1) := by decide +kernel
theorem dX5_row_26 : decode cX5_row 26 = .ok (.iconst 5, 1) := by decide +kernel
theorem dX5_row_27 : decode cX5_row 27 = .ok (.invokevirtual 88, 3) := by decide +kernel
theorem dX5_row_30 : decode cX5_row 30 = .ok (.ireturn, 1) := by decide +kernel
theorem dX5_row_31 : decode cX5_row 31 = .ok (.aload_n 3, 1) := by decide +kernel
theorem dX5_row_32 : decode cX5_row 32 = .ok (.iload_n 2, 1) := by decide +kernel
theorem dX5_row_33 : decode cX5_row 33 = .ok (.iconst 0, 1) := by decide +kernel
theorem dX5_row_34 : decode cX5_row 34 = .ok (.invokevirtual 60, 3) := by decide +kernel
theorem dX5_row_37 : decode cX5_row 37 = .ok (.iload_n 2, 1) := by decide +kernel
theorem dX5_row_38 : decode cX5_row 38 = .ok (.ireturn, 1) := by decide +kernel
theorem dX5_lay_0 : decode cX5_lay 0 = .ok (.aload_n 0, 1) := by decide +kernel
theorem dX5_lay_1 : decode cX5_lay 1 = .ok (.getfield 13, 3) := by decide +kernel
theorem dX5_lay_4 : decode cX5_lay 4 = .ok (.iload_n 1, 1) := by decide +kernel
theorem dX5_lay_5 : decode cX5_lay 5 = .ok (.invokestatic 99, 3) := by decide +kernel
theorem dX5_lay_8 : decode cX5_lay 8 = .ok (.astore 4, 2) := by decide +kernel
theorem dX5_lay_10 : decode cX5_lay 10 = .ok (.aload_n 0, 1) := by decide +kernel
theorem dX5_lay_11 : decode cX5_lay 11 = .ok (.aload 4, 2) := by decide +kernel
theorem dX5_lay_13 : decode cX5_lay 13 = .ok (.iload_n 2, 1) := by decide +kernel
theorem dX5_lay_14 : decode cX5_lay 14 = .ok (.invokevirtual 103, 3) := by decide +kernel
theorem dX5_lay_17 : decode cX5_lay 17 = .ok (.istore 5, 2) := by decide +kernel
theorem dX5_lay_19 : decode cX5_lay 19 = .ok (.aload 4, 2) := by decide +kernel
theorem dX5_lay_21 : decode cX5_lay 21 = .ok (.ifnull 8, 3) := by decide +kernel
theorem dX5_lay_24 : decode cX5_lay 24 = .ok (.iload 5, 2) := by decide +kernel
theorem dX5_lay_26 : decode cX5_lay 26 = .ok (.ifCond .eq 6, 3) := by decide +kernel
theorem dX5_lay_29 : decode cX5_lay 29 = .ok (.iload 5, 2) := by decide +kernel
theorem dX5_lay_31 : decode cX5_lay 31 = .ok (.ireturn, 1) := by decide +kernel
theorem dX5_lay_32 : decode cX5_lay 32 = .ok (.aload_n 0, 1) := by decide +kernel
theorem dX5_lay_33 : decode cX5_lay 33 = .ok (.aload 4, 2) := by decide +kernel
theorem dX5_lay_35 : decode cX5_lay 35 = .ok (.iload_n 2, 1) := by decide +kernel
theorem dX5_lay_36 : decode cX5_lay 36 = .ok (.invokevirtual 68, 3) := by decide +kernel
theorem dX5_lay_39 : decode cX5_lay 39 = .ok (.putfield 107, 3) := by decide +kernel
theorem dX5_lay_42 : decode cX5_lay 42 = .ok (.aload 4, 2) := by decide +kernel
theorem dX5_lay_44 : decode cX5_lay 44 = .ok (.iload_n 2, 1) := by decide +kernel
theorem dX5_lay_45 : decode cX5_lay 45 = .ok (.iload_n 3, 1) := by decide +kernel
theorem dX5_lay_46 : decode cX5_lay 46 = .ok (.invokevirtual 72, 3) := by decide +kernel
theorem dX5_lay_49 : decode cX5_lay 49 = .ok (.iconst 1, 1) := by decide +kernel
theorem dX5_lay_50 : decode cX5_lay 50 = .ok (.ireturn, 1) := by decide +kernel
theorem dX5_at_0 : decode cX5_at 0 = .ok (.aload_n 0, 1) := by decide +kernel
theorem dX5_at_1 : decode cX5_at 1 = .ok (.getfield 13, 3) := by decide +kernel
theorem dX5_at_4 : decode cX5_at 4 = .ok (.iload_n 1, 1) := by decide +kernel
theorem dX5_at_5 : decode cX5_at 5 = .ok (.invokestatic 99, 3) := by decide +kernel
theorem dX5_at_8 : decode cX5_at 8 = .ok (.astore_n 3, 1) := by decide +kernel
theorem dX5_at_9 : decode cX5_at 9 = .ok (.aload_n 0, 1) := by decide +kernel
theorem dX5_at_10 : decode cX5_at 10 = .ok (.aload_n 3, 1) := by decide +kernel
theorem dX5_at_11 : decode cX5_at 11 = .ok (.iload_n 2, 1) := by decide +kernel
theorem dX5_at_12 : decode cX5_at 12 = .ok (.invokevirtual 103, 3) := by decide +kernel
theorem dX5_at_15 : decode cX5_at 15 = .ok (.istore 4, 2) := by decide +kernel
theorem dX5_at_17 : decode cX5_at 17 = .ok (.aload_n 3, 1) := by decide +kernel
theorem dX5_at_18 : decode cX5_at 18 = .ok (.ifnull 8, 3) := by decide +kernel
theorem dX5_at_21 : decode cX5_at 21 = .ok (.iload 4, 2) := by decide +kernel
theorem dX5_at_23 : decode cX5_at 23 = .ok (.ifCond .eq 6, 3) := by decide +kernel
theorem dX5_at_26 : decode cX5_at 26 = .ok (.iload 4, 2) := by decide +kernel
theorem dX5_at_28 : decode cX5_at 28 = .ok (.ireturn, 1) := by decide +kernel
theorem dX5_at_29 : decode cX5_at 29 = .ok (.aload_n 0, 1) := by decide +kernel
theorem dX5_at_30 : decode cX5_at 30 = .ok (.aload_n 3, 1) := by decide +kernel
theorem dX5_at_31 : decode cX5_at 31 = .ok (.iload_n 2, 1) := by decide +kernel
theorem dX5_at_32 : decode cX5_at 32 = .ok (.invokevirtual 68, 3) := by decide +kernel
theorem dX5_at_35 : decode cX5_at 35 = .ok (.putfield 107, 3) := by decide +kernel
theorem dX5_at_38 : decode cX5_at 38 = .ok (.iconst 1, 1) := by decide +kernel
theorem dX5_at_39 : decode cX5_at 39 = .ok (.ireturn, 1) := by decide +kernel
theorem dX5_text_0 : decode cX5_text 0 = .ok (.aload_n 0, 1) := by decide +kernel
theorem dX5_text_1 : decode cX5_text 1 = .ok (.getfield 17, 3) := by decide +kernel
theorem dX5_text_4 : decode cX5_text 4 = .ok (.iload_n 1, 1) := by decide +kernel
theorem dX5_text_5 : decode cX5_text 5 = .ok (.invokestatic 99, 3) := by decide +kernel
theorem dX5_text_8 : decode cX5_text 8 = .ok (.astore_n 3, 1) := by decide +kernel
theorem dX5_text_9 : decode cX5_text 9 = .ok (.aload_n 3, 1) := by decide +kernel
theorem dX5_text_10 : decode cX5_text 10 = .ok (.ifnull 9, 3) := by decide +kernel
theorem dX5_text_13 : decode cX5_text 13 = .ok (.iload_n 2, 1) := by decide +kernel
theorem dX5_text_14 : decode cX5_text 14 = .ok (.bipush 60, 2) := by decide +kernel
theorem dX5_text_16 : decode cX5_text 16 = .ok (.if_icmp .le 5, 3) := by decide +kernel
theorem dX5_text_19 : decode cX5_text 19 = .ok (.iconst (-1), 1) := by decide +kernel
theorem dX5_text_20 : decode cX5_text 20 = .ok (.ireturn, 1) := by decide +kernel
theorem dX5_text_21 : decode cX5_text 21 = .ok (.iload_n 2, 1) := by decide +kernel
theorem dX5_text_22 : decode cX5_text 22 = .ok (.ifCond .ge 9, 3) := by decide +kernel
theorem dX5_text_25 : decode cX5_text 25 = .ok (.aload_n 0, 1) := by decide +kernel
theorem dX5_text_26 : decode cX5_text 26 = .ok (.iconst 5, 1) := by decide +kernel
theorem dX5_text_27 : decode cX5_text 27 = .ok (.invokevirtual 88, 3) := by decide +kernel
theorem dX5_text_30 : decode cX5_text 30 = .ok (.ireturn, 1) := by decide +kernel
theorem dX5_text_31 : decode cX5_text 31 = .ok (.aload_n 3, 1) := by decide +kernel
theorem dX5_text_32 : decode cX5_text 32 = .ok (.iload_n 2, 1) := by decide +kernel
theorem dX5_text_33 : decode cX5_text 33 = .ok (.bipush 32, 2) := by decide +kernel
theorem dX5_text_35 : decode cX5_text 35 = .ok (.invokevirtual 60, 3) := by decide +kernel
theorem dX5_text_38 : decode cX5_text 38 = .ok (.iload_n 2, 1) := by decide +kernel
theorem dX5_text_39 : decode cX5_text 39 = .ok (.ireturn, 1) := by decide +kernel
theorem dX5_put_0 : decode cX5_put 0 = .ok (.aload_n 0, 1) := by decide +kernel
theorem dX5_put_1 : decode cX5_put 1 = .ok (.getfield 17, 3) := by decide +kernel
theorem dX5_put_4 : decode cX5_put 4 = .ok (.iload_n 1, 1) := by decide +kernel
theorem dX5_put_5 : decode cX5_put 5 = .ok (.invokestatic 99, 3) := by decide +kernel
theorem dX5_put_8 : decode cX5_put 8 = .ok (.astore 4, 2) := by decide +kernel
theorem dX5_put_10 : decode cX5_put 10 = .ok (.aload_n 0, 1) := by decide +kernel
theorem dX5_put_11 : decode cX5_put 11 = .ok (.aload 4, 2) := by decide +kernel
theorem dX5_put_13 : decode cX5_put 13 = .ok (.iload_n 2, 1) := by decide +kernel
theorem dX5_put_14 : decode cX5_put 14 = .ok (.invokevirtual 103, 3) := by decide +kernel
theorem dX5_put_17 : decode cX5_put 17 = .ok (.istore 5, 2) := by decide +kernel
theorem dX5_put_19 : decode cX5_put 19 = .ok (.aload 4, 2) := by decide +kernel
theorem dX5_put_21 : decode cX5_put 21 = .ok (.ifnull 8, 3) := by decide +kernel
theorem dX5_put_24 : decode cX5_put 24 = .ok (.iload 5, 2) := by decide +kernel
theorem dX5_put_26 : decode cX5_put 26 = .ok (.ifCond .eq 6, 3) := by decide +kernel
theorem dX5_put_29 : decode cX5_put 29 = .ok (.iload 5, 2) := by decide +kernel
theorem dX5_put_31 : decode cX5_put 31 = .ok (.ireturn, 1) := by decide +kernel
theorem dX5_put_32 : decode cX5_put 32 = .ok (.aload 4, 2) := by decide +kernel
theorem dX5_put_34 : decode cX5_put 34 = .ok (.iload_n 2, 1) := by decide +kernel
theorem dX5_put_35 : decode cX5_put 35 = .ok (.invokevirtual 68, 3) := by decide +kernel
theorem dX5_put_38 : decode cX5_put 38 = .ok (.istore 6, 2) := by decide +kernel
theorem dX5_put_40 : decode cX5_put 40 = .ok (.aload 4, 2) := by decide +kernel
theorem dX5_put_42 : decode cX5_put 42 = .ok (.iload_n 2, 1) := by decide +kernel
theorem dX5_put_43 : decode cX5_put 43 = .ok (.iload_n 3, 1) := by decide +kernel
theorem dX5_put_44 : decode cX5_put 44 = .ok (.i2b, 1) := by decide +kernel
theorem dX5_put_45 : decode cX5_put 45 = .ok (.invokevirtual 72, 3) := by decide +kernel
theorem dX5_put_48 : decode cX5_put 48 = .ok (.sipush 1000, 3) := by decide +kernel
theorem dX5_put_51 : decode cX5_put 51 = .ok (.iload 6, 2) := by decide +kernel
theorem dX5_put_53 : decode cX5_put 53 = .ok (.iadd, 1) := by decide +kernel
theorem dX5_put_54 : decode cX5_put 54 = .ok (.ireturn, 1) := by decide +kernel
theorem dX5_fault_0 : decode cX5_fault 0 = .ok (.aload_n 0, 1) := by decide +kernel
theorem dX5_fault_1 : decode cX5_fault 1 = .ok (.getfield 17, 3) := by decide +kernel
theorem dX5_fault_4 : decode cX5_fault 4 = .ok (.iload_n 1, 1) := by decide +kernel
theorem dX5_fault_5 : decode cX5_fault 5 = .ok (.invokestatic 99, 3) := by decide +kernel
theorem dX5_fault_8 : decode cX5_fault 8 = .ok (.astore_n 2, 1) := by decide +kernel
theorem dX5_fault_9 : decode cX5_fault 9 = .ok (.aload_n 0, 1) := by decide +kernel
theorem dX5_fault_10 : decode cX5_fault 10 = .ok (.aload_n 2, 1) := by decide +kernel
theorem dX5_fault_11 : decode cX5_fault 11 = .ok (.invokevirtual 91, 3) := by decide +kernel
theorem dX5_fault_14 : decode cX5_fault 14 = .ok (.istore_n 3, 1) := by decide +kernel
theorem dX5_fault_15 : decode cX5_fault 15 = .ok (.aload_n 2, 1) := by decide +kernel
theorem dX5_fault_16 : decode cX5_fault 16 = .ok (.ifnull 7, 3) := by decide +kernel
theorem dX5_fault_19 : decode cX5_fault 19 = .ok (.iload_n 3, 1) := by decide +kernel
theorem dX5_fault_20 : decode cX5_fault 20 = .ok (.ifCond .eq 5, 3) := by decide +kernel
theorem dX5_fault_23 : decode cX5_fault 23 = .ok (.iload_n 3, 1) := by decide +kernel
theorem dX5_fault_24 : decode cX5_fault 24 = .ok (.ireturn, 1) := by decide +kernel
theorem dX5_fault_25 : decode cX5_fault 25 = .ok (.aload_n 0, 1) := by decide +kernel
theorem dX5_fault_26 : decode cX5_fault 26 = .ok (.getfield 26, 3) := by decide +kernel
theorem dX5_fault_29 : decode cX5_fault 29 = .ok (.aload_n 2, 1) := by decide +kernel
theorem dX5_fault_30 : decode cX5_fault 30 = .ok (.aload_n 0, 1) := by decide +kernel
theorem dX5_fault_31 : decode cX5_fault 31 = .ok (.getfield 53, 3) := by decide +kernel
theorem dX5_fault_34 : decode cX5_fault 34 = .ok (.invokevirtual 121, 3) := by decide +kernel
theorem dX5_fault_37 : decode cX5_fault 37 = .ok (.ireturn, 1) := by decide +kernel
theorem dX5_town_0 : decode cX5_town 0 = .ok (.aload_n 0, 1) := by decide +kernel
theorem dX5_town_1 : decode cX5_town 1 = .ok (.getfield 17, 3) := by decide +kernel
theorem dX5_town_4 : decode cX5_town 4 = .ok (.iload_n 1, 1) := by decide +kernel
theorem dX5_town_5 : decode cX5_town 5 = .ok (.invokestatic 99, 3) := by decide +kernel
theorem dX5_town_8 : decode cX5_town 8 = .ok (.astore_n 2, 1) := by decide +kernel
theorem dX5_town_9 : decode cX5_town 9 = .ok (.aload_n 0, 1) := by decide +kernel
theorem dX5_town_10 : decode cX5_town 10 = .ok (.aload_n 2, 1) := by decide +kernel
theorem dX5_town_11 : decode cX5_town 11 = .ok (.invokevirtual 91, 3) := by decide +kernel
theorem dX5_town_14 : decode cX5_town 14 = .ok (.istore_n 3, 1) := by decide +kernel
theorem dX5_town_15 : decode cX5_town 15 = .ok (.aload_n 2, 1) := by decide +kernel
theorem dX5_town_16 : decode cX5_town 16 = .ok (.ifnull 7, 3) := by decide +kernel
theorem dX5_town_19 : decode cX5_town 19 = .ok (.iload_n 3, 1) := by decide +kernel
theorem dX5_town_20 : decode cX5_town 20 = .ok (.ifCond .eq 5, 3) := by decide +kernel
theorem dX5_town_23 : decode cX5_town 23 = .ok (.iload_n 3, 1) := by decide +kernel
theorem dX5_town_24 : decode cX5_town 24 = .ok (.ireturn, 1) := by decide +kernel
theorem dX5_town_25 : decode cX5_town 25 = .ok (.aload_n 0, 1) := by decide +kernel
theorem dX5_town_26 : decode cX5_town 26 = .ok (.getfield 26, 3) := by decide +kernel
theorem dX5_town_29 : decode cX5_town 29 = .ok (.aload_n 2, 1) := by decide +kernel
theorem dX5_town_30 : decode cX5_town 30 = .ok (.aload_n 0, 1) := by decide +kernel
theorem dX5_town_31 : decode cX5_town 31 = .ok (.getfield 53, 3) := by decide +kernel
theorem dX5_town_34 : decode cX5_town 34 = .ok (.invokevirtual 121, 3) := by decide +kernel
theorem dX5_town_37 : decode cX5_town 37 = .ok (.bipush (-9), 2) := by decide +kernel
theorem dX5_town_39 : decode cX5_town 39 = .ok (.if_icmp .eq 6, 3) := by decide +kernel
theorem dX5_town_42 : decode cX5_town 42 = .ok (.bipush (-4), 2) := by decide +kernel
theorem dX5_town_44 : decode cX5_town 44 = .ok (.ireturn, 1) := by decide +kernel
theorem dX5_town_45 : decode cX5_town 45 = .ok (.aload_n 0, 1) := by decide +kernel
theorem dX5_town_46 : decode cX5_town 46 = .ok (.getfield 49, 3) := by decide +kernel
theorem dX5_town_49 : decode cX5_town 49 = .ok (.astore 4, 2) := by decide +kernel
theorem dX5_town_51 : decode cX5_town 51 = .ok (.aload_n 0, 1) := by decide +kernel
theorem dX5_town_52 : decode cX5_town 52 = .ok (.aload_n 0, 1) := by decide +kernel
theorem dX5_town_53 : decode cX5_town 53 = .ok (.getfield 53, 3) := by decide +kernel
theorem dX5_town_56 : decode cX5_town 56 = .ok (.putfield 49, 3) := by decide +kernel
theorem dX5_town_59 : decode cX5_town 59 = .ok (.aload_n 0, 1) := by decide +kernel
theorem dX5_town_60 : decode cX5_town 60 = .ok (.aload 4, 2) := by decide +kernel
theorem dX5_town_62 : decode cX5_town 62 = .ok (.putfield 53, 3) := by decide +kernel
theorem dX5_town_65 : decode cX5_town 65 = .ok (.aload_n 0, 1) := by decide +kernel
theorem dX5_town_66 : decode cX5_town 66 = .ok (.getfield 49, 3) := by decide +kernel
theorem dX5_town_69 : decode cX5_town 69 = .ok (.getfield 125, 3) := by decide +kernel
theorem dX5_town_72 : decode cX5_town 72 = .ok (.iconst 0, 1) := by decide +kernel
theorem dX5_town_73 : decode cX5_town 73 = .ok (.iconst 0, 1) := by decide +kernel
theorem dX5_town_74 : decode cX5_town 74 = .ok (.invokevirtual 60, 3) := by decide +kernel
theorem dX5_town_77 : decode cX5_town 77 = .ok (.aload_n 0, 1) := by decide +kernel
theorem dX5_town_78 : decode cX5_town 78 = .ok (.getfield 49, 3) := by decide +kernel
theorem dX5_town_81 : decode cX5_town 81 = .ok (.invokevirtual 128, 3) := by decide +kernel
theorem dX5_town_84 : decode cX5_town 84 = .ok (.iconst 0, 1) := by decide +kernel
theorem dX5_town_85 : decode cX5_town 85 = .ok (.istore 5, 2) := by decide +kernel
theorem dX5_town_87 : decode cX5_town 87 = .ok (.iload 5, 2) := by decide +kernel
theorem dX5_town_89 : decode cX5_town 89 = .ok (.aload_n 0, 1) := by decide +kernel
theorem dX5_town_90 : decode cX5_town 90 = .ok (.getfield 20, 3) := by decide +kernel
theorem dX5_town_93 : decode cX5_town 93 = .ok (.arraylength, 1) := by decide +kernel
theorem dX5_town_94 : decode cX5_town 94 = .ok (.if_icmp .ge 28, 3) := by decide +kernel
theorem dX5_town_97 : decode cX5_town 97 = .ok (.aload_n 0, 1) := by decide +kernel
theorem dX5_town_98 : decode cX5_town 98 = .ok (.getfield 20, 3) := by decide +kernel
theorem dX5_town_101 : decode cX5_town 101 = .ok (.iload 5, 2) := by decide +kernel
theorem dX5_town_103 : decode cX5_town 103 = .ok (.aaload, 1) := by decide +kernel
theorem dX5_town_104 : decode cX5_town 104 = .ok (.astore 6, 2) := by decide +kernel
theorem dX5_town_106 : decode cX5_town 106 = .ok (.aload 6, 2) := by decide +kernel
theorem dX5_town_108 : decode cX5_town 108 = .ok (.ifnull 8, 3) := by decide +kernel
theorem dX5_town_111 : decode cX5_town 111 = .ok (.aload 6, 2) := by decide +kernel
theorem dX5_town_113 : decode cX5_town 113 = .ok (.invokevirtual 110, 3) := by decide +kernel
theorem dX5_town_116 : decode cX5_town 116 = .ok (.iinc 5 1, 3) := by decide +kernel
theorem dX5_town_119 : decode cX5_town 119 = .ok (.goto (-32), 3) := by decide +kernel
theorem dX5_town_122 : decode cX5_town 122 = .ok (.aload_n 0, 1) := by decide +kernel
theorem dX5_town_123 : decode cX5_town 123 = .ok (.getfield 49, 3) := by decide +kernel
theorem dX5_town_126 : decode cX5_town 126 = .ok (.getfield 131, 3) := by decide +kernel
theorem dX5_town_129 : decode cX5_town 129 = .ok (.ireturn, 1) := by decide +kernel
theorem dX5_house_0 : decode cX5_house 0 = .ok (.aload_n 0, 1) := by decide +kernel
theorem dX5_house_1 : decode cX5_house 1 = .ok (.getfield 49, 3) := by decide +kernel
theorem dX5_house_4 : decode cX5_house 4 = .ok (.iload_n 1, 1) := by decide +kernel
theorem dX5_house_5 : decode cX5_house 5 = .ok (.invokevirtual 132, 3) := by decide +kernel
theorem dX5_house_8 : decode cX5_house 8 = .ok (.ifCond .eq 12, 3) := by decide +kernel
theorem dX5_house_11 : decode cX5_house 11 = .ok (.iload_n 2, 1) := by decide +kernel
theorem dX5_house_12 : decode cX5_house 12 = .ok (.iconst 0, 1) := by decide +kernel
theorem dX5_house_13 : decode cX5_house 13 = .ok (.iconst 5, 1) := by decide +kernel
theorem dX5_house_14 : decode cX5_house 14 = .ok (.invokestatic 75, 3) := by decide +kernel
theorem dX5_house_17 : decode cX5_house 17 = .ok (.ifCond .ne 5, 3) := by decide +kernel
theorem dX5_house_20 : decode cX5_house 20 = .ok (.iconst (-1), 1) := by decide +kernel
theorem dX5_house_21 : decode cX5_house 21 = .ok (.ireturn, 1) := by decide +kernel
theorem dX5_house_22 : decode cX5_house 22 = .ok (.aload_n 0, 1) := by decide +kernel
theorem dX5_house_23 : decode cX5_house 23 = .ok (.aload_n 0, 1) := by decide +kernel
theorem dX5_house_24 : decode cX5_house 24 = .ok (.getfield 49, 3) := by decide +kernel
theorem dX5_house_27 : decode cX5_house 27 = .ok (.iload_n 1, 1) := by decide +kernel
theorem dX5_house_28 : decode cX5_house 28 = .ok (.iload_n 2, 1) := by decide +kernel
theorem dX5_house_29 : decode cX5_house 29 = .ok (.invokevirtual 135, 3) := by decide +kernel
theorem dX5_house_32 : decode cX5_house 32 = .ok (.putfield 107, 3) := by decide +kernel
theorem dX5_house_35 : decode cX5_house 35 = .ok (.iconst 1, 1) := by decide +kernel
theorem dX5_house_36 : decode cX5_house 36 = .ok (.ireturn, 1) := by decide +kernel
theorem dX5_isFull_0 : decode cX5_isFull 0 = .ok (.aload_n 0, 1) := by decide +kernel
theorem dX5_isFull_1 : decode cX5_isFull 1 = .ok (.getfield 49, 3) := by decide +kernel
theorem dX5_isFull_4 : decode cX5_isFull 4 = .ok (.getfield 125, 3) := by decide +kernel
theorem dX5_isFull_7 : decode cX5_isFull 7 = .ok (.getfield 85, 3) := by decide +kernel
theorem dX5_isFull_10 : decode cX5_isFull 10 = .ok (.iload_n 1, 1) := by decide +kernel
theorem dX5_isFull_11 : decode cX5_isFull 11 = .ok (.iadd, 1) := by decide +kernel
theorem dX5_isFull_12 : decode cX5_isFull 12 = .ok (.bipush 40, 2) := by decide +kernel
theorem dX5_isFull_14 : decode cX5_isFull 14 = .ok (.if_icmp .le 7, 3) := by decide +kernel
theorem dX5_isFull_17 : decode cX5_isFull 17 = .ok (.iconst 1, 1) := by decide +kernel
theorem dX5_isFull_18 : decode cX5_isFull 18 = .ok (.goto 4, 3) := by decide +kernel
theorem dX5_isFull_21 : decode cX5_isFull 21 = .ok (.iconst 0, 1) := by decide +kernel
theorem dX5_isFull_22 : decode cX5_isFull 22 = .ok (.ireturn, 1) := by decide +kernel
theorem dX5_walk_0 : decode cX5_walk 0 = .ok (.aload_n 0, 1) := by decide +kernel
theorem dX5_walk_1 : decode cX5_walk 1 = .ok (.getfield 49, 3) := by decide +kernel
theorem dX5_walk_4 : decode cX5_walk 4 = .ok (.iload_n 1, 1) := by decide +kernel
theorem dX5_walk_5 : decode cX5_walk 5 = .ok (.invokevirtual 132, 3) := by decide +kernel
theorem dX5_walk_8 : decode cX5_walk 8 = .ok (.ifCond .ne 5, 3) := by decide +kernel
theorem dX5_walk_11 : decode cX5_walk 11 = .ok (.iconst (-1), 1) := by decide +kernel
theorem dX5_walk_12 : decode cX5_walk 12 = .ok (.ireturn, 1) := by decide +kernel
theorem dX5_walk_13 : decode cX5_walk 13 = .ok (.aload_n 0, 1) := by decide +kernel
theorem dX5_walk_14 : decode cX5_walk 14 = .ok (.getfield 49, 3) := by decide +kernel
theorem dX5_walk_17 : decode cX5_walk 17 = .ok (.getfield 169, 3) := by decide +kernel
theorem dX5_walk_20 : decode cX5_walk 20 = .ok (.iload_n 1, 1) := by decide +kernel
theorem dX5_walk_21 : decode cX5_walk 21 = .ok (.if_icmp .ne 6, 3) := by decide +kernel
theorem dX5_walk_24 : decode cX5_walk 24 = .ok (.bipush (-4), 2) := by decide +kernel
theorem dX5_walk_26 : decode cX5_walk 26 = .ok (.ireturn, 1) := by decide +kernel
theorem dX5_walk_27 : decode cX5_walk 27 = .ok (.aload_n 0, 1) := by decide +kernel
theorem dX5_walk_28 : decode cX5_walk 28 = .ok (.iconst 1, 1) := by decide +kernel
theorem dX5_walk_29 : decode cX5_walk 29 = .ok (.invokevirtual 172, 3) := by decide +kernel
theorem dX5_walk_32 : decode cX5_walk 32 = .ok (.ifCond .eq 6, 3) := by decide +kernel
theorem dX5_walk_35 : decode cX5_walk 35 = .ok (.bipush (-2), 2) := by decide +kernel
theorem dX5_walk_37 : decode cX5_walk 37 = .ok (.ireturn, 1) := by decide +kernel
theorem dX5_walk_38 : decode cX5_walk 38 = .ok (.aload_n 0, 1) := by decide +kernel
theorem dX5_walk_39 : decode cX5_walk 39 = .ok (.getfield 49, 3) := by decide +kernel
theorem dX5_walk_42 : decode cX5_walk 42 = .ok (.iconst 0, 1) := by decide +kernel
theorem dX5_walk_43 : decode cX5_walk 43 = .ok (.iload_n 1, 1) := by decide +kernel
theorem dX5_walk_44 : decode cX5_walk 44 = .ok (.iconst 0, 1) := by decide +kernel
theorem dX5_walk_45 : decode cX5_walk 45 = .ok (.invokevirtual 175, 3) := by decide +kernel
theorem dX5_walk_48 : decode cX5_walk 48 = .ok (.aload_n 0, 1) := by decide +kernel
theorem dX5_walk_49 : decode cX5_walk 49 = .ok (.getfield 49, 3) := by decide +kernel
theorem dX5_walk_52 : decode cX5_walk 52 = .ok (.getfield 179, 3) := by decide +kernel
theorem dX5_walk_55 : decode cX5_walk 55 = .ok (.ireturn, 1) := by decide +kernel
theorem dX5_tap_0 : decode cX5_tap 0 = .ok (.aload_n 0, 1) := by decide +kernel
theorem dX5_tap_1 : decode cX5_tap 1 = .ok (.getfield 49, 3) := by decide +kernel
theorem dX5_tap_4 : decode cX5_tap 4 = .ok (.getfield 131, 3) := by decide +kernel
theorem dX5_tap_7 : decode cX5_tap 7 = .ok (.ifCond .ne 6, 3) := by decide +kernel
theorem dX5_tap_10 : decode cX5_tap 10 = .ok (.bipush (-4), 2) := by decide +kernel
theorem dX5_tap_12 : decode cX5_tap 12 = .ok (.ireturn, 1) := by decide +kernel
theorem dX5_tap_13 : decode cX5_tap 13 = .ok (.aload_n 0, 1) := by decide +kernel
theorem dX5_tap_14 : decode cX5_tap 14 = .ok (.iconst 1, 1) := by decide +kernel
theorem dX5_tap_15 : decode cX5_tap 15 = .ok (.invokevirtual 172, 3) := by decide +kernel
theorem dX5_tap_18 : decode cX5_tap 18 = .ok (.ifCond .eq 6, 3) := by decide +kernel
theorem dX5_tap_21 : decode cX5_tap 21 = .ok (.bipush (-2), 2) := by decide +kernel
theorem dX5_tap_23 : decode cX5_tap 23 = .ok (.ireturn, 1) := by decide +kernel
theorem dX5_tap_24 : decode cX5_tap 24 = .ok (.aload_n 0, 1) := by decide +kernel
theorem dX5_tap_25 : decode cX5_tap 25 = .ok (.getfield 49, 3) := by decide +kernel
theorem dX5_tap_28 : decode cX5_tap 28 = .ok (.iconst 1, 1) := by decide +kernel
theorem dX5_tap_29 : decode cX5_tap 29 = .ok (.iconst 0, 1) := by decide +kernel
theorem dX5_tap_30 : decode cX5_tap 30 = .ok (.iconst 0, 1) := by decide +kernel
theorem dX5_tap_31 : decode cX5_tap 31 = .ok (.invokevirtual 175, 3) := by decide +kernel
theorem dX5_tap_34 : decode cX5_tap 34 = .ok (.aload_n 0, 1) := by decide +kernel
theorem dX5_tap_35 : decode cX5_tap 35 = .ok (.getfield 49, 3) := by decide +kernel
theorem dX5_tap_38 : decode cX5_tap 38 = .ok (.aload_n 0, 1) := by decide +kernel
theorem dX5_tap_39 : decode cX5_tap 39 = .ok (.getfield 49, 3) := by decide +kernel
theorem dX5_tap_42 : decode cX5_tap 42 = .ok (.getfield 169, 3) := by decide +kernel
theorem dX5_tap_45 : decode cX5_tap 45 = .ok (.invokevirtual 182, 3) := by decide +kernel
theorem dX5_tap_48 : decode cX5_tap 48 = .ok (.ifCond .eq 7, 3) := by decide +kernel
theorem dX5_tap_51 : decode cX5_tap 51 = .ok (.iconst 1, 1) := by decide +kernel
theorem dX5_tap_52 : decode cX5_tap 52 = .ok (.goto 4, 3) := by decide +kernel
theorem dX5_tap_55 : decode cX5_tap 55 = .ok (.iconst 0, 1) := by decide +kernel
theorem dX5_tap_56 : decode cX5_tap 56 = .ok (.ireturn, 1) := by decide +kernel
theorem dX5_slate_0 : decode cX5_slate 0 = .ok (.aload_n 0, 1) := by decide +kernel
theorem dX5_slate_1 : decode cX5_slate 1 = .ok (.getfield 49, 3) := by decide +kernel
theorem dX5_slate_4 : decode cX5_slate 4 = .ok (.iload_n 1, 1) := by decide +kernel
theorem dX5_slate_5 : decode cX5_slate 5 = .ok (.invokevirtual 132, 3) := by decide +kernel
theorem dX5_slate_8 : decode cX5_slate 8 = .ok (.ifCond .eq 10, 3) := by decide +kernel
theorem dX5_slate_11 : decode cX5_slate 11 = .ok (.iload_n 2, 1) := by decide +kernel
theorem dX5_slate_12 : decode cX5_slate 12 = .ok (.invokestatic 185, 3) := by decide +kernel
theorem dX5_slate_15 : decode cX5_slate 15 = .ok (.ifCond .ne 5, 3) := by decide +kernel
theorem dX5_slate_18 : decode cX5_slate 18 = .ok (.iconst (-1), 1) := by decide +kernel
theorem dX5_slate_19 : decode cX5_slate 19 = .ok (.ireturn, 1) := by decide +kernel
theorem dX5_slate_20 : decode cX5_slate 20 = .ok (.aload_n 0, 1) := by decide +kernel
theorem dX5_slate_21 : decode cX5_slate 21 = .ok (.getfield 49, 3) := by decide +kernel
theorem dX5_slate_24 : decode cX5_slate 24 = .ok (.getfield 146, 3) := by decide +kernel
theorem dX5_slate_27 : decode cX5_slate 27 = .ok (.iload_n 1, 1) := by decide +kernel
theorem dX5_slate_28 : decode cX5_slate 28 = .ok (.invokevirtual 68, 3) := by decide +kernel
theorem dX5_slate_31 : decode cX5_slate 31 = .ok (.istore_n 3, 1) := by decide +kernel
theorem dX5_slate_32 : decode cX5_slate 32 = .ok (.iload_n 3, 1) := by decide +kernel
theorem dX5_slate_33 : decode cX5_slate 33 = .ok (.iload_n 2, 1) := by decide +kernel
theorem dX5_slate_34 : decode cX5_slate 34 = .ok (.if_icmp .ne 6, 3) := by decide +kernel
theorem dX5_slate_37 : decode cX5_slate 37 = .ok (.bipush (-4), 2) := by decide +kernel
theorem dX5_slate_39 : decode cX5_slate 39 = .ok (.ireturn, 1) := by decide +kernel
theorem dX5_slate_40 : decode cX5_slate 40 = .ok (.aload_n 0, 1) := by decide +kernel
theorem dX5_slate_41 : decode cX5_slate 41 = .ok (.iconst 1, 1) := by decide +kernel
theorem dX5_slate_42 : decode cX5_slate 42 = .ok (.invokevirtual 172, 3) := by decide +kernel
theorem dX5_slate_45 : decode cX5_slate 45 = .ok (.ifCond .eq 6, 3) := by decide +kernel
theorem dX5_slate_48 : decode cX5_slate 48 = .ok (.bipush (-2), 2) := by decide +kernel
theorem dX5_slate_50 : decode cX5_slate 50 = .ok (.ireturn, 1) := by decide +kernel
theorem dX5_slate_51 : decode cX5_slate 51 = .ok (.aload_n 0, 1) := by decide +kernel
theorem dX5_slate_52 : decode cX5_slate 52 = .ok (.getfield 49, 3) := by decide +kernel
theorem dX5_slate_55 : decode cX5_slate 55 = .ok (.iconst 2, 1) := by decide +kernel
theorem dX5_slate_56 : decode cX5_slate 56 = .ok (.iload_n 1, 1) := by decide +kernel
theorem dX5_slate_57 : decode cX5_slate 57 = .ok (.iload_n 2, 1) := by decide +kernel
theorem dX5_slate_58 : decode cX5_slate 58 = .ok (.invokevirtual 175, 3) := by decide +kernel
theorem dX5_slate_61 : decode cX5_slate 61 = .ok (.iload_n 3, 1) := by decide +kernel
theorem dX5_slate_62 : decode cX5_slate 62 = .ok (.ireturn, 1) := by decide +kernel
theorem dX5_frost_0 : decode cX5_frost 0 = .ok (.iload_n 1, 1) := by decide +kernel
theorem dX5_frost_1 : decode cX5_frost 1 = .ok (.iconst 0, 1) := by decide +kernel
theorem dX5_frost_2 : decode cX5_frost 2 = .ok (.iconst 1, 1) := by decide +kernel
theorem dX5_frost_3 : decode cX5_frost 3 = .ok (.invokestatic 75, 3) := by decide +kernel
theorem dX5_frost_6 : decode cX5_frost 6 = .ok (.ifCond .ne 5, 3) := by decide +kernel
theorem dX5_frost_9 : decode cX5_frost 9 = .ok (.iconst (-1), 1) := by decide +kernel
theorem dX5_frost_10 : decode cX5_frost 10 = .ok (.ireturn, 1) := by decide +kernel
theorem dX5_frost_11 : decode cX5_frost 11 = .ok (.aload_n 0, 1) := by decide +kernel
theorem dX5_frost_12 : decode cX5_frost 12 = .ok (.getfield 49, 3) := by decide +kernel
theorem dX5_frost_15 : decode cX5_frost 15 = .ok (.getfield 131, 3) := by decide +kernel
theorem dX5_frost_18 : decode cX5_frost 18 = .ok (.ifCond .eq 14, 3) := by decide +kernel
theorem dX5_frost_21 : decode cX5_frost 21 = .ok (.aload_n 0, 1) := by decide +kernel
theorem dX5_frost_22 : decode cX5_frost 22 = .ok (.getfield 49, 3) := by decide +kernel
theorem dX5_frost_25 : decode cX5_frost 25 = .ok (.getfield 152, 3) := by decide +kernel
theorem dX5_frost_28 : decode cX5_frost 28 = .ok (.iload_n 1, 1) := by decide +kernel
theorem dX5_frost_29 : decode cX5_frost 29 = .ok (.if_icmp .ne 6, 3) := by decide +kernel
theorem dX5_frost_32 : decode cX5_frost 32 = .ok (.bipush (-4), 2) := by decide +kernel
theorem dX5_frost_34 : decode cX5_frost 34 = .ok (.ireturn, 1) := by decide +kernel
theorem dX5_frost_35 : decode cX5_frost 35 = .ok (.aload_n 0, 1) := by decide +kernel
theorem dX5_frost_36 : decode cX5_frost 36 = .ok (.iconst 1, 1) := by decide +kernel
theorem dX5_frost_37 : decode cX5_frost 37 = .ok (.invokevirtual 172, 3) := by decide +kernel
theorem dX5_frost_40 : decode cX5_frost 40 = .ok (.ifCond .eq 6, 3) := by decide +kernel
theorem dX5_frost_43 : decode cX5_frost 43 = .ok (.bipush (-2), 2) := by decide +kernel
theorem dX5_frost_45 : decode cX5_frost 45 = .ok (.ireturn, 1) := by decide +kernel
theorem dX5_frost_46 : decode cX5_frost 46 = .ok (.aload_n 0, 1) := by decide +kernel
theorem dX5_frost_47 : decode cX5_frost 47 = .ok (.getfield 49, 3) := by decide +kernel
theorem dX5_frost_50 : decode cX5_frost 50 = .ok (.iconst 3, 1) := by decide +kernel
theorem dX5_frost_51 : decode cX5_frost 51 = .ok (.iconst 0, 1) := by decide +kernel
theorem dX5_frost_52 : decode cX5_frost 52 = .ok (.iload_n 1, 1) := by decide +kernel
theorem dX5_frost_53 : decode cX5_frost 53 = .ok (.invokevirtual 175, 3) := by decide +kernel
theorem dX5_frost_56 : decode cX5_frost 56 = .ok (.iload_n 1, 1) := by decide +kernel
theorem dX5_frost_57 : decode cX5_frost 57 = .ok (.ireturn, 1) := by decide +kernel
theorem dX5_night_0 : decode cX5_night 0 = .ok (.aload_n 0, 1) := by decide +kernel
theorem dX5_night_1 : decode cX5_night 1 = .ok (.getfield 49, 3) := by decide +kernel
theorem dX5_night_4 : decode cX5_night 4 = .ok (.getfield 131, 3) := by decide +kernel
theorem dX5_night_7 : decode cX5_night 7 = .ok (.ifCond .ne 6, 3) := by decide +kernel
theorem dX5_night_10 : decode cX5_night 10 = .ok (.bipush (-4), 2) := by decide +kernel
theorem dX5_night_12 : decode cX5_night 12 = .ok (.ireturn, 1) := by decide +kernel
theorem dX5_night_13 : decode cX5_night 13 = .ok (.aload_n 0, 1) := by decide +kernel
theorem dX5_night_14 : decode cX5_night 14 = .ok (.iconst 1, 1) := by decide +kernel
theorem dX5_night_15 : decode cX5_night 15 = .ok (.invokevirtual 172, 3) := by decide +kernel
theorem dX5_night_18 : decode cX5_night 18 = .ok (.ifCond .eq 6, 3) := by decide +kernel
theorem dX5_night_21 : decode cX5_night 21 = .ok (.bipush (-2), 2) := by decide +kernel
theorem dX5_night_23 : decode cX5_night 23 = .ok (.ireturn, 1) := by decide +kernel
theorem dX5_night_24 : decode cX5_night 24 = .ok (.aload_n 0, 1) := by decide +kernel
theorem dX5_night_25 : decode cX5_night 25 = .ok (.getfield 49, 3) := by decide +kernel
theorem dX5_night_28 : decode cX5_night 28 = .ok (.invokevirtual 188, 3) := by decide +kernel
theorem dX5_night_31 : decode cX5_night 31 = .ok (.invokestatic 192, 3) := by decide +kernel
theorem dX5_night_34 : decode cX5_night 34 = .ok (.istore_n 1, 1) := by decide +kernel
theorem dX5_night_35 : decode cX5_night 35 = .ok (.aload_n 0, 1) := by decide +kernel
theorem dX5_night_36 : decode cX5_night 36 = .ok (.getfield 49, 3) := by decide +kernel
theorem dX5_night_39 : decode cX5_night 39 = .ok (.iconst 4, 1) := by decide +kernel
theorem dX5_night_40 : decode cX5_night 40 = .ok (.iconst 0, 1) := by decide +kernel
theorem dX5_night_41 : decode cX5_night 41 = .ok (.iconst 0, 1) := by decide +kernel
theorem dX5_night_42 : decode cX5_night 42 = .ok (.invokevirtual 175, 3) := by decide +kernel
theorem dX5_night_45 : decode cX5_night 45 = .ok (.iload_n 1, 1) := by decide +kernel
theorem dX5_night_46 : decode cX5_night 46 = .ok (.ireturn, 1) := by decide +kernel
theorem dX5_undo_0 : decode cX5_undo 0 = .ok (.aload_n 0, 1) := by decide +kernel
theorem dX5_undo_1 : decode cX5_undo 1 = .ok (.getfield 49, 3) := by decide +kernel
theorem dX5_undo_4 : decode cX5_undo 4 = .ok (.getfield 125, 3) := by decide +kernel
theorem dX5_undo_7 : decode cX5_undo 7 = .ok (.getfield 85, 3) := by decide +kernel
theorem dX5_undo_10 : decode cX5_undo 10 = .ok (.istore_n 2, 1) := by decide +kernel
theorem dX5_undo_11 : decode cX5_undo 11 = .ok (.iload_n 1, 1) := by decide +kernel
theorem dX5_undo_12 : decode cX5_undo 12 = .ok (.iconst 0, 1) := by decide +kernel
theorem dX5_undo_13 : decode cX5_undo 13 = .ok (.iload_n 2, 1) := by decide +kernel
theorem dX5_undo_14 : decode cX5_undo 14 = .ok (.invokestatic 75, 3) := by decide +kernel
theorem dX5_undo_17 : decode cX5_undo 17 = .ok (.ifCond .ne 5, 3) := by decide +kernel
theorem dX5_undo_20 : decode cX5_undo 20 = .ok (.iconst (-1), 1) := by decide +kernel
theorem dX5_undo_21 : decode cX5_undo 21 = .ok (.ireturn, 1) := by decide +kernel
theorem dX5_undo_22 : decode cX5_undo 22 = .ok (.aload_n 0, 1) := by decide +kernel
theorem dX5_undo_23 : decode cX5_undo 23 = .ok (.getfield 49, 3) := by decide +kernel
theorem dX5_undo_26 : decode cX5_undo 26 = .ok (.getfield 125, 3) := by decide +kernel
theorem dX5_undo_29 : decode cX5_undo 29 = .ok (.iload_n 1, 1) := by decide +kernel
theorem dX5_undo_30 : decode cX5_undo 30 = .ok (.invokevirtual 197, 3) := by decide +kernel
theorem dX5_undo_33 : decode cX5_undo 33 = .ok (.aload_n 0, 1) := by decide +kernel
theorem dX5_undo_34 : decode cX5_undo 34 = .ok (.getfield 49, 3) := by decide +kernel
theorem dX5_undo_37 : decode cX5_undo 37 = .ok (.invokevirtual 128, 3) := by decide +kernel
theorem dX5_undo_40 : decode cX5_undo 40 = .ok (.iload_n 2, 1) := by decide +kernel
theorem dX5_undo_41 : decode cX5_undo 41 = .ok (.iload_n 1, 1) := by decide +kernel
theorem dX5_undo_42 : decode cX5_undo 42 = .ok (.isub, 1) := by decide +kernel
theorem dX5_undo_43 : decode cX5_undo 43 = .ok (.ireturn, 1) := by decide +kernel
theorem dX5_keep_0 : decode cX5_keep 0 = .ok (.aload_n 0, 1) := by decide +kernel
theorem dX5_keep_1 : decode cX5_keep 1 = .ok (.getfield 20, 3) := by decide +kernel
theorem dX5_keep_4 : decode cX5_keep 4 = .ok (.iload_n 1, 1) := by decide +kernel
theorem dX5_keep_5 : decode cX5_keep 5 = .ok (.invokestatic 99, 3) := by decide +kernel
theorem dX5_keep_8 : decode cX5_keep 8 = .ok (.astore_n 2, 1) := by decide +kernel
theorem dX5_keep_9 : decode cX5_keep 9 = .ok (.aload_n 2, 1) := by decide +kernel
theorem dX5_keep_10 : decode cX5_keep 10 = .ok (.ifnonnull 5, 3) := by decide +kernel
theorem dX5_keep_13 : decode cX5_keep 13 = .ok (.iconst (-1), 1) := by decide +kernel
theorem dX5_keep_14 : decode cX5_keep 14 = .ok (.ireturn, 1) := by decide +kernel
theorem dX5_keep_15 : decode cX5_keep 15 = .ok (.aload_n 0, 1) := by decide +kernel
theorem dX5_keep_16 : decode cX5_keep 16 = .ok (.getfield 49, 3) := by decide +kernel
theorem dX5_keep_19 : decode cX5_keep 19 = .ok (.getfield 131, 3) := by decide +kernel
theorem dX5_keep_22 : decode cX5_keep 22 = .ok (.ifCond .ne 6, 3) := by decide +kernel
theorem dX5_keep_25 : decode cX5_keep 25 = .ok (.bipush (-4), 2) := by decide +kernel
theorem dX5_keep_27 : decode cX5_keep 27 = .ok (.ireturn, 1) := by decide +kernel
theorem dX5_keep_28 : decode cX5_keep 28 = .ok (.aload_n 2, 1) := by decide +kernel
theorem dX5_keep_29 : decode cX5_keep 29 = .ok (.aload_n 0, 1) := by decide +kernel
theorem dX5_keep_30 : decode cX5_keep 30 = .ok (.getfield 49, 3) := by decide +kernel
theorem dX5_keep_33 : decode cX5_keep 33 = .ok (.getfield 125, 3) := by decide +kernel
theorem dX5_keep_36 : decode cX5_keep 36 = .ok (.invokevirtual 200, 3) := by decide +kernel
theorem dX5_keep_39 : decode cX5_keep 39 = .ok (.aload_n 2, 1) := by decide +kernel
theorem dX5_keep_40 : decode cX5_keep 40 = .ok (.getfield 85, 3) := by decide +kernel
theorem dX5_keep_43 : decode cX5_keep 43 = .ok (.ireturn, 1) := by decide +kernel
theorem dX5_on_0 : decode cX5_on 0 = .ok (.aload_n 0, 1) := by decide +kernel
theorem dX5_on_1 : decode cX5_on 1 = .ok (.getfield 20, 3) := by decide +kernel
theorem dX5_on_4 : decode cX5_on 4 = .ok (.iload_n 1, 1) := by decide +kernel
theorem dX5_on_5 : decode cX5_on 5 = .ok (.invokestatic 99, 3) := by decide +kernel
theorem dX5_on_8 : decode cX5_on 8 = .ok (.astore_n 2, 1) := by decide +kernel
theorem dX5_on_9 : decode cX5_on 9 = .ok (.aload_n 0, 1) := by decide +kernel
theorem dX5_on_10 : decode cX5_on 10 = .ok (.aload_n 2, 1) := by decide +kernel
theorem dX5_on_11 : decode cX5_on 11 = .ok (.invokevirtual 91, 3) := by decide +kernel
theorem dX5_on_14 : decode cX5_on 14 = .ok (.istore_n 3, 1) := by decide +kernel
theorem dX5_on_15 : decode cX5_on 15 = .ok (.aload_n 2, 1) := by decide +kernel
theorem dX5_on_16 : decode cX5_on 16 = .ok (.ifnull 7, 3) := by decide +kernel
theorem dX5_on_19 : decode cX5_on 19 = .ok (.iload_n 3, 1) := by decide +kernel
theorem dX5_on_20 : decode cX5_on 20 = .ok (.ifCond .eq 5, 3) := by decide +kernel
theorem dX5_on_23 : decode cX5_on 23 = .ok (.iload_n 3, 1) := by decide +kernel
theorem dX5_on_24 : decode cX5_on 24 = .ok (.ireturn, 1) := by decide +kernel
theorem dX5_on_25 : decode cX5_on 25 = .ok (.aload_n 0, 1) := by decide +kernel
theorem dX5_on_26 : decode cX5_on 26 = .ok (.getfield 49, 3) := by decide +kernel
theorem dX5_on_29 : decode cX5_on 29 = .ok (.getfield 125, 3) := by decide +kernel
theorem dX5_on_32 : decode cX5_on 32 = .ok (.aload_n 2, 1) := by decide +kernel
theorem dX5_on_33 : decode cX5_on 33 = .ok (.invokevirtual 200, 3) := by decide +kernel
theorem dX5_on_36 : decode cX5_on 36 = .ok (.aload_n 0, 1) := by decide +kernel
theorem dX5_on_37 : decode cX5_on 37 = .ok (.getfield 49, 3) := by decide +kernel
theorem dX5_on_40 : decode cX5_on 40 = .ok (.invokevirtual 128, 3) := by decide +kernel
theorem dX5_on_43 : decode cX5_on 43 = .ok (.aload_n 0, 1) := by decide +kernel
theorem dX5_on_44 : decode cX5_on 44 = .ok (.getfield 49, 3) := by decide +kernel
theorem dX5_on_47 : decode cX5_on 47 = .ok (.getfield 125, 3) := by decide +kernel
theorem dX5_on_50 : decode cX5_on 50 = .ok (.getfield 85, 3) := by decide +kernel
theorem dX5_on_53 : decode cX5_on 53 = .ok (.ireturn, 1) := by decide +kernel
theorem dX5_takes_0 : decode cX5_takes 0 = .ok (.aload_n 0, 1) := by decide +kernel
theorem dX5_takes_1 : decode cX5_takes 1 = .ok (.getfield 49, 3) := by decide +kernel
theorem dX5_takes_4 : decode cX5_takes 4 = .ok (.iload_n 1, 1) := by decide +kernel
theorem dX5_takes_5 : decode cX5_takes 5 = .ok (.invokevirtual 132, 3) := by decide +kernel
theorem dX5_takes_8 : decode cX5_takes 8 = .ok (.ifCond .eq 10, 3) := by decide +kernel
theorem dX5_takes_11 : decode cX5_takes 11 = .ok (.iload_n 2, 1) := by decide +kernel
theorem dX5_takes_12 : decode cX5_takes 12 = .ok (.invokestatic 185, 3) := by decide +kernel
theorem dX5_takes_15 : decode cX5_takes 15 = .ok (.ifCond .ne 5, 3) := by decide +kernel
theorem dX5_takes_18 : decode cX5_takes 18 = .ok (.iconst (-1), 1) := by decide +kernel
theorem dX5_takes_19 : decode cX5_takes 19 = .ok (.ireturn, 1) := by decide +kernel
theorem dX5_takes_20 : decode cX5_takes 20 = .ok (.aload_n 0, 1) := by decide +kernel
theorem dX5_takes_21 : decode cX5_takes 21 = .ok (.getfield 49, 3) := by decide +kernel
theorem dX5_takes_24 : decode cX5_takes 24 = .ok (.iload_n 1, 1) := by decide +kernel
theorem dX5_takes_25 : decode cX5_takes 25 = .ok (.iload_n 2, 1) := by decide +kernel
theorem dX5_takes_26 : decode cX5_takes 26 = .ok (.invokevirtual 149, 3) := by decide +kernel
theorem dX5_takes_29 : decode cX5_takes 29 = .ok (.ireturn, 1) := by decide +kernel
theorem dX5_pays_0 : decode cX5_pays 0 = .ok (.aload_n 0, 1) := by decide +kernel
theorem dX5_pays_1 : decode cX5_pays 1 = .ok (.getfield 49, 3) := by decide +kernel
theorem dX5_pays_4 : decode cX5_pays 4 = .ok (.iload_n 1, 1) := by decide +kernel
theorem dX5_pays_5 : decode cX5_pays 5 = .ok (.invokevirtual 132, 3) := by decide +kernel
theorem dX5_pays_8 : decode cX5_pays 8 = .ok (.ifCond .eq 14, 3) := by decide +kernel
theorem dX5_pays_11 : decode cX5_pays 11 = .ok (.aload_n 0, 1) := by decide +kernel
theorem dX5_pays_12 : decode cX5_pays 12 = .ok (.getfield 49, 3) := by decide +kernel
theorem dX5_pays_15 : decode cX5_pays 15 = .ok (.iload_n 1, 1) := by decide +kernel
theorem dX5_pays_16 : decode cX5_pays 16 = .ok (.invokevirtual 159, 3) := by decide +kernel
theorem dX5_pays_19 : decode cX5_pays 19 = .ok (.goto 4, 3) := by decide +kernel
theorem dX5_pays_22 : decode cX5_pays 22 = .ok (.iconst (-1), 1) := by decide +kernel
theorem dX5_pays_23 : decode cX5_pays 23 = .ok (.ireturn, 1) := by decide +kernel
theorem dX5_who_0 : decode cX5_who 0 = .ok (.iload_n 1, 1) := by decide +kernel
theorem dX5_who_1 : decode cX5_who 1 = .ok (.invokestatic 185, 3) := by decide +kernel
theorem dX5_who_4 : decode cX5_who 4 = .ok (.ifCond .eq 13, 3) := by decide +kernel
theorem dX5_who_7 : decode cX5_who 7 = .ok (.iload_n 2, 1) := by decide +kernel
theorem dX5_who_8 : decode cX5_who 8 = .ok (.iconst 1, 1) := by decide +kernel
theorem dX5_who_9 : decode cX5_who 9 = .ok (.bipush 9, 2) := by decide +kernel
theorem dX5_who_11 : decode cX5_who 11 = .ok (.invokestatic 75, 3) := by decide +kernel
theorem dX5_who_14 : decode cX5_who 14 = .ok (.ifCond .ne 5, 3) := by decide +kernel
theorem dX5_who_17 : decode cX5_who 17 = .ok (.iconst (-1), 1) := by decide +kernel
theorem dX5_who_18 : decode cX5_who 18 = .ok (.ireturn, 1) := by decide +kernel
theorem dX5_who_19 : decode cX5_who 19 = .ok (.iconst 0, 1) := by decide +kernel
theorem dX5_who_20 : decode cX5_who 20 = .ok (.istore_n 3, 1) := by decide +kernel
theorem dX5_who_21 : decode cX5_who 21 = .ok (.iconst 0, 1) := by decide +kernel
theorem dX5_who_22 : decode cX5_who 22 = .ok (.istore 4, 2) := by decide +kernel
theorem dX5_who_24 : decode cX5_who 24 = .ok (.iload 4, 2) := by decide +kernel
theorem dX5_who_26 : decode cX5_who 26 = .ok (.aload_n 0, 1) := by decide +kernel
theorem dX5_who_27 : decode cX5_who 27 = .ok (.getfield 49, 3) := by decide +kernel
theorem dX5_who_30 : decode cX5_who 30 = .ok (.getfield 131, 3) := by decide +kernel
theorem dX5_who_33 : decode cX5_who 33 = .ok (.if_icmp .ge 30, 3) := by decide +kernel
theorem dX5_who_36 : decode cX5_who 36 = .ok (.aload_n 0, 1) := by decide +kernel
theorem dX5_who_37 : decode cX5_who 37 = .ok (.getfield 49, 3) := by decide +kernel
theorem dX5_who_40 : decode cX5_who 40 = .ok (.iload 4, 2) := by decide +kernel
theorem dX5_who_42 : decode cX5_who 42 = .ok (.iload_n 1, 1) := by decide +kernel
theorem dX5_who_43 : decode cX5_who 43 = .ok (.invokevirtual 149, 3) := by decide +kernel
theorem dX5_who_46 : decode cX5_who 46 = .ok (.iload_n 2, 1) := by decide +kernel
theorem dX5_who_47 : decode cX5_who 47 = .ok (.if_icmp .ne 10, 3) := by decide +kernel
theorem dX5_who_50 : decode cX5_who 50 = .ok (.iload_n 3, 1) := by decide +kernel
theorem dX5_who_51 : decode cX5_who 51 = .ok (.iconst 1, 1) := by decide +kernel
theorem dX5_who_52 : decode cX5_who 52 = .ok (.iload 4, 2) := by decide +kernel
theorem dX5_who_54 : decode cX5_who 54 = .ok (.ishl, 1) := by decide +kernel
theorem dX5_who_55 : decode cX5_who 55 = .ok (.ior, 1) := by decide +kernel
theorem dX5_who_56 : decode cX5_who 56 = .ok (.istore_n 3, 1) := by decide +kernel
theorem dX5_who_57 : decode cX5_who 57 = .ok (.iinc 4 1, 3) := by decide +kernel
theorem dX5_who_60 : decode cX5_who 60 = .ok (.goto (-36), 3) := by decide +kernel
theorem dX5_who_63 : decode cX5_who 63 = .ok (.iload_n 3, 1) := by decide +kernel
theorem dX5_who_64 : decode cX5_who 64 = .ok (.ireturn, 1) := by decide +kernel
theorem dX5_soonest_0 : decode cX5_soonest 0 = .ok (.aload_n 0, 1) := by decide +kernel
theorem dX5_soonest_1 : decode cX5_soonest 1 = .ok (.getfield 49, 3) := by decide +kernel
theorem dX5_soonest_4 : decode cX5_soonest 4 = .ok (.iload_n 1, 1) := by decide +kernel
theorem dX5_soonest_5 : decode cX5_soonest 5 = .ok (.invokevirtual 207, 3) := by decide +kernel
theorem dX5_soonest_8 : decode cX5_soonest 8 = .ok (.ifCond .ne 5, 3) := by decide +kernel
theorem dX5_soonest_11 : decode cX5_soonest 11 = .ok (.iconst (-1), 1) := by decide +kernel
theorem dX5_soonest_12 : decode cX5_soonest 12 = .ok (.ireturn, 1) := by decide +kernel
theorem dX5_soonest_13 : decode cX5_soonest 13 = .ok (.aload_n 0, 1) := by decide +kernel
theorem dX5_soonest_14 : decode cX5_soonest 14 = .ok (.getfield 49, 3) := by decide +kernel
theorem dX5_soonest_17 : decode cX5_soonest 17 = .ok (.iload_n 1, 1) := by decide +kernel
theorem dX5_soonest_18 : decode cX5_soonest 18 = .ok (.invokevirtual 210, 3) := by decide +kernel
theorem dX5_soonest_21 : decode cX5_soonest 21 = .ok (.ifCond .ne 6, 3) := by decide +kernel
theorem dX5_soonest_24 : decode cX5_soonest 24 = .ok (.bipush (-4), 2) := by decide +kernel
theorem dX5_soonest_26 : decode cX5_soonest 26 = .ok (.ireturn, 1) := by decide +kernel
theorem dX5_soonest_27 : decode cX5_soonest 27 = .ok (.aload_n 0, 1) := by decide +kernel
theorem dX5_soonest_28 : decode cX5_soonest 28 = .ok (.getfield 49, 3) := by decide +kernel
theorem dX5_soonest_31 : decode cX5_soonest 31 = .ok (.iload_n 1, 1) := by decide +kernel
theorem dX5_soonest_32 : decode cX5_soonest 32 = .ok (.invokevirtual 213, 3) := by decide +kernel
theorem dX5_soonest_35 : decode cX5_soonest 35 = .ok (.iload_n 1, 1) := by decide +kernel
theorem dX5_soonest_36 : decode cX5_soonest 36 = .ok (.aload_n 0, 1) := by decide +kernel
theorem dX5_soonest_37 : decode cX5_soonest 37 = .ok (.getfield 49, 3) := by decide +kernel
theorem dX5_soonest_40 : decode cX5_soonest 40 = .ok (.getfield 169, 3) := by decide +kernel
theorem dX5_soonest_43 : decode cX5_soonest 43 = .ok (.invokestatic 216, 3) := by decide +kernel
theorem dX5_soonest_46 : decode cX5_soonest 46 = .ok (.iadd, 1) := by decide +kernel
theorem dX5_soonest_47 : decode cX5_soonest 47 = .ok (.ireturn, 1) := by decide +kernel
theorem dX5_intime_0 : decode cX5_intime 0 = .ok (.aload_n 0, 1) := by decide +kernel
theorem dX5_intime_1 : decode cX5_intime 1 = .ok (.getfield 13, 3) := by decide +kernel
theorem dX5_intime_4 : decode cX5_intime 4 = .ok (.iload_n 2, 1) := by decide +kernel
theorem dX5_intime_5 : decode cX5_intime 5 = .ok (.invokestatic 99, 3) := by decide +kernel
theorem dX5_intime_8 : decode cX5_intime 8 = .ok (.astore_n 3, 1) := by decide +kernel
theorem dX5_intime_9 : decode cX5_intime 9 = .ok (.aload_n 3, 1) := by decide +kernel
theorem dX5_intime_10 : decode cX5_intime 10 = .ok (.ifnull 14, 3) := by decide +kernel
theorem dX5_intime_13 : decode cX5_intime 13 = .ok (.aload_n 0, 1) := by decide +kernel
theorem dX5_intime_14 : decode cX5_intime 14 = .ok (.getfield 49, 3) := by decide +kernel
theorem dX5_intime_17 : decode cX5_intime 17 = .ok (.iload_n 1, 1) := by decide +kernel
theorem dX5_intime_18 : decode cX5_intime 18 = .ok (.invokevirtual 207, 3) := by decide +kernel
theorem dX5_intime_21 : decode cX5_intime 21 = .ok (.ifCond .ne 5, 3) := by decide +kernel
theorem dX5_intime_24 : decode cX5_intime 24 = .ok (.iconst (-1), 1) := by decide +kernel
theorem dX5_intime_25 : decode cX5_intime 25 = .ok (.ireturn, 1) := by decide +kernel
theorem dX5_intime_26 : decode cX5_intime 26 = .ok (.aload_n 0, 1) := by decide +kernel
theorem dX5_intime_27 : decode cX5_intime 27 = .ok (.getfield 49, 3) := by decide +kernel
theorem dX5_intime_30 : decode cX5_intime 30 = .ok (.iload_n 1, 1) := by decide +kernel
theorem dX5_intime_31 : decode cX5_intime 31 = .ok (.invokevirtual 210, 3) := by decide +kernel
theorem dX5_intime_34 : decode cX5_intime 34 = .ok (.ifCond .ne 6, 3) := by decide +kernel
theorem dX5_intime_37 : decode cX5_intime 37 = .ok (.bipush (-4), 2) := by decide +kernel
theorem dX5_intime_39 : decode cX5_intime 39 = .ok (.ireturn, 1) := by decide +kernel
theorem dX5_intime_40 : decode cX5_intime 40 = .ok (.aload_n 0, 1) := by decide +kernel
theorem dX5_intime_41 : decode cX5_intime 41 = .ok (.getfield 33, 3) := by decide +kernel
theorem dX5_intime_44 : decode cX5_intime 44 = .ok (.aload_n 0, 1) := by decide +kernel
theorem dX5_intime_45 : decode cX5_intime 45 = .ok (.getfield 49, 3) := by decide +kernel
theorem dX5_intime_48 : decode cX5_intime 48 = .ok (.iload_n 1, 1) := by decide +kernel
theorem dX5_intime_49 : decode cX5_intime 49 = .ok (.invokevirtual 219, 3) := by decide +kernel
theorem dX5_intime_52 : decode cX5_intime 52 = .ok (.istore 4, 2) := by decide +kernel
theorem dX5_intime_54 : decode cX5_intime 54 = .ok (.iload 4, 2) := by decide +kernel
theorem dX5_intime_56 : decode cX5_intime 56 = .ok (.bipush (-9), 2) := by decide +kernel
theorem dX5_intime_58 : decode cX5_intime 58 = .ok (.if_icmp .eq 14, 3) := by decide +kernel
theorem dX5_intime_61 : decode cX5_intime 61 = .ok (.aload_n 3, 1) := by decide +kernel
theorem dX5_intime_62 : decode cX5_intime 62 = .ok (.aload_n 0, 1) := by decide +kernel
theorem dX5_intime_63 : decode cX5_intime 63 = .ok (.getfield 33, 3) := by decide +kernel
theorem dX5_intime_66 : decode cX5_intime 66 = .ok (.getfield 223, 3) := by decide +kernel
theorem dX5_intime_69 : decode cX5_intime 69 = .ok (.invokevirtual 200, 3) := by decide +kernel
theorem dX5_intime_72 : decode cX5_intime 72 = .ok (.iload 4, 2) := by decide +kernel
theorem dX5_intime_74 : decode cX5_intime 74 = .ok (.ireturn, 1) := by decide +kernel
theorem dX5_many_0 : decode cX5_many 0 = .ok (.aload_n 0, 1) := by decide +kernel
theorem dX5_many_1 : decode cX5_many 1 = .ok (.getfield 49, 3) := by decide +kernel
theorem dX5_many_4 : decode cX5_many 4 = .ok (.getfield 131, 3) := by decide +kernel
theorem dX5_many_7 : decode cX5_many 7 = .ok (.ifCond .ne 6, 3) := by decide +kernel
theorem dX5_many_10 : decode cX5_many 10 = .ok (.bipush (-4), 2) := by decide +kernel
theorem dX5_many_12 : decode cX5_many 12 = .ok (.ireturn, 1) := by decide +kernel
theorem dX5_many_13 : decode cX5_many 13 = .ok (.aload_n 0, 1) := by decide +kernel
theorem dX5_many_14 : decode cX5_many 14 = .ok (.aload_n 0, 1) := by decide +kernel
theorem dX5_many_15 : decode cX5_many 15 = .ok (.getfield 33, 3) := by decide +kernel
theorem dX5_many_18 : decode cX5_many 18 = .ok (.aload_n 0, 1) := by decide +kernel
theorem dX5_many_19 : decode cX5_many 19 = .ok (.getfield 49, 3) := by decide +kernel
theorem dX5_many_22 : decode cX5_many 22 = .ok (.invokevirtual 226, 3) := by decide +kernel
theorem dX5_many_25 : decode cX5_many 25 = .ok (.putfield 107, 3) := by decide +kernel
theorem dX5_many_28 : decode cX5_many 28 = .ok (.aload_n 0, 1) := by decide +kernel
theorem dX5_many_29 : decode cX5_many 29 = .ok (.getfield 107, 3) := by decide +kernel
theorem dX5_many_32 : decode cX5_many 32 = .ok (.invokestatic 192, 3) := by decide +kernel
theorem dX5_many_35 : decode cX5_many 35 = .ok (.ireturn, 1) := by decide +kernel
theorem dX5_dates_0 : decode cX5_dates 0 = .ok (.aload_n 0, 1) := by decide +kernel
theorem dX5_dates_1 : decode cX5_dates 1 = .ok (.getfield 13, 3) := by decide +kernel
theorem dX5_dates_4 : decode cX5_dates 4 = .ok (.iload_n 1, 1) := by decide +kernel
theorem dX5_dates_5 : decode cX5_dates 5 = .ok (.invokestatic 99, 3) := by decide +kernel
theorem dX5_dates_8 : decode cX5_dates 8 = .ok (.astore_n 2, 1) := by decide +kernel
theorem dX5_dates_9 : decode cX5_dates 9 = .ok (.aload_n 2, 1) := by decide +kernel
theorem dX5_dates_10 : decode cX5_dates 10 = .ok (.ifnonnull 5, 3) := by decide +kernel
theorem dX5_dates_13 : decode cX5_dates 13 = .ok (.iconst (-1), 1) := by decide +kernel
theorem dX5_dates_14 : decode cX5_dates 14 = .ok (.ireturn, 1) := by decide +kernel
theorem dX5_dates_15 : decode cX5_dates 15 = .ok (.aload_n 0, 1) := by decide +kernel
theorem dX5_dates_16 : decode cX5_dates 16 = .ok (.getfield 49, 3) := by decide +kernel
theorem dX5_dates_19 : decode cX5_dates 19 = .ok (.getfield 131, 3) := by decide +kernel
theorem dX5_dates_22 : decode cX5_dates 22 = .ok (.ifCond .ne 6, 3) := by decide +kernel
theorem dX5_dates_25 : decode cX5_dates 25 = .ok (.bipush (-4), 2) := by decide +kernel
theorem dX5_dates_27 : decode cX5_dates 27 = .ok (.ireturn, 1) := by decide +kernel
theorem dX5_dates_28 : decode cX5_dates 28 = .ok (.aload_n 0, 1) := by decide +kernel
theorem dX5_dates_29 : decode cX5_dates 29 = .ok (.getfield 49, 3) := by decide +kernel
theorem dX5_dates_32 : decode cX5_dates 32 = .ok (.iconst 0, 1) := by decide +kernel
theorem dX5_dates_33 : decode cX5_dates 33 = .ok (.iconst 1, 1) := by decide +kernel
theorem dX5_dates_34 : decode cX5_dates 34 = .ok (.invokevirtual 230, 3) := by decide +kernel
theorem dX5_dates_37 : decode cX5_dates 37 = .ok (.istore_n 3, 1) := by decide +kernel
theorem dX5_dates_38 : decode cX5_dates 38 = .ok (.aload_n 0, 1) := by decide +kernel
theorem dX5_dates_39 : decode cX5_dates 39 = .ok (.getfield 49, 3) := by decide +kernel
theorem dX5_dates_42 : decode cX5_dates 42 = .ok (.iconst 0, 1) := by decide +kernel
theorem dX5_dates_43 : decode cX5_dates 43 = .ok (.iconst (-1), 1) := by decide +kernel
theorem dX5_dates_44 : decode cX5_dates 44 = .ok (.invokevirtual 230, 3) := by decide +kernel
theorem dX5_dates_47 : decode cX5_dates 47 = .ok (.istore 4, 2) := by decide +kernel
theorem dX5_dates_49 : decode cX5_dates 49 = .ok (.iload_n 3, 1) := by decide +kernel
theorem dX5_dates_50 : decode cX5_dates 50 = .ok (.iload 4, 2) := by decide +kernel
theorem dX5_dates_52 : decode cX5_dates 52 = .ok (.if_icmp .gt 7, 3) := by decide +kernel
theorem dX5_dates_55 : decode cX5_dates 55 = .ok (.iconst 1, 1) := by decide +kernel
theorem dX5_dates_56 : decode cX5_dates 56 = .ok (.goto 4, 3) := by decide +kernel
theorem dX5_dates_59 : decode cX5_dates 59 = .ok (.iconst (-1), 1) := by decide +kernel
theorem dX5_dates_60 : decode cX5_dates 60 = .ok (.istore 5, 2) := by decide +kernel
theorem dX5_dates_62 : decode cX5_dates 62 = .ok (.aload_n 2, 1) := by decide +kernel
theorem dX5_dates_63 : decode cX5_dates 63 = .ok (.aload_n 0, 1) := by decide +kernel
theorem dX5_dates_64 : decode cX5_dates 64 = .ok (.getfield 49, 3) := by decide +kernel
theorem dX5_dates_67 : decode cX5_dates 67 = .ok (.getfield 131, 3) := by decide +kernel
theorem dX5_dates_70 : decode cX5_dates 70 = .ok (.iconst 0, 1) := by decide +kernel
theorem dX5_dates_71 : decode cX5_dates 71 = .ok (.invokevirtual 60, 3) := by decide +kernel
theorem dX5_dates_74 : decode cX5_dates 74 = .ok (.iconst 0, 1) := by decide +kernel
theorem dX5_dates_75 : decode cX5_dates 75 = .ok (.istore 6, 2) := by decide +kernel
theorem dX5_dates_77 : decode cX5_dates 77 = .ok (.iconst 0, 1) := by decide +kernel
theorem dX5_dates_78 : decode cX5_dates 78 = .ok (.istore 7, 2) := by decide +kernel
theorem dX5_dates_80 : decode cX5_dates 80 = .ok (.iload 7, 2) := by decide +kernel
theorem dX5_dates_82 : decode cX5_dates 82 = .ok (.aload_n 0, 1) := by decide +kernel
theorem dX5_dates_83 : decode cX5_dates 83 = .ok (.getfield 49, 3) := by decide +kernel
theorem dX5_dates_86 : decode cX5_dates 86 = .ok (.getfield 131, 3) := by decide +kernel
theorem dX5_dates_89 : decode cX5_dates 89 = .ok (.if_icmp .ge 39, 3) := by decide +kernel
theorem dX5_dates_92 : decode cX5_dates 92 = .ok (.aload_n 0, 1) := by decide +kernel
theorem dX5_dates_93 : decode cX5_dates 93 = .ok (.getfield 49, 3) := by decide +kernel
theorem dX5_dates_96 : decode cX5_dates 96 = .ok (.iload 6, 2) := by decide +kernel
theorem dX5_dates_98 : decode cX5_dates 98 = .ok (.iload 5, 2) := by decide +kernel
theorem dX5_dates_100 : decode cX5_dates 100 = .ok (.invokevirtual 230, 3) := by decide +kernel
theorem dX5_dates_103 : decode cX5_dates 103 = .ok (.istore 8, 2) := by decide +kernel
theorem dX5_dates_105 : decode cX5_dates 105 = .ok (.aload_n 2, 1) := by decide +kernel
theorem dX5_dates_106 : decode cX5_dates 106 = .ok (.iload 7, 2) := by decide +kernel
theorem dX5_dates_108 : decode cX5_dates 108 = .ok (.iload 8, 2) := by decide +kernel
theorem dX5_dates_110 : decode cX5_dates 110 = .ok (.invokevirtual 72, 3) := by decide +kernel
theorem dX5_dates_113 : decode cX5_dates 113 = .ok (.iload 6, 2) := by decide +kernel
theorem dX5_dates_115 : decode cX5_dates 115 = .ok (.iconst 1, 1) := by decide +kernel
theorem dX5_dates_116 : decode cX5_dates 116 = .ok (.iload 8, 2) := by decide +kernel
theorem dX5_dates_118 : decode cX5_dates 118 = .ok (.ishl, 1) := by decide +kernel
theorem dX5_dates_119 : decode cX5_dates 119 = .ok (.ior, 1) := by decide +kernel
theorem dX5_dates_120 : decode cX5_dates 120 = .ok (.istore 6, 2) := by decide +kernel
theorem dX5_dates_122 : decode cX5_dates 122 = .ok (.iinc 7 1, 3) := by decide +kernel
theorem dX5_dates_125 : decode cX5_dates 125 = .ok (.goto (-45), 3) := by decide +kernel
theorem dX5_dates_128 : decode cX5_dates 128 = .ok (.aload_n 0, 1) := by decide +kernel
theorem dX5_dates_129 : decode cX5_dates 129 = .ok (.getfield 49, 3) := by decide +kernel
theorem dX5_dates_132 : decode cX5_dates 132 = .ok (.getfield 146, 3) := by decide +kernel
theorem dX5_dates_135 : decode cX5_dates 135 = .ok (.iload 4, 2) := by decide +kernel
theorem dX5_dates_137 : decode cX5_dates 137 = .ok (.invokevirtual 68, 3) := by decide +kernel
theorem dX5_dates_140 : decode cX5_dates 140 = .ok (.aload_n 0, 1) := by decide +kernel
theorem dX5_dates_141 : decode cX5_dates 141 = .ok (.getfield 49, 3) := by decide +kernel
theorem dX5_dates_144 : decode cX5_dates 144 = .ok (.getfield 146, 3) := by decide +kernel
theorem dX5_dates_147 : decode cX5_dates 147 = .ok (.iload_n 3, 1) := by decide +kernel
theorem dX5_dates_148 : decode cX5_dates 148 = .ok (.invokevirtual 68, 3) := by decide +kernel
theorem dX5_dates_151 : decode cX5_dates 151 = .ok (.isub, 1) := by decide +kernel
theorem dX5_dates_152 : decode cX5_dates 152 = .ok (.ireturn, 1) := by decide +kernel
theorem dX5_refusedPairs_0 : decode cX5_refusedPairs 0 = .ok (.aload_n 0, 1) := by decide +kernel
theorem dX5_refusedPairs_1 : decode cX5_refusedPairs 1 = .ok (.aload_n 1, 1) := by decide +kernel
theorem dX5_refusedPairs_2 : decode cX5_refusedPairs 2 = .ok (.invokevirtual 91, 3) := by decide +kernel
theorem dX5_refusedPairs_5 : decode cX5_refusedPairs 5 = .ok (.istore_n 2, 1) := by decide +kernel
theorem dX5_refusedPairs_6 : decode cX5_refusedPairs 6 = .ok (.aload_n 1, 1) := by decide +kernel
theorem dX5_refusedPairs_7 : decode cX5_refusedPairs 7 = .ok (.ifnull 7, 3) := by decide +kernel
theorem dX5_refusedPairs_10 : decode cX5_refusedPairs 10 = .ok (.iload_n 2, 1) := by decide +kernel
theorem dX5_refusedPairs_11 : decode cX5_refusedPairs 11 = .ok (.ifCond .eq 5, 3) := by decide +kernel
theorem dX5_refusedPairs_14 : decode cX5_refusedPairs 14 = .ok (.iload_n 2, 1) := by decide +kernel
theorem dX5_refusedPairs_15 : decode cX5_refusedPairs 15 = .ok (.ireturn, 1) := by decide +kernel
theorem dX5_refusedPairs_16 : decode cX5_refusedPairs 16 = .ok (.aload_n 1, 1) := by decide +kernel
theorem dX5_refusedPairs_17 : decode cX5_refusedPairs 17 = .ok (.getfield 85, 3) := by decide +kernel
theorem dX5_refusedPairs_20 : decode cX5_refusedPairs 20 = .ok (.iconst 2, 1) := by decide +kernel
theorem dX5_refusedPairs_21 : decode cX5_refusedPairs 21 = .ok (.irem, 1) := by decide +kernel
theorem dX5_refusedPairs_22 : decode cX5_refusedPairs 22 = .ok (.ifCond .ne 12, 3) := by decide +kernel
theorem dX5_refusedPairs_25 : decode cX5_refusedPairs 25 = .ok (.aload_n 1, 1) := by decide +kernel
theorem dX5_refusedPairs_26 : decode cX5_refusedPairs 26 = .ok (.getfield 85, 3) := by decide +kernel
theorem dX5_refusedPairs_29 : decode cX5_refusedPairs 29 = .ok (.bipush 16, 2) := by decide +kernel
theorem dX5_refusedPairs_31 : decode cX5_refusedPairs 31 = .ok (.if_icmp .le 9, 3) := by decide +kernel
theorem dX5_refusedPairs_34 : decode cX5_refusedPairs 34 = .ok (.aload_n 0, 1) := by decide +kernel
theorem dX5_refusedPairs_35 : decode cX5_refusedPairs 35 = .ok (.iconst 5, 1) := by decide +kernel
theorem dX5_refusedPairs_36 : decode cX5_refusedPairs 36 = .ok (.invokevirtual 88, 3) := by decide +kernel
theorem dX5_refusedPairs_39 : decode cX5_refusedPairs 39 = .ok (.ireturn, 1) := by decide +kernel
theorem dX5_refusedPairs_40 : decode cX5_refusedPairs 40 = .ok (.iconst 0, 1) := by decide +kernel
theorem dX5_refusedPairs_41 : decode cX5_refusedPairs 41 = .ok (.istore_n 3, 1) := by decide +kernel
theorem dX5_refusedPairs_42 : decode cX5_refusedPairs 42 = .ok (.iload_n 3, 1) := by decide +kernel
theorem dX5_refusedPairs_43 : decode cX5_refusedPairs 43 = .ok (.aload_n 1, 1) := by decide +kernel
theorem dX5_refusedPairs_44 : decode cX5_refusedPairs 44 = .ok (.getfield 85, 3) := by decide +kernel
theorem dX5_refusedPairs_47 : decode cX5_refusedPairs 47 = .ok (.if_icmp .ge 42, 3) := by decide +kernel
theorem dX5_refusedPairs_50 : decode cX5_refusedPairs 50 = .ok (.aload_n 1, 1) := by decide +kernel
theorem dX5_refusedPairs_51 : decode cX5_refusedPairs 51 = .ok (.iload_n 3, 1) := by decide +kernel
theorem dX5_refusedPairs_52 : decode cX5_refusedPairs 52 = .ok (.invokevirtual 68, 3) := by decide +kernel
theorem dX5_refusedPairs_55 : decode cX5_refusedPairs 55 = .ok (.invokestatic 185, 3) := by decide +kernel
theorem dX5_refusedPairs_58 : decode cX5_refusedPairs 58 = .ok (.ifCond .eq 19, 3) := by decide +kernel
theorem dX5_refusedPairs_61 : decode cX5_refusedPairs 61 = .ok (.aload_n 1, 1) := by decide +kernel
theorem dX5_refusedPairs_62 : decode cX5_refusedPairs 62 = .ok (.iload_n 3, 1) := by decide +kernel
theorem dX5_refusedPairs_63 : decode cX5_refusedPairs 63 = .ok (.iconst 1, 1) := by decide +kernel
theorem dX5_refusedPairs_64 : decode cX5_refusedPairs 64 = .ok (.iadd, 1) := by decide +kernel
theorem dX5_refusedPairs_65 : decode cX5_refusedPairs 65 = .ok (.invokevirtual 68, 3) := by decide +kernel
theorem dX5_refusedPairs_68 : decode cX5_refusedPairs 68 = .ok (.iconst 0, 1) := by decide +kernel
theorem dX5_refusedPairs_69 : decode cX5_refusedPairs 69 = .ok (.bipush 9, 2) := by decide +kernel
theorem dX5_refusedPairs_71 : decode cX5_refusedPairs 71 = .ok (.invokestatic 75, 3) := by decide +kernel
theorem dX5_refusedPairs_74 : decode cX5_refusedPairs 74 = .ok (.ifCond .ne 9, 3) := by decide +kernel
theorem dX5_refusedPairs_77 : decode cX5_refusedPairs 77 = .ok (.aload_n 0, 1) := by decide +kernel
theorem dX5_refusedPairs_78 : decode cX5_refusedPairs 78 = .ok (.iconst 3, 1) := by decide +kernel
theorem dX5_refusedPairs_79 : decode cX5_refusedPairs 79 = .ok (.invokevirtual 88, 3) := by decide +kernel
theorem dX5_refusedPairs_82 : decode cX5_refusedPairs 82 = .ok (.ireturn, 1) := by decide +kernel
theorem dX5_refusedPairs_83 : decode cX5_refusedPairs 83 = .ok (.iinc 3 2, 3) := by decide +kernel
theorem dX5_refusedPairs_86 : decode cX5_refusedPairs 86 = .ok (.goto (-44), 3) := by decide +kernel
theorem dX5_refusedPairs_89 : decode cX5_refusedPairs 89 = .ok (.iconst 0, 1) := by decide +kernel
theorem dX5_refusedPairs_90 : decode cX5_refusedPairs 90 = .ok (.ireturn, 1) := by decide +kernel
theorem dX5_tookOf_0 : decode cX5_tookOf 0 = .ok (.iload_n 0, 1) := by decide +kernel
theorem dX5_tookOf_1 : decode cX5_tookOf 1 = .ok (.iload_n 1, 1) := by decide +kernel
theorem dX5_tookOf_2 : decode cX5_tookOf 2 = .ok (.iload_n 2, 1) := by decide +kernel
theorem dX5_tookOf_3 : decode cX5_tookOf 3 = .ok (.invokestatic 155, 3) := by decide +kernel
theorem dX5_tookOf_6 : decode cX5_tookOf 6 = .ok (.istore_n 3, 1) := by decide +kernel
theorem dX5_tookOf_7 : decode cX5_tookOf 7 = .ok (.iload_n 3, 1) := by decide +kernel
theorem dX5_tookOf_8 : decode cX5_tookOf 8 = .ok (.bipush (-9), 2) := by decide +kernel
theorem dX5_tookOf_10 : decode cX5_tookOf 10 = .ok (.if_icmp .ne 7, 3) := by decide +kernel
theorem dX5_tookOf_13 : decode cX5_tookOf 13 = .ok (.iconst 0, 1) := by decide +kernel
theorem dX5_tookOf_14 : decode cX5_tookOf 14 = .ok (.goto 4, 3) := by decide +kernel
theorem dX5_tookOf_17 : decode cX5_tookOf 17 = .ok (.iload_n 3, 1) := by decide +kernel
theorem dX5_tookOf_18 : decode cX5_tookOf 18 = .ok (.ireturn, 1) := by decide +kernel
theorem dX5_canBe_0 : decode cX5_canBe 0 = .ok (.iconst 0, 1) := by decide +kernel
theorem dX5_canBe_1 : decode cX5_canBe 1 = .ok (.istore_n 3, 1) := by decide +kernel
theorem dX5_canBe_2 : decode cX5_canBe 2 = .ok (.iload_n 3, 1) := by decide +kernel
theorem dX5_canBe_3 : decode cX5_canBe 3 = .ok (.aload_n 2, 1) := by decide +kernel
theorem dX5_canBe_4 : decode cX5_canBe 4 = .ok (.getfield 85, 3) := by decide +kernel
theorem dX5_canBe_7 : decode cX5_canBe 7 = .ok (.if_icmp .ge 37, 3) := by decide +kernel
theorem dX5_canBe_10 : decode cX5_canBe 10 = .ok (.iload_n 1, 1) := by decide +kernel
theorem dX5_canBe_11 : decode cX5_canBe 11 = .ok (.aload_n 2, 1) := by decide +kernel
theorem dX5_canBe_12 : decode cX5_canBe 12 = .ok (.iload_n 3, 1) := by decide +kernel
theorem dX5_canBe_13 : decode cX5_canBe 13 = .ok (.invokevirtual 68, 3) := by decide +kernel
theorem dX5_canBe_16 : decode cX5_canBe 16 = .ok (.aload_n 0, 1) := by decide +kernel
theorem dX5_canBe_17 : decode cX5_canBe 17 = .ok (.getfield 49, 3) := by decide +kernel
theorem dX5_canBe_20 : decode cX5_canBe 20 = .ok (.getfield 152, 3) := by decide +kernel
theorem dX5_canBe_23 : decode cX5_canBe 23 = .ok (.invokestatic 233, 3) := by decide +kernel
theorem dX5_canBe_26 : decode cX5_canBe 26 = .ok (.aload_n 2, 1) := by decide +kernel
theorem dX5_canBe_27 : decode cX5_canBe 27 = .ok (.iload_n 3, 1) := by decide +kernel
theorem dX5_canBe_28 : decode cX5_canBe 28 = .ok (.iconst 1, 1) := by decide +kernel
theorem dX5_canBe_29 : decode cX5_canBe 29 = .ok (.iadd, 1) := by decide +kernel
theorem dX5_canBe_30 : decode cX5_canBe 30 = .ok (.invokevirtual 68, 3) := by decide +kernel
theorem dX5_canBe_33 : decode cX5_canBe 33 = .ok (.if_icmp .eq 5, 3) := by decide +kernel
theorem dX5_canBe_36 : decode cX5_canBe 36 = .ok (.iconst 0, 1) := by decide +kernel
theorem dX5_canBe_37 : decode cX5_canBe 37 = .ok (.ireturn, 1) := by decide +kernel
theorem dX5_canBe_38 : decode cX5_canBe 38 = .ok (.iinc 3 2, 3) := by decide +kernel
theorem dX5_canBe_41 : decode cX5_canBe 41 = .ok (.goto (-39), 3) := by decide +kernel
theorem dX5_canBe_44 : decode cX5_canBe 44 = .ok (.iconst 1, 1) := by decide +kernel
theorem dX5_canBe_45 : decode cX5_canBe 45 = .ok (.ireturn, 1) := by decide +kernel
theorem dX5_kindsBy_0 : decode cX5_kindsBy 0 = .ok (.iconst 0, 1) := by decide +kernel
theorem dX5_kindsBy_1 : decode cX5_kindsBy 1 = .ok (.istore_n 2, 1) := by decide +kernel
theorem dX5_kindsBy_2 : decode cX5_kindsBy 2 = .ok (.iconst 0, 1) := by decide +kernel
theorem dX5_kindsBy_3 : decode cX5_kindsBy 3 = .ok (.istore_n 3, 1) := by decide +kernel
theorem dX5_kindsBy_4 : decode cX5_kindsBy 4 = .ok (.iload_n 3, 1) := by decide +kernel
theorem dX5_kindsBy_5 : decode cX5_kindsBy 5 = .ok (.bipush 6, 2) := by decide +kernel
theorem dX5_kindsBy_7 : decode cX5_kindsBy 7 = .ok (.if_icmp .ge 24, 3) := by decide +kernel
theorem dX5_kindsBy_10 : decode cX5_kindsBy 10 = .ok (.aload_n 0, 1) := by decide +kernel
theorem dX5_kindsBy_11 : decode cX5_kindsBy 11 = .ok (.iload_n 3, 1) := by decide +kernel
theorem dX5_kindsBy_12 : decode cX5_kindsBy 12 = .ok (.aload_n 1, 1) := by decide +kernel
theorem dX5_kindsBy_13 : decode cX5_kindsBy 13 = .ok (.invokevirtual 236, 3) := by decide +kernel
theorem dX5_kindsBy_16 : decode cX5_kindsBy 16 = .ok (.ifCond .eq 9, 3) := by decide +kernel
theorem dX5_kindsBy_19 : decode cX5_kindsBy 19 = .ok (.iload_n 2, 1) := by decide +kernel
theorem dX5_kindsBy_20 : decode cX5_kindsBy 20 = .ok (.iconst 1, 1) := by decide +kernel
theorem dX5_kindsBy_21 : decode cX5_kindsBy 21 = .ok (.iload_n 3, 1) := by decide +kernel
theorem dX5_kindsBy_22 : decode cX5_kindsBy 22 = .ok (.ishl, 1) := by decide +kernel
theorem dX5_kindsBy_23 : decode cX5_kindsBy 23 = .ok (.ior, 1) := by decide +kernel
theorem dX5_kindsBy_24 : decode cX5_kindsBy 24 = .ok (.istore_n 2, 1) := by decide +kernel
theorem dX5_kindsBy_25 : decode cX5_kindsBy 25 = .ok (.iinc 3 1, 3) := by decide +kernel
theorem dX5_kindsBy_28 : decode cX5_kindsBy 28 = .ok (.goto (-24), 3) := by decide +kernel
theorem dX5_kindsBy_31 : decode cX5_kindsBy 31 = .ok (.iload_n 2, 1) := by decide +kernel
theorem dX5_kindsBy_32 : decode cX5_kindsBy 32 = .ok (.ireturn, 1) := by decide +kernel
theorem dX5_holds_0 : decode cX5_holds 0 = .ok (.iload_n 0, 1) := by decide +kernel
theorem dX5_holds_1 : decode cX5_holds 1 = .ok (.iload_n 1, 1) := by decide +kernel
theorem dX5_holds_2 : decode cX5_holds 2 = .ok (.ishr, 1) := by decide +kernel
theorem dX5_holds_3 : decode cX5_holds 3 = .ok (.iconst 1, 1) := by decide +kernel
theorem dX5_holds_4 : decode cX5_holds 4 = .ok (.iand, 1) := by decide +kernel
theorem dX5_holds_5 : decode cX5_holds 5 = .ok (.ifCond .eq 7, 3) := by decide +kernel
theorem dX5_holds_8 : decode cX5_holds 8 = .ok (.iconst 1, 1) := by decide +kernel
theorem dX5_holds_9 : decode cX5_holds 9 = .ok (.goto 4, 3) := by decide +kernel
theorem dX5_holds_12 : decode cX5_holds 12 = .ok (.iconst 0, 1) := by decide +kernel
theorem dX5_holds_13 : decode cX5_holds 13 = .ok (.ireturn, 1) := by decide +kernel
theorem dX5_partOf_0 : decode cX5_partOf 0 = .ok (.iconst 0, 1) := by decide +kernel
theorem dX5_partOf_1 : decode cX5_partOf 1 = .ok (.istore 4, 2) := by decide +kernel
theorem dX5_partOf_3 : decode cX5_partOf 3 = .ok (.iconst 0, 1) := by decide +kernel
theorem dX5_partOf_4 : decode cX5_partOf 4 = .ok (.istore 5, 2) := by decide +kernel
theorem dX5_partOf_6 : decode cX5_partOf 6 = .ok (.iload 5, 2) := by decide +kernel
theorem dX5_partOf_8 : decode cX5_partOf 8 = .ok (.bipush 6, 2) := by decide +kernel
theorem dX5_partOf_10 : decode cX5_partOf 10 = .ok (.if_icmp .ge 45, 3) := by decide +kernel
theorem dX5_partOf_13 : decode cX5_partOf 13 = .ok (.iload 4, 2) := by decide +kernel
theorem dX5_partOf_15 : decode cX5_partOf 15 = .ok (.iload_n 1, 1) := by decide +kernel
theorem dX5_partOf_16 : decode cX5_partOf 16 = .ok (.iload 5, 2) := by decide +kernel
theorem dX5_partOf_18 : decode cX5_partOf 18 = .ok (.invokestatic 240, 3) := by decide +kernel
theorem dX5_partOf_21 : decode cX5_partOf 21 = .ok (.ifCond .eq 24, 3) := by decide +kernel
theorem dX5_partOf_24 : decode cX5_partOf 24 = .ok (.iload 5, 2) := by decide +kernel
theorem dX5_partOf_26 : decode cX5_partOf 26 = .ok (.iload_n 2, 1) := by decide +kernel
theorem dX5_partOf_27 : decode cX5_partOf 27 = .ok (.aload_n 0, 1) := by decide +kernel
theorem dX5_partOf_28 : decode cX5_partOf 28 = .ok (.getfield 49, 3) := by decide +kernel
theorem dX5_partOf_31 : decode cX5_partOf 31 = .ok (.getfield 152, 3) := by decide +kernel
theorem dX5_partOf_34 : decode cX5_partOf 34 = .ok (.invokestatic 233, 3) := by decide +kernel
theorem dX5_partOf_37 : decode cX5_partOf 37 = .ok (.iload_n 3, 1) := by decide +kernel
theorem dX5_partOf_38 : decode cX5_partOf 38 = .ok (.if_icmp .ne 7, 3) := by decide +kernel
theorem dX5_partOf_41 : decode cX5_partOf 41 = .ok (.iconst 1, 1) := by decide +kernel
theorem dX5_partOf_42 : decode cX5_partOf 42 = .ok (.goto 4, 3) := by decide +kernel
theorem dX5_partOf_45 : decode cX5_partOf 45 = .ok (.iconst 0, 1) := by decide +kernel
theorem dX5_partOf_46 : decode cX5_partOf 46 = .ok (.iadd, 1) := by decide +kernel
theorem dX5_partOf_47 : decode cX5_partOf 47 = .ok (.istore 4, 2) := by decide +kernel
theorem dX5_partOf_49 : decode cX5_partOf 49 = .ok (.iinc 5 1, 3) := by decide +kernel
theorem dX5_partOf_52 : decode cX5_partOf 52 = .ok (.goto (-46), 3) := by decide +kernel
theorem dX5_partOf_55 : decode cX5_partOf 55 = .ok (.iload 4, 2) := by decide +kernel
theorem dX5_partOf_57 : decode cX5_partOf 57 = .ok (.ireturn, 1) := by decide +kernel
theorem dX5_greatestPart_0 : decode cX5_greatestPart 0 = .ok (.iconst 0, 1) := by decide +kernel
theorem dX5_greatestPart_1 : decode cX5_greatestPart 1 = .ok (.istore_n 3, 1) := by decide +kernel
theorem dX5_greatestPart_2 : decode cX5_greatestPart 2 = .ok (.iconst 0, 1) := by decide +kernel
theorem dX5_greatestPart_3 : decode cX5_greatestPart 3 = .ok (.istore 4, 2) := by decide +kernel
theorem dX5_greatestPart_5 : decode cX5_greatestPart 5 = .ok (.iload 4, 2) := by decide +kernel
theorem dX5_greatestPart_7 : decode cX5_greatestPart 7 = .ok (.bipush 6, 2) := by decide +kernel
theorem dX5_greatestPart_9 : decode cX5_greatestPart 9 = .ok (.if_icmp .ge 46, 3) := by decide +kernel
theorem dX5_greatestPart_12 : decode cX5_greatestPart 12 = .ok (.iload_n 1, 1) := by decide +kernel
theorem dX5_greatestPart_13 : decode cX5_greatestPart 13 = .ok (.iload 4, 2) := by decide +kernel
theorem dX5_greatestPart_15 : decode cX5_greatestPart 15 = .ok (.invokestatic 240, 3) := by decide +kernel
theorem dX5_greatestPart_18 : decode cX5_greatestPart 18 = .ok (.ifCond .eq 31, 3) := by decide +kernel
theorem dX5_greatestPart_21 : decode cX5_greatestPart 21 = .ok (.iload 4, 2) := by decide +kernel
theorem dX5_greatestPart_23 : decode cX5_greatestPart 23 = .ok (.iload_n 2, 1) := by decide +kernel
theorem dX5_greatestPart_24 : decode cX5_greatestPart 24 = .ok (.aload_n 0, 1) := by decide +kernel
theorem dX5_greatestPart_25 : decode cX5_greatestPart 25 = .ok (.getfield 49, 3) := by decide +kernel
theorem dX5_greatestPart_28 : decode cX5_greatestPart 28 = .ok (.getfield 152, 3) := by decide +kernel
theorem dX5_greatestPart_31 : decode cX5_greatestPart 31 = .ok (.invokestatic 233, 3) := by decide +kernel
theorem dX5_greatestPart_34 : decode cX5_greatestPart 34 = .ok (.istore 5, 2) := by decide +kernel
theorem dX5_greatestPart_36 : decode cX5_greatestPart 36 = .ok (.iload_n 3, 1) := by decide +kernel
theorem dX5_greatestPart_37 : decode cX5_greatestPart 37 = .ok (.aload_n 0, 1) := by decide +kernel
theorem dX5_greatestPart_38 : decode cX5_greatestPart 38 = .ok (.iload_n 1, 1) := by decide +kernel
theorem dX5_greatestPart_39 : decode cX5_greatestPart 39 = .ok (.iload_n 2, 1) := by decide +kernel
theorem dX5_greatestPart_40 : decode cX5_greatestPart 40 = .ok (.iload 5, 2) := by decide +kernel
theorem dX5_greatestPart_42 : decode cX5_greatestPart 42 = .ok (.invokevirtual 243, 3) := by decide +kernel
theorem dX5_greatestPart_45 : decode cX5_greatestPart 45 = .ok (.invokestatic 79, 3) := by decide +kernel
theorem dX5_greatestPart_48 : decode cX5_greatestPart 48 = .ok (.istore_n 3, 1) := by decide +kernel
theorem dX5_greatestPart_49 : decode cX5_greatestPart 49 = .ok (.iinc 4 1, 3) := by decide +kernel
theorem dX5_greatestPart_52 : decode cX5_greatestPart 52 = .ok (.goto (-47), 3) := by decide +kernel
theorem dX5_greatestPart_55 : decode cX5_greatestPart 55 = .ok (.iload_n 3, 1) := by decide +kernel
theorem dX5_greatestPart_56 : decode cX5_greatestPart 56 = .ok (.ireturn, 1) := by decide +kernel
theorem dX5_whose_0 : decode cX5_whose 0 = .ok (.aload_n 0, 1) := by decide +kernel
theorem dX5_whose_1 : decode cX5_whose 1 = .ok (.getfield 13, 3) := by decide +kernel
theorem dX5_whose_4 : decode cX5_whose 4 = .ok (.iload_n 1, 1) := by decide +kernel
theorem dX5_whose_5 : decode cX5_whose 5 = .ok (.invokestatic 99, 3) := by decide +kernel
theorem dX5_whose_8 : decode cX5_whose 8 = .ok (.astore_n 2, 1) := by decide +kernel
theorem dX5_whose_9 : decode cX5_whose 9 = .ok (.aload_n 0, 1) := by decide +kernel
theorem dX5_whose_10 : decode cX5_whose 10 = .ok (.aload_n 2, 1) := by decide +kernel
theorem dX5_whose_11 : decode cX5_whose 11 = .ok (.invokevirtual 246, 3) := by decide +kernel
theorem dX5_whose_14 : decode cX5_whose 14 = .ok (.istore_n 3, 1) := by decide +kernel
theorem dX5_whose_15 : decode cX5_whose 15 = .ok (.aload_n 2, 1) := by decide +kernel
theorem dX5_whose_16 : decode cX5_whose 16 = .ok (.ifnull 7, 3) := by decide +kernel
theorem dX5_whose_19 : decode cX5_whose 19 = .ok (.iload_n 3, 1) := by decide +kernel
theorem dX5_whose_20 : decode cX5_whose 20 = .ok (.ifCond .eq 5, 3) := by decide +kernel
theorem dX5_whose_23 : decode cX5_whose 23 = .ok (.iload_n 3, 1) := by decide +kernel
theorem dX5_whose_24 : decode cX5_whose 24 = .ok (.ireturn, 1) := by decide +kernel
theorem dX5_whose_25 : decode cX5_whose 25 = .ok (.iconst 0, 1) := by decide +kernel
theorem dX5_whose_26 : decode cX5_whose 26 = .ok (.istore 4, 2) := by decide +kernel
theorem dX5_whose_28 : decode cX5_whose 28 = .ok (.iconst 0, 1) := by decide +kernel
theorem dX5_whose_29 : decode cX5_whose 29 = .ok (.istore 5, 2) := by decide +kernel
theorem dX5_whose_31 : decode cX5_whose 31 = .ok (.iload 5, 2) := by decide +kernel
theorem dX5_whose_33 : decode cX5_whose 33 = .ok (.aload_n 0, 1) := by decide +kernel
theorem dX5_whose_34 : decode cX5_whose 34 = .ok (.getfield 49, 3) := by decide +kernel
theorem dX5_whose_37 : decode cX5_whose 37 = .ok (.getfield 131, 3) := by decide +kernel
theorem dX5_whose_40 : decode cX5_whose 40 = .ok (.if_icmp .ge 38, 3) := by decide +kernel
theorem dX5_whose_43 : decode cX5_whose 43 = .ok (.aload_n 0, 1) := by decide +kernel
theorem dX5_whose_44 : decode cX5_whose 44 = .ok (.aload_n 0, 1) := by decide +kernel
theorem dX5_whose_45 : decode cX5_whose 45 = .ok (.getfield 49, 3) := by decide +kernel
theorem dX5_whose_48 : decode cX5_whose 48 = .ok (.getfield 138, 3) := by decide +kernel
theorem dX5_whose_51 : decode cX5_whose 51 = .ok (.iload 5, 2) := by decide +kernel
theorem dX5_whose_53 : decode cX5_whose 53 = .ok (.invokevirtual 68, 3) := by decide +kernel
theorem dX5_whose_56 : decode cX5_whose 56 = .ok (.aload_n 2, 1) := by decide +kernel
theorem dX5_whose_57 : decode cX5_whose 57 = .ok (.invokevirtual 236, 3) := by decide +kernel
theorem dX5_whose_60 : decode cX5_whose 60 = .ok (.ifCond .eq 12, 3) := by decide +kernel
theorem dX5_whose_63 : decode cX5_whose 63 = .ok (.iload 4, 2) := by decide +kernel
theorem dX5_whose_65 : decode cX5_whose 65 = .ok (.iconst 1, 1) := by decide +kernel
theorem dX5_whose_66 : decode cX5_whose 66 = .ok (.iload 5, 2) := by decide +kernel
theorem dX5_whose_68 : decode cX5_whose 68 = .ok (.ishl, 1) := by decide +kernel
theorem dX5_whose_69 : decode cX5_whose 69 = .ok (.ior, 1) := by decide +kernel
theorem dX5_whose_70 : decode cX5_whose 70 = .ok (.istore 4, 2) := by decide +kernel
theorem dX5_whose_72 : decode cX5_whose 72 = .ok (.iinc 5 1, 3) := by decide +kernel
theorem dX5_whose_75 : decode cX5_whose 75 = .ok (.goto (-44), 3) := by decide +kernel
theorem dX5_whose_78 : decode cX5_whose 78 = .ok (.iload 4, 2) := by decide +kernel
theorem dX5_whose_80 : decode cX5_whose 80 = .ok (.ireturn, 1) := by decide +kernel
theorem dX5_kinds_0 : decode cX5_kinds 0 = .ok (.aload_n 0, 1) := by decide +kernel
theorem dX5_kinds_1 : decode cX5_kinds 1 = .ok (.getfield 13, 3) := by decide +kernel
theorem dX5_kinds_4 : decode cX5_kinds 4 = .ok (.iload_n 1, 1) := by decide +kernel
theorem dX5_kinds_5 : decode cX5_kinds 5 = .ok (.invokestatic 99, 3) := by decide +kernel
theorem dX5_kinds_8 : decode cX5_kinds 8 = .ok (.astore_n 2, 1) := by decide +kernel
theorem dX5_kinds_9 : decode cX5_kinds 9 = .ok (.aload_n 0, 1) := by decide +kernel
theorem dX5_kinds_10 : decode cX5_kinds 10 = .ok (.aload_n 2, 1) := by decide +kernel
theorem dX5_kinds_11 : decode cX5_kinds 11 = .ok (.invokevirtual 246, 3) := by decide +kernel
theorem dX5_kinds_14 : decode cX5_kinds 14 = .ok (.istore_n 3, 1) := by decide +kernel
theorem dX5_kinds_15 : decode cX5_kinds 15 = .ok (.aload_n 2, 1) := by decide +kernel
theorem dX5_kinds_16 : decode cX5_kinds 16 = .ok (.ifnull 7, 3) := by decide +kernel
theorem dX5_kinds_19 : decode cX5_kinds 19 = .ok (.iload_n 3, 1) := by decide +kernel
theorem dX5_kinds_20 : decode cX5_kinds 20 = .ok (.ifCond .eq 5, 3) := by decide +kernel
theorem dX5_kinds_23 : decode cX5_kinds 23 = .ok (.iload_n 3, 1) := by decide +kernel
theorem dX5_kinds_24 : decode cX5_kinds 24 = .ok (.ireturn, 1) := by decide +kernel
theorem dX5_kinds_25 : decode cX5_kinds 25 = .ok (.aload_n 0, 1) := by decide +kernel
theorem dX5_kinds_26 : decode cX5_kinds 26 = .ok (.aload_n 2, 1) := by decide +kernel
theorem dX5_kinds_27 : decode cX5_kinds 27 = .ok (.invokevirtual 249, 3) := by decide +kernel
theorem dX5_kinds_30 : decode cX5_kinds 30 = .ok (.ireturn, 1) := by decide +kernel
theorem dX5_test_0 : decode cX5_test 0 = .ok (.aload_n 0, 1) := by decide +kernel
theorem dX5_test_1 : decode cX5_test 1 = .ok (.getfield 13, 3) := by decide +kernel
theorem dX5_test_4 : decode cX5_test 4 = .ok (.iload_n 1, 1) := by decide +kernel
theorem dX5_test_5 : decode cX5_test 5 = .ok (.invokestatic 99, 3) := by decide +kernel
theorem dX5_test_8 : decode cX5_test 8 = .ok (.astore_n 2, 1) := by decide +kernel
theorem dX5_test_9 : decode cX5_test 9 = .ok (.aload_n 0, 1) := by decide +kernel
theorem dX5_test_10 : decode cX5_test 10 = .ok (.aload_n 2, 1) := by decide +kernel
theorem dX5_test_11 : decode cX5_test 11 = .ok (.invokevirtual 246, 3) := by decide +kernel
theorem dX5_test_14 : decode cX5_test 14 = .ok (.istore_n 3, 1) := by decide +kernel
theorem dX5_test_15 : decode cX5_test 15 = .ok (.aload_n 2, 1) := by decide +kernel
theorem dX5_test_16 : decode cX5_test 16 = .ok (.ifnull 7, 3) := by decide +kernel
theorem dX5_test_19 : decode cX5_test 19 = .ok (.iload_n 3, 1) := by decide +kernel
theorem dX5_test_20 : decode cX5_test 20 = .ok (.ifCond .eq 5, 3) := by decide +kernel
theorem dX5_test_23 : decode cX5_test 23 = .ok (.iload_n 3, 1) := by decide +kernel
theorem dX5_test_24 : decode cX5_test 24 = .ok (.ireturn, 1) := by decide +kernel
theorem dX5_test_25 : decode cX5_test 25 = .ok (.aload_n 0, 1) := by decide +kernel
theorem dX5_test_26 : decode cX5_test 26 = .ok (.aload_n 2, 1) := by decide +kernel
theorem dX5_test_27 : decode cX5_test 27 = .ok (.invokevirtual 249, 3) := by decide +kernel
theorem dX5_test_30 : decode cX5_test 30 = .ok (.istore 4, 2) := by decide +kernel
theorem dX5_test_32 : decode cX5_test 32 = .ok (.iload 4, 2) := by decide +kernel
theorem dX5_test_34 : decode cX5_test 34 = .ok (.ifCond .ne 6, 3) := by decide +kernel
theorem dX5_test_37 : decode cX5_test 37 = .ok (.bipush (-9), 2) := by decide +kernel
theorem dX5_test_39 : decode cX5_test 39 = .ok (.ireturn, 1) := by decide +kernel
theorem dX5_test_40 : decode cX5_test 40 = .ok (.iconst 0, 1) := by decide +kernel
theorem dX5_test_41 : decode cX5_test 41 = .ok (.istore 5, 2) := by decide +kernel
theorem dX5_test_43 : decode cX5_test 43 = .ok (.aload_n 0, 1) := by decide +kernel
theorem dX5_test_44 : decode cX5_test 44 = .ok (.iload 4, 2) := by decide +kernel
theorem dX5_test_46 : decode cX5_test 46 = .ok (.iconst 0, 1) := by decide +kernel
theorem dX5_test_47 : decode cX5_test 47 = .ok (.invokevirtual 252, 3) := by decide +kernel
theorem dX5_test_50 : decode cX5_test 50 = .ok (.istore 6, 2) := by decide +kernel
theorem dX5_test_52 : decode cX5_test 52 = .ok (.iconst 1, 1) := by decide +kernel
theorem dX5_test_53 : decode cX5_test 53 = .ok (.istore 7, 2) := by decide +kernel
theorem dX5_test_55 : decode cX5_test 55 = .ok (.iload 7, 2) := by decide +kernel
theorem dX5_test_57 : decode cX5_test 57 = .ok (.bipush 99, 2) := by decide +kernel
theorem dX5_test_59 : decode cX5_test 59 = .ok (.if_icmp .gt 34, 3) := by decide +kernel
theorem dX5_test_62 : decode cX5_test 62 = .ok (.aload_n 0, 1) := by decide +kernel
theorem dX5_test_63 : decode cX5_test 63 = .ok (.iload 4, 2) := by decide +kernel
theorem dX5_test_65 : decode cX5_test 65 = .ok (.iload 7, 2) := by decide +kernel
theorem dX5_test_67 : decode cX5_test 67 = .ok (.invokevirtual 252, 3) := by decide +kernel
theorem dX5_test_70 : decode cX5_test 70 = .ok (.istore 8, 2) := by decide +kernel
theorem dX5_test_72 : decode cX5_test 72 = .ok (.iload 8, 2) := by decide +kernel
theorem dX5_test_74 : decode cX5_test 74 = .ok (.iload 6, 2) := by decide +kernel
theorem dX5_test_76 : decode cX5_test 76 = .ok (.if_icmp .ge 11, 3) := by decide +kernel
theorem dX5_test_79 : decode cX5_test 79 = .ok (.iload 8, 2) := by decide +kernel
theorem dX5_test_81 : decode cX5_test 81 = .ok (.istore 6, 2) := by decide +kernel
theorem dX5_test_83 : decode cX5_test 83 = .ok (.iload 7, 2) := by decide +kernel
theorem dX5_test_85 : decode cX5_test 85 = .ok (.istore 5, 2) := by decide +kernel
theorem dX5_test_87 : decode cX5_test 87 = .ok (.iinc 7 1, 3) := by decide +kernel
theorem dX5_test_90 : decode cX5_test 90 = .ok (.goto (-35), 3) := by decide +kernel
theorem dX5_test_93 : decode cX5_test 93 = .ok (.aload_n 0, 1) := by decide +kernel
theorem dX5_test_94 : decode cX5_test 94 = .ok (.iload 6, 2) := by decide +kernel
theorem dX5_test_96 : decode cX5_test 96 = .ok (.putfield 107, 3) := by decide +kernel
theorem dX5_test_99 : decode cX5_test 99 = .ok (.iload 5, 2) := by decide +kernel
theorem dX5_test_101 : decode cX5_test 101 = .ok (.ireturn, 1) := by decide +kernel
theorem dX5_sets_0 : decode cX5_sets 0 = .ok (.iload_n 1, 1) := by decide +kernel
theorem dX5_sets_1 : decode cX5_sets 1 = .ok (.iconst 0, 1) := by decide +kernel
theorem dX5_sets_2 : decode cX5_sets 2 = .ok (.bipush 99, 2) := by decide +kernel
theorem dX5_sets_4 : decode cX5_sets 4 = .ok (.invokestatic 75, 3) := by decide +kernel
theorem dX5_sets_7 : decode cX5_sets 7 = .ok (.ifCond .ne 5, 3) := by decide +kernel
theorem dX5_sets_10 : decode cX5_sets 10 = .ok (.iconst (-1), 1) := by decide +kernel
theorem dX5_sets_11 : decode cX5_sets 11 = .ok (.ireturn, 1) := by decide +kernel
theorem dX5_sets_12 : decode cX5_sets 12 = .ok (.aload_n 0, 1) := by decide +kernel
theorem dX5_sets_13 : decode cX5_sets 13 = .ok (.getfield 49, 3) := by decide +kernel
theorem dX5_sets_16 : decode cX5_sets 16 = .ok (.getfield 131, 3) := by decide +kernel
theorem dX5_sets_19 : decode cX5_sets 19 = .ok (.ifCond .ne 6, 3) := by decide +kernel
theorem dX5_sets_22 : decode cX5_sets 22 = .ok (.bipush (-4), 2) := by decide +kernel
theorem dX5_sets_24 : decode cX5_sets 24 = .ok (.ireturn, 1) := by decide +kernel
theorem dX5_sets_25 : decode cX5_sets 25 = .ok (.bipush (-9), 2) := by decide +kernel
theorem dX5_sets_27 : decode cX5_sets 27 = .ok (.istore_n 2, 1) := by decide +kernel
theorem dX5_sets_28 : decode cX5_sets 28 = .ok (.iconst 0, 1) := by decide +kernel
theorem dX5_sets_29 : decode cX5_sets 29 = .ok (.istore_n 3, 1) := by decide +kernel
theorem dX5_sets_30 : decode cX5_sets 30 = .ok (.iconst 0, 1) := by decide +kernel
theorem dX5_sets_31 : decode cX5_sets 31 = .ok (.istore 4, 2) := by decide +kernel
theorem dX5_sets_33 : decode cX5_sets 33 = .ok (.iload 4, 2) := by decide +kernel
theorem dX5_sets_35 : decode cX5_sets 35 = .ok (.iconst 1, 1) := by decide +kernel
theorem dX5_sets_36 : decode cX5_sets 36 = .ok (.aload_n 0, 1) := by decide +kernel
theorem dX5_sets_37 : decode cX5_sets 37 = .ok (.getfield 49, 3) := by decide +kernel
theorem dX5_sets_40 : decode cX5_sets 40 = .ok (.getfield 131, 3) := by decide +kernel
theorem dX5_sets_43 : decode cX5_sets 43 = .ok (.ishl, 1) := by decide +kernel
theorem dX5_sets_44 : decode cX5_sets 44 = .ok (.if_icmp .ge 36, 3) := by decide +kernel
theorem dX5_sets_47 : decode cX5_sets 47 = .ok (.aload_n 0, 1) := by decide +kernel
theorem dX5_sets_48 : decode cX5_sets 48 = .ok (.getfield 49, 3) := by decide +kernel
theorem dX5_sets_51 : decode cX5_sets 51 = .ok (.iload 4, 2) := by decide +kernel
theorem dX5_sets_53 : decode cX5_sets 53 = .ok (.invokevirtual 255, 3) := by decide +kernel
theorem dX5_sets_56 : decode cX5_sets 56 = .ok (.iload_n 1, 1) := by decide +kernel
theorem dX5_sets_57 : decode cX5_sets 57 = .ok (.if_icmp .ne 17, 3) := by decide +kernel
theorem dX5_sets_60 : decode cX5_sets 60 = .ok (.iload_n 3, 1) := by decide +kernel
theorem dX5_sets_61 : decode cX5_sets 61 = .ok (.ifCond .ne 8, 3) := by decide +kernel
theorem dX5_sets_64 : decode cX5_sets 64 = .ok (.iload 4, 2) := by decide +kernel
theorem dX5_sets_66 : decode cX5_sets 66 = .ok (.goto 4, 3) := by decide +kernel
theorem dX5_sets_69 : decode cX5_sets 69 = .ok (.iload_n 2, 1) := by decide +kernel
theorem dX5_sets_70 : decode cX5_sets 70 = .ok (.istore_n 2, 1) := by decide +kernel
theorem dX5_sets_71 : decode cX5_sets 71 = .ok (.iinc 3 1, 3) := by decide +kernel
theorem dX5_sets_74 : decode cX5_sets 74 = .ok (.iinc 4 1, 3) := by decide +kernel
theorem dX5_sets_77 : decode cX5_sets 77 = .ok (.goto (-44), 3) := by decide +kernel
theorem dX5_sets_80 : decode cX5_sets 80 = .ok (.aload_n 0, 1) := by decide +kernel
theorem dX5_sets_81 : decode cX5_sets 81 = .ok (.iload_n 2, 1) := by decide +kernel
theorem dX5_sets_82 : decode cX5_sets 82 = .ok (.putfield 107, 3) := by decide +kernel
theorem dX5_sets_85 : decode cX5_sets 85 = .ok (.aload_n 0, 1) := by decide +kernel
theorem dX5_sets_86 : decode cX5_sets 86 = .ok (.iload_n 3, 1) := by decide +kernel
theorem dX5_sets_87 : decode cX5_sets 87 = .ok (.i2l, 1) := by decide +kernel
theorem dX5_sets_88 : decode cX5_sets 88 = .ok (.lconst 1, 1) := by decide +kernel
theorem dX5_sets_89 : decode cX5_sets 89 = .ok (.invokevirtual 258, 3) := by decide +kernel
theorem dX5_sets_92 : decode cX5_sets 92 = .ok (.iconst 1, 1) := by decide +kernel
theorem dX5_sets_93 : decode cX5_sets 93 = .ok (.ireturn, 1) := by decide +kernel
theorem dX5_sure_0 : decode cX5_sure 0 = .ok (.iload_n 1, 1) := by decide +kernel
theorem dX5_sure_1 : decode cX5_sure 1 = .ok (.iconst 0, 1) := by decide +kernel
theorem dX5_sure_2 : decode cX5_sure 2 = .ok (.bipush 99, 2) := by decide +kernel
theorem dX5_sure_4 : decode cX5_sure 4 = .ok (.invokestatic 75, 3) := by decide +kernel
theorem dX5_sure_7 : decode cX5_sure 7 = .ok (.ifCond .ne 5, 3) := by decide +kernel
theorem dX5_sure_10 : decode cX5_sure 10 = .ok (.iconst (-1), 1) := by decide +kernel
theorem dX5_sure_11 : decode cX5_sure 11 = .ok (.ireturn, 1) := by decide +kernel
theorem dX5_sure_12 : decode cX5_sure 12 = .ok (.aload_n 0, 1) := by decide +kernel
theorem dX5_sure_13 : decode cX5_sure 13 = .ok (.getfield 49, 3) := by decide +kernel
theorem dX5_sure_16 : decode cX5_sure 16 = .ok (.getfield 131, 3) := by decide +kernel
theorem dX5_sure_19 : decode cX5_sure 19 = .ok (.ifCond .ne 6, 3) := by decide +kernel
theorem dX5_sure_22 : decode cX5_sure 22 = .ok (.bipush (-4), 2) := by decide +kernel
theorem dX5_sure_24 : decode cX5_sure 24 = .ok (.ireturn, 1) := by decide +kernel
theorem dX5_sure_25 : decode cX5_sure 25 = .ok (.iconst 1, 1) := by decide +kernel
theorem dX5_sure_26 : decode cX5_sure 26 = .ok (.aload_n 0, 1) := by decide +kernel
theorem dX5_sure_27 : decode cX5_sure 27 = .ok (.getfield 49, 3) := by decide +kernel
theorem dX5_sure_30 : decode cX5_sure 30 = .ok (.getfield 131, 3) := by decide +kernel
theorem dX5_sure_33 : decode cX5_sure 33 = .ok (.ishl, 1) := by decide +kernel
theorem dX5_sure_34 : decode cX5_sure 34 = .ok (.iconst 1, 1) := by decide +kernel
theorem dX5_sure_35 : decode cX5_sure 35 = .ok (.isub, 1) := by decide +kernel
theorem dX5_sure_36 : decode cX5_sure 36 = .ok (.istore_n 2, 1) := by decide +kernel
theorem dX5_sure_37 : decode cX5_sure 37 = .ok (.iload_n 2, 1) := by decide +kernel
theorem dX5_sure_38 : decode cX5_sure 38 = .ok (.istore_n 3, 1) := by decide +kernel
theorem dX5_sure_39 : decode cX5_sure 39 = .ok (.iconst 0, 1) := by decide +kernel
theorem dX5_sure_40 : decode cX5_sure 40 = .ok (.istore 4, 2) := by decide +kernel
theorem dX5_sure_42 : decode cX5_sure 42 = .ok (.iconst 0, 1) := by decide +kernel
theorem dX5_sure_43 : decode cX5_sure 43 = .ok (.istore 5, 2) := by decide +kernel
theorem dX5_sure_45 : decode cX5_sure 45 = .ok (.iconst 0, 1) := by decide +kernel
theorem dX5_sure_46 : decode cX5_sure 46 = .ok (.istore 6, 2) := by decide +kernel
theorem dX5_sure_48 : decode cX5_sure 48 = .ok (.iload 6, 2) := by decide +kernel
theorem dX5_sure_50 : decode cX5_sure 50 = .ok (.iload_n 2, 1) := by decide +kernel
theorem dX5_sure_51 : decode cX5_sure 51 = .ok (.if_icmp .gt 37, 3) := by decide +kernel
theorem dX5_sure_54 : decode cX5_sure 54 = .ok (.aload_n 0, 1) := by decide +kernel
theorem dX5_sure_55 : decode cX5_sure 55 = .ok (.getfield 49, 3) := by decide +kernel
theorem dX5_sure_58 : decode cX5_sure 58 = .ok (.iload 6, 2) := by decide +kernel
theorem dX5_sure_60 : decode cX5_sure 60 = .ok (.invokevirtual 255, 3) := by decide +kernel
theorem dX5_sure_63 : decode cX5_sure 63 = .ok (.iload_n 1, 1) := by decide +kernel
theorem dX5_sure_64 : decode cX5_sure 64 = .ok (.if_icmp .ne 18, 3) := by decide +kernel
theorem dX5_sure_67 : decode cX5_sure 67 = .ok (.iload_n 3, 1) := by decide +kernel
theorem dX5_sure_68 : decode cX5_sure 68 = .ok (.iload 6, 2) := by decide +kernel
theorem dX5_sure_70 : decode cX5_sure 70 = .ok (.iand, 1) := by decide +kernel
theorem dX5_sure_71 : decode cX5_sure 71 = .ok (.istore_n 3, 1) := by decide +kernel
theorem dX5_sure_72 : decode cX5_sure 72 = .ok (.iload 4, 2) := by decide +kernel
theorem dX5_sure_74 : decode cX5_sure 74 = .ok (.iload 6, 2) := by decide +kernel
theorem dX5_sure_76 : decode cX5_sure 76 = .ok (.ior, 1) := by decide +kernel
theorem dX5_sure_77 : decode cX5_sure 77 = .ok (.istore 4, 2) := by decide +kernel
theorem dX5_sure_79 : decode cX5_sure 79 = .ok (.iinc 5 1, 3) := by decide +kernel
theorem dX5_sure_82 : decode cX5_sure 82 = .ok (.iinc 6 1, 3) := by decide +kernel
theorem dX5_sure_85 : decode cX5_sure 85 = .ok (.goto (-37), 3) := by decide +kernel
theorem dX5_sure_88 : decode cX5_sure 88 = .ok (.iload 5, 2) := by decide +kernel
theorem dX5_sure_90 : decode cX5_sure 90 = .ok (.ifCond .ne 9, 3) := by decide +kernel
theorem dX5_sure_93 : decode cX5_sure 93 = .ok (.aload_n 0, 1) := by decide +kernel
theorem dX5_sure_94 : decode cX5_sure 94 = .ok (.iconst 4, 1) := by decide +kernel
theorem dX5_sure_95 : decode cX5_sure 95 = .ok (.invokevirtual 88, 3) := by decide +kernel
theorem dX5_sure_98 : decode cX5_sure 98 = .ok (.ireturn, 1) := by decide +kernel
theorem dX5_sure_99 : decode cX5_sure 99 = .ok (.aload_n 0, 1) := by decide +kernel
theorem dX5_sure_100 : decode cX5_sure 100 = .ok (.iload_n 2, 1) := by decide +kernel
theorem dX5_sure_101 : decode cX5_sure 101 = .ok (.iload 4, 2) := by decide +kernel
theorem dX5_sure_103 : decode cX5_sure 103 = .ok (.iconst (-1), 1) := by decide +kernel
theorem dX5_sure_104 : decode cX5_sure 104 = .ok (.ixor, 1) := by decide +kernel
theorem dX5_sure_105 : decode cX5_sure 105 = .ok (.iand, 1) := by decide +kernel
theorem dX5_sure_106 : decode cX5_sure 106 = .ok (.putfield 107, 3) := by decide +kernel
theorem dX5_sure_109 : decode cX5_sure 109 = .ok (.iload_n 3, 1) := by decide +kernel
theorem dX5_sure_110 : decode cX5_sure 110 = .ok (.ireturn, 1) := by decide +kernel
theorem dX5_duel_0 : decode cX5_duel 0 = .ok (.iload_n 1, 1) := by decide +kernel
theorem dX5_duel_1 : decode cX5_duel 1 = .ok (.iconst 0, 1) := by decide +kernel
theorem dX5_duel_2 : decode cX5_duel 2 = .ok (.iconst 3, 1) := by decide +kernel
theorem dX5_duel_3 : decode cX5_duel 3 = .ok (.invokestatic 75, 3) := by decide +kernel
theorem dX5_duel_6 : decode cX5_duel 6 = .ok (.ifCond .ne 5, 3) := by decide +kernel
theorem dX5_duel_9 : decode cX5_duel 9 = .ok (.iconst (-1), 1) := by decide +kernel
theorem dX5_duel_10 : decode cX5_duel 10 = .ok (.ireturn, 1) := by decide +kernel
theorem dX5_duel_11 : decode cX5_duel 11 = .ok (.aload_n 0, 1) := by decide +kernel
theorem dX5_duel_12 : decode cX5_duel 12 = .ok (.getfield 49, 3) := by decide +kernel
theorem dX5_duel_15 : decode cX5_duel 15 = .ok (.getfield 131, 3) := by decide +kernel
theorem dX5_duel_18 : decode cX5_duel 18 = .ok (.ifCond .ne 6, 3) := by decide +kernel
theorem dX5_duel_21 : decode cX5_duel 21 = .ok (.bipush (-4), 2) := by decide +kernel
theorem dX5_duel_23 : decode cX5_duel 23 = .ok (.ireturn, 1) := by decide +kernel
theorem dX5_duel_24 : decode cX5_duel 24 = .ok (.aload_n 0, 1) := by decide +kernel
theorem dX5_duel_25 : decode cX5_duel 25 = .ok (.aload_n 0, 1) := by decide +kernel
theorem dX5_duel_26 : decode cX5_duel 26 = .ok (.getfield 49, 3) := by decide +kernel
theorem dX5_duel_29 : decode cX5_duel 29 = .ok (.iconst 0, 1) := by decide +kernel
theorem dX5_duel_30 : decode cX5_duel 30 = .ok (.iload_n 1, 1) := by decide +kernel
theorem dX5_duel_31 : decode cX5_duel 31 = .ok (.invokevirtual 262, 3) := by decide +kernel
theorem dX5_duel_34 : decode cX5_duel 34 = .ok (.aload_n 0, 1) := by decide +kernel
theorem dX5_duel_35 : decode cX5_duel 35 = .ok (.getfield 49, 3) := by decide +kernel
theorem dX5_duel_38 : decode cX5_duel 38 = .ok (.iconst 1, 1) := by decide +kernel
theorem dX5_duel_39 : decode cX5_duel 39 = .ok (.iload_n 1, 1) := by decide +kernel
theorem dX5_duel_40 : decode cX5_duel 40 = .ok (.invokevirtual 262, 3) := by decide +kernel
theorem dX5_duel_43 : decode cX5_duel 43 = .ok (.isub, 1) := by decide +kernel
theorem dX5_duel_44 : decode cX5_duel 44 = .ok (.putfield 107, 3) := by decide +kernel
theorem dX5_duel_47 : decode cX5_duel 47 = .ok (.iconst 1, 1) := by decide +kernel
theorem dX5_duel_48 : decode cX5_duel 48 = .ok (.ireturn, 1) := by decide +kernel
theorem dX5_power_0 : decode cX5_power 0 = .ok (.lconst 1, 1) := by decide +kernel
theorem dX5_power_1 : decode cX5_power 1 = .ok (.lstore_n 3, 1) := by decide +kernel
theorem dX5_power_2 : decode cX5_power 2 = .ok (.iconst 0, 1) := by decide +kernel
theorem dX5_power_3 : decode cX5_power 3 = .ok (.istore 5, 2) := by decide +kernel
theorem dX5_power_5 : decode cX5_power 5 = .ok (.iload 5, 2) := by decide +kernel
theorem dX5_power_7 : decode cX5_power 7 = .ok (.iload_n 2, 1) := by decide +kernel
theorem dX5_power_8 : decode cX5_power 8 = .ok (.if_icmp .ge 13, 3) := by decide +kernel
theorem dX5_power_11 : decode cX5_power 11 = .ok (.lload_n 3, 1) := by decide +kernel
theorem dX5_power_12 : decode cX5_power 12 = .ok (.lload_n 0, 1) := by decide +kernel
theorem dX5_power_13 : decode cX5_power 13 = .ok (.lmul, 1) := by decide +kernel
theorem dX5_power_14 : decode cX5_power 14 = .ok (.lstore_n 3, 1) := by decide +kernel
theorem dX5_power_15 : decode cX5_power 15 = .ok (.iinc 5 1, 3) := by decide +kernel
theorem dX5_power_18 : decode cX5_power 18 = .ok (.goto (-13), 3) := by decide +kernel
theorem dX5_power_21 : decode cX5_power 21 = .ok (.lload_n 3, 1) := by decide +kernel
theorem dX5_power_22 : decode cX5_power 22 = .ok (.lreturn, 1) := by decide +kernel
theorem dX5_ways_0 : decode cX5_ways 0 = .ok (.lconst 1, 1) := by decide +kernel
theorem dX5_ways_1 : decode cX5_ways 1 = .ok (.lstore_n 2, 1) := by decide +kernel
theorem dX5_ways_2 : decode cX5_ways 2 = .ok (.iconst 0, 1) := by decide +kernel
theorem dX5_ways_3 : decode cX5_ways 3 = .ok (.istore 4, 2) := by decide +kernel
theorem dX5_ways_5 : decode cX5_ways 5 = .ok (.iload 4, 2) := by decide +kernel
theorem dX5_ways_7 : decode cX5_ways 7 = .ok (.iload_n 1, 1) := by decide +kernel
theorem dX5_ways_8 : decode cX5_ways 8 = .ok (.if_icmp .ge 23, 3) := by decide +kernel
theorem dX5_ways_11 : decode cX5_ways 11 = .ok (.lload_n 2, 1) := by decide +kernel
theorem dX5_ways_12 : decode cX5_ways 12 = .ok (.iload_n 0, 1) := by decide +kernel
theorem dX5_ways_13 : decode cX5_ways 13 = .ok (.iload 4, 2) := by decide +kernel
theorem dX5_ways_15 : decode cX5_ways 15 = .ok (.isub, 1) := by decide +kernel
theorem dX5_ways_16 : decode cX5_ways 16 = .ok (.i2l, 1) := by decide +kernel
theorem dX5_ways_17 : decode cX5_ways 17 = .ok (.lmul, 1) := by decide +kernel
theorem dX5_ways_18 : decode cX5_ways 18 = .ok (.iload 4, 2) := by decide +kernel
theorem dX5_ways_20 : decode cX5_ways 20 = .ok (.iconst 1, 1) := by decide +kernel
theorem dX5_ways_21 : decode cX5_ways 21 = .ok (.iadd, 1) := by decide +kernel
theorem dX5_ways_22 : decode cX5_ways 22 = .ok (.i2l, 1) := by decide +kernel
theorem dX5_ways_23 : decode cX5_ways 23 = .ok (.ldiv, 1) := by decide +kernel
theorem dX5_ways_24 : decode cX5_ways 24 = .ok (.lstore_n 2, 1) := by decide +kernel
theorem dX5_ways_25 : decode cX5_ways 25 = .ok (.iinc 4 1, 3) := by decide +kernel
theorem dX5_ways_28 : decode cX5_ways 28 = .ok (.goto (-23), 3) := by decide +kernel
theorem dX5_ways_31 : decode cX5_ways 31 = .ok (.lload_n 2, 1) := by decide +kernel
theorem dX5_ways_32 : decode cX5_ways 32 = .ok (.lreturn, 1) := by decide +kernel
theorem dX5_weight_0 : decode cX5_weight 0 = .ok (.iload_n 0, 1) := by decide +kernel
theorem dX5_weight_1 : decode cX5_weight 1 = .ok (.iload_n 1, 1) := by decide +kernel
theorem dX5_weight_2 : decode cX5_weight 2 = .ok (.invokestatic 265, 3) := by decide +kernel
theorem dX5_weight_5 : decode cX5_weight 5 = .ok (.iload_n 2, 1) := by decide +kernel
theorem dX5_weight_6 : decode cX5_weight 6 = .ok (.i2l, 1) := by decide +kernel
theorem dX5_weight_7 : decode cX5_weight 7 = .ok (.iload_n 1, 1) := by decide +kernel
theorem dX5_weight_8 : decode cX5_weight 8 = .ok (.invokestatic 269, 3) := by decide +kernel
theorem dX5_weight_11 : decode cX5_weight 11 = .ok (.lmul, 1) := by decide +kernel
theorem dX5_weight_12 : decode cX5_weight 12 = .ok (.bipush 12, 2) := by decide +kernel
theorem dX5_weight_14 : decode cX5_weight 14 = .ok (.iload_n 2, 1) := by decide +kernel
theorem dX5_weight_15 : decode cX5_weight 15 = .ok (.isub, 1) := by decide +kernel
theorem dX5_weight_16 : decode cX5_weight 16 = .ok (.i2l, 1) := by decide +kernel
theorem dX5_weight_17 : decode cX5_weight 17 = .ok (.iload_n 0, 1) := by decide +kernel
theorem dX5_weight_18 : decode cX5_weight 18 = .ok (.iload_n 1, 1) := by decide +kernel
theorem dX5_weight_19 : decode cX5_weight 19 = .ok (.isub, 1) := by decide +kernel
theorem dX5_weight_20 : decode cX5_weight 20 = .ok (.invokestatic 269, 3) := by decide +kernel
theorem dX5_weight_23 : decode cX5_weight 23 = .ok (.lmul, 1) := by decide +kernel
theorem dX5_weight_24 : decode cX5_weight 24 = .ok (.lreturn, 1) := by decide +kernel
theorem dX5_divisor_0 : decode cX5_divisor 0 = .ok (.iconst 0, 1) := by decide +kernel
theorem dX5_divisor_1 : decode cX5_divisor 1 = .ok (.istore 4, 2) := by decide +kernel
theorem dX5_divisor_3 : decode cX5_divisor 3 = .ok (.iload 4, 2) := by decide +kernel
theorem dX5_divisor_5 : decode cX5_divisor 5 = .ok (.bipush 100, 2) := by decide +kernel
theorem dX5_divisor_7 : decode cX5_divisor 7 = .ok (.if_icmp .ge 25, 3) := by decide +kernel
theorem dX5_divisor_10 : decode cX5_divisor 10 = .ok (.lload_n 2, 1) := by decide +kernel
theorem dX5_divisor_11 : decode cX5_divisor 11 = .ok (.lconst 0, 1) := by decide +kernel
theorem dX5_divisor_12 : decode cX5_divisor 12 = .ok (.lcmp, 1) := by decide +kernel
theorem dX5_divisor_13 : decode cX5_divisor 13 = .ok (.ifCond .eq 19, 3) := by decide +kernel
theorem dX5_divisor_16 : decode cX5_divisor 16 = .ok (.lload_n 0, 1) := by decide +kernel
theorem dX5_divisor_17 : decode cX5_divisor 17 = .ok (.lload_n 2, 1) := by decide +kernel
theorem dX5_divisor_18 : decode cX5_divisor 18 = .ok (.lrem, 1) := by decide +kernel
theorem dX5_divisor_19 : decode cX5_divisor 19 = .ok (.lstore 5, 2) := by decide +kernel
theorem dX5_divisor_21 : decode cX5_divisor 21 = .ok (.lload_n 2, 1) := by decide +kernel
theorem dX5_divisor_22 : decode cX5_divisor 22 = .ok (.lstore_n 0, 1) := by decide +kernel
theorem dX5_divisor_23 : decode cX5_divisor 23 = .ok (.lload 5, 2) := by decide +kernel
theorem dX5_divisor_25 : decode cX5_divisor 25 = .ok (.lstore_n 2, 1) := by decide +kernel
theorem dX5_divisor_26 : decode cX5_divisor 26 = .ok (.iinc 4 1, 3) := by decide +kernel
theorem dX5_divisor_29 : decode cX5_divisor 29 = .ok (.goto (-26), 3) := by decide +kernel
theorem dX5_divisor_32 : decode cX5_divisor 32 = .ok (.lload_n 0, 1) := by decide +kernel
theorem dX5_divisor_33 : decode cX5_divisor 33 = .ok (.lreturn, 1) := by decide +kernel
theorem dX5_tellRatio_0 : decode cX5_tellRatio 0 = .ok (.lload_n 1, 1) := by decide +kernel
theorem dX5_tellRatio_1 : decode cX5_tellRatio 1 = .ok (.lload_n 3, 1) := by decide +kernel
theorem dX5_tellRatio_2 : decode cX5_tellRatio 2 = .ok (.invokestatic 273, 3) := by decide +kernel
theorem dX5_tellRatio_5 : decode cX5_tellRatio 5 = .ok (.lstore 5, 2) := by decide +kernel
theorem dX5_tellRatio_7 : decode cX5_tellRatio 7 = .ok (.aload_n 0, 1) := by decide +kernel
theorem dX5_tellRatio_8 : decode cX5_tellRatio 8 = .ok (.lload 5, 2) := by decide +kernel
theorem dX5_tellRatio_10 : decode cX5_tellRatio 10 = .ok (.lconst 0, 1) := by decide +kernel
theorem dX5_tellRatio_11 : decode cX5_tellRatio 11 = .ok (.lcmp, 1) := by decide +kernel
theorem dX5_tellRatio_12 : decode cX5_tellRatio 12 = .ok (.ifCond .le 10, 3) := by decide +kernel
theorem dX5_tellRatio_15 : decode cX5_tellRatio 15 = .ok (.lload_n 1, 1) := by decide +kernel
theorem dX5_tellRatio_16 : decode cX5_tellRatio 16 = .ok (.lload 5, 2) := by decide +kernel
theorem dX5_tellRatio_18 : decode cX5_tellRatio 18 = .ok (.ldiv, 1) := by decide +kernel
theorem dX5_tellRatio_19 : decode cX5_tellRatio 19 = .ok (.goto 4, 3) := by decide +kernel
theorem dX5_tellRatio_22 : decode cX5_tellRatio 22 = .ok (.lload_n 1, 1) := by decide +kernel
theorem dX5_tellRatio_23 : decode cX5_tellRatio 23 = .ok (.putfield 277, 3) := by decide +kernel
theorem dX5_tellRatio_26 : decode cX5_tellRatio 26 = .ok (.aload_n 0, 1) := by decide +kernel
theorem dX5_tellRatio_27 : decode cX5_tellRatio 27 = .ok (.lload 5, 2) := by decide +kernel
theorem dX5_tellRatio_29 : decode cX5_tellRatio 29 = .ok (.lconst 0, 1) := by decide +kernel
theorem dX5_tellRatio_30 : decode cX5_tellRatio 30 = .ok (.lcmp, 1) := by decide +kernel
theorem dX5_tellRatio_31 : decode cX5_tellRatio 31 = .ok (.ifCond .le 10, 3) := by decide +kernel
theorem dX5_tellRatio_34 : decode cX5_tellRatio 34 = .ok (.lload_n 3, 1) := by decide +kernel
theorem dX5_tellRatio_35 : decode cX5_tellRatio 35 = .ok (.lload 5, 2) := by decide +kernel
theorem dX5_tellRatio_37 : decode cX5_tellRatio 37 = .ok (.ldiv, 1) := by decide +kernel
theorem dX5_tellRatio_38 : decode cX5_tellRatio 38 = .ok (.goto 4, 3) := by decide +kernel
theorem dX5_tellRatio_41 : decode cX5_tellRatio 41 = .ok (.lload_n 3, 1) := by decide +kernel
theorem dX5_tellRatio_42 : decode cX5_tellRatio 42 = .ok (.putfield 56, 3) := by decide +kernel
theorem dX5_tellRatio_45 : decode cX5_tellRatio 45 = .ok (.return_, 1) := by decide +kernel
theorem dX5_isTry_0 : decode cX5_isTry 0 = .ok (.aload_n 0, 1) := by decide +kernel
theorem dX5_isTry_1 : decode cX5_isTry 1 = .ok (.getfield 49, 3) := by decide +kernel
theorem dX5_isTry_4 : decode cX5_isTry 4 = .ok (.iload_n 1, 1) := by decide +kernel
theorem dX5_isTry_5 : decode cX5_isTry 5 = .ok (.invokevirtual 132, 3) := by decide +kernel
theorem dX5_isTry_8 : decode cX5_isTry 8 = .ok (.ifCond .eq 27, 3) := by decide +kernel
theorem dX5_isTry_11 : decode cX5_isTry 11 = .ok (.iload_n 2, 1) := by decide +kernel
theorem dX5_isTry_12 : decode cX5_isTry 12 = .ok (.iconst 0, 1) := by decide +kernel
theorem dX5_isTry_13 : decode cX5_isTry 13 = .ok (.bipush 8, 2) := by decide +kernel
theorem dX5_isTry_15 : decode cX5_isTry 15 = .ok (.invokestatic 75, 3) := by decide +kernel
theorem dX5_isTry_18 : decode cX5_isTry 18 = .ok (.ifCond .eq 17, 3) := by decide +kernel
theorem dX5_isTry_21 : decode cX5_isTry 21 = .ok (.iload_n 3, 1) := by decide +kernel
theorem dX5_isTry_22 : decode cX5_isTry 22 = .ok (.iconst 0, 1) := by decide +kernel
theorem dX5_isTry_23 : decode cX5_isTry 23 = .ok (.bipush 12, 2) := by decide +kernel
theorem dX5_isTry_25 : decode cX5_isTry 25 = .ok (.invokestatic 75, 3) := by decide +kernel
theorem dX5_isTry_28 : decode cX5_isTry 28 = .ok (.ifCond .eq 7, 3) := by decide +kernel
theorem dX5_isTry_31 : decode cX5_isTry 31 = .ok (.iconst 1, 1) := by decide +kernel
theorem dX5_isTry_32 : decode cX5_isTry 32 = .ok (.goto 4, 3) := by decide +kernel
theorem dX5_isTry_35 : decode cX5_isTry 35 = .ok (.iconst 0, 1) := by decide +kernel
theorem dX5_isTry_36 : decode cX5_isTry 36 = .ok (.ireturn, 1) := by decide +kernel
theorem dX5_odds_0 : decode cX5_odds 0 = .ok (.aload_n 0, 1) := by decide +kernel
theorem dX5_odds_1 : decode cX5_odds 1 = .ok (.iload_n 1, 1) := by decide +kernel
theorem dX5_odds_2 : decode cX5_odds 2 = .ok (.iload_n 2, 1) := by decide +kernel
theorem dX5_odds_3 : decode cX5_odds 3 = .ok (.iload_n 3, 1) := by decide +kernel
theorem dX5_odds_4 : decode cX5_odds 4 = .ok (.invokevirtual 280, 3) := by decide +kernel
theorem dX5_odds_7 : decode cX5_odds 7 = .ok (.ifCond .ne 5, 3) := by decide +kernel
theorem dX5_odds_10 : decode cX5_odds 10 = .ok (.iconst (-1), 1) := by decide +kernel
theorem dX5_odds_11 : decode cX5_odds 11 = .ok (.ireturn, 1) := by decide +kernel
theorem dX5_odds_12 : decode cX5_odds 12 = .ok (.aload_n 0, 1) := by decide +kernel
theorem dX5_odds_13 : decode cX5_odds 13 = .ok (.getfield 49, 3) := by decide +kernel
theorem dX5_odds_16 : decode cX5_odds 16 = .ok (.iload_n 1, 1) := by decide +kernel
theorem dX5_odds_17 : decode cX5_odds 17 = .ok (.invokevirtual 283, 3) := by decide +kernel
theorem dX5_odds_20 : decode cX5_odds 20 = .ok (.istore 4, 2) := by decide +kernel
theorem dX5_odds_22 : decode cX5_odds 22 = .ok (.lconst 0, 1) := by decide +kernel
theorem dX5_odds_23 : decode cX5_odds 23 = .ok (.lstore 5, 2) := by decide +kernel
theorem dX5_odds_25 : decode cX5_odds 25 = .ok (.iconst 0, 1) := by decide +kernel
theorem dX5_odds_26 : decode cX5_odds 26 = .ok (.istore 7, 2) := by decide +kernel
theorem dX5_odds_28 : decode cX5_odds 28 = .ok (.iload 7, 2) := by decide +kernel
theorem dX5_odds_30 : decode cX5_odds 30 = .ok (.iload_n 2, 1) := by decide +kernel
theorem dX5_odds_31 : decode cX5_odds 31 = .ok (.if_icmp .gt 39, 3) := by decide +kernel
theorem dX5_odds_34 : decode cX5_odds 34 = .ok (.iload 4, 2) := by decide +kernel
theorem dX5_odds_36 : decode cX5_odds 36 = .ok (.bipush (-9), 2) := by decide +kernel
theorem dX5_odds_38 : decode cX5_odds 38 = .ok (.if_icmp .eq 32, 3) := by decide +kernel
theorem dX5_odds_41 : decode cX5_odds 41 = .ok (.lload 5, 2) := by decide +kernel
theorem dX5_odds_43 : decode cX5_odds 43 = .ok (.iload 7, 2) := by decide +kernel
theorem dX5_odds_45 : decode cX5_odds 45 = .ok (.iload 4, 2) := by decide +kernel
theorem dX5_odds_47 : decode cX5_odds 47 = .ok (.if_icmp .lt 13, 3) := by decide +kernel
theorem dX5_odds_50 : decode cX5_odds 50 = .ok (.iload_n 2, 1) := by decide +kernel
theorem dX5_odds_51 : decode cX5_odds 51 = .ok (.iload 7, 2) := by decide +kernel
theorem dX5_odds_53 : decode cX5_odds 53 = .ok (.iload_n 3, 1) := by decide +kernel
theorem dX5_odds_54 : decode cX5_odds 54 = .ok (.invokestatic 286, 3) := by decide +kernel
theorem dX5_odds_57 : decode cX5_odds 57 = .ok (.goto 4, 3) := by decide +kernel
theorem dX5_odds_60 : decode cX5_odds 60 = .ok (.lconst 0, 1) := by decide +kernel
theorem dX5_odds_61 : decode cX5_odds 61 = .ok (.ladd, 1) := by decide +kernel
theorem dX5_odds_62 : decode cX5_odds 62 = .ok (.lstore 5, 2) := by decide +kernel
theorem dX5_odds_64 : decode cX5_odds 64 = .ok (.iinc 7 1, 3) := by decide +kernel
theorem dX5_odds_67 : decode cX5_odds 67 = .ok (.goto (-39), 3) := by decide +kernel
theorem dX5_odds_70 : decode cX5_odds 70 = .ok (.aload_n 0, 1) := by decide +kernel
theorem dX5_odds_71 : decode cX5_odds 71 = .ok (.lload 5, 2) := by decide +kernel
theorem dX5_odds_73 : decode cX5_odds 73 = .ok (.ldc2_w 290, 3) := by decide +kernel
theorem dX5_odds_76 : decode cX5_odds 76 = .ok (.iload_n 2, 1) := by decide +kernel
theorem dX5_odds_77 : decode cX5_odds 77 = .ok (.invokestatic 269, 3) := by decide +kernel
theorem dX5_odds_80 : decode cX5_odds 80 = .ok (.invokevirtual 258, 3) := by decide +kernel
theorem dX5_odds_83 : decode cX5_odds 83 = .ok (.iconst 1, 1) := by decide +kernel
theorem dX5_odds_84 : decode cX5_odds 84 = .ok (.ireturn, 1) := by decide +kernel
theorem dX5_mid_0 : decode cX5_mid 0 = .ok (.aload_n 0, 1) := by decide +kernel
theorem dX5_mid_1 : decode cX5_mid 1 = .ok (.iload_n 1, 1) := by decide +kernel
theorem dX5_mid_2 : decode cX5_mid 2 = .ok (.iload_n 2, 1) := by decide +kernel
theorem dX5_mid_3 : decode cX5_mid 3 = .ok (.iload_n 3, 1) := by decide +kernel
theorem dX5_mid_4 : decode cX5_mid 4 = .ok (.invokevirtual 280, 3) := by decide +kernel
theorem dX5_mid_7 : decode cX5_mid 7 = .ok (.ifCond .ne 5, 3) := by decide +kernel
theorem dX5_mid_10 : decode cX5_mid 10 = .ok (.iconst (-1), 1) := by decide +kernel
theorem dX5_mid_11 : decode cX5_mid 11 = .ok (.ireturn, 1) := by decide +kernel
theorem dX5_mid_12 : decode cX5_mid 12 = .ok (.aload_n 0, 1) := by decide +kernel
theorem dX5_mid_13 : decode cX5_mid 13 = .ok (.getfield 49, 3) := by decide +kernel
theorem dX5_mid_16 : decode cX5_mid 16 = .ok (.iload_n 1, 1) := by decide +kernel
theorem dX5_mid_17 : decode cX5_mid 17 = .ok (.invokevirtual 283, 3) := by decide +kernel
theorem dX5_mid_20 : decode cX5_mid 20 = .ok (.istore 4, 2) := by decide +kernel
theorem dX5_mid_22 : decode cX5_mid 22 = .ok (.iload 4, 2) := by decide +kernel
theorem dX5_mid_24 : decode cX5_mid 24 = .ok (.bipush (-9), 2) := by decide +kernel
theorem dX5_mid_26 : decode cX5_mid 26 = .ok (.if_icmp .ne 9, 3) := by decide +kernel
theorem dX5_mid_29 : decode cX5_mid 29 = .ok (.aload_n 0, 1) := by decide +kernel
theorem dX5_mid_30 : decode cX5_mid 30 = .ok (.iconst 4, 1) := by decide +kernel
theorem dX5_mid_31 : decode cX5_mid 31 = .ok (.invokevirtual 88, 3) := by decide +kernel
theorem dX5_mid_34 : decode cX5_mid 34 = .ok (.ireturn, 1) := by decide +kernel
theorem dX5_mid_35 : decode cX5_mid 35 = .ok (.lconst 0, 1) := by decide +kernel
theorem dX5_mid_36 : decode cX5_mid 36 = .ok (.lstore 5, 2) := by decide +kernel
theorem dX5_mid_38 : decode cX5_mid 38 = .ok (.iconst 0, 1) := by decide +kernel
theorem dX5_mid_39 : decode cX5_mid 39 = .ok (.istore 7, 2) := by decide +kernel
theorem dX5_mid_41 : decode cX5_mid 41 = .ok (.iload 7, 2) := by decide +kernel
theorem dX5_mid_43 : decode cX5_mid 43 = .ok (.iload_n 2, 1) := by decide +kernel
theorem dX5_mid_44 : decode cX5_mid 44 = .ok (.if_icmp .gt 32, 3) := by decide +kernel
theorem dX5_mid_47 : decode cX5_mid 47 = .ok (.lload 5, 2) := by decide +kernel
theorem dX5_mid_49 : decode cX5_mid 49 = .ok (.iload_n 2, 1) := by decide +kernel
theorem dX5_mid_50 : decode cX5_mid 50 = .ok (.iload 7, 2) := by decide +kernel
theorem dX5_mid_52 : decode cX5_mid 52 = .ok (.iload_n 3, 1) := by decide +kernel
theorem dX5_mid_53 : decode cX5_mid 53 = .ok (.invokestatic 286, 3) := by decide +kernel
theorem dX5_mid_56 : decode cX5_mid 56 = .ok (.iconst 0, 1) := by decide +kernel
theorem dX5_mid_57 : decode cX5_mid 57 = .ok (.iload 4, 2) := by decide +kernel
theorem dX5_mid_59 : decode cX5_mid 59 = .ok (.iload 7, 2) := by decide +kernel
theorem dX5_mid_61 : decode cX5_mid 61 = .ok (.isub, 1) := by decide +kernel
theorem dX5_mid_62 : decode cX5_mid 62 = .ok (.invokestatic 79, 3) := by decide +kernel
theorem dX5_mid_65 : decode cX5_mid 65 = .ok (.i2l, 1) := by decide +kernel
theorem dX5_mid_66 : decode cX5_mid 66 = .ok (.lmul, 1) := by decide +kernel
theorem dX5_mid_67 : decode cX5_mid 67 = .ok (.ladd, 1) := by decide +kernel
theorem dX5_mid_68 : decode cX5_mid 68 = .ok (.lstore 5, 2) := by decide +kernel
theorem dX5_mid_70 : decode cX5_mid 70 = .ok (.iinc 7 1, 3) := by decide +kernel
theorem dX5_mid_73 : decode cX5_mid 73 = .ok (.goto (-32), 3) := by decide +kernel
theorem dX5_mid_76 : decode cX5_mid 76 = .ok (.aload_n 0, 1) := by decide +kernel
theorem dX5_mid_77 : decode cX5_mid 77 = .ok (.lload 5, 2) := by decide +kernel
theorem dX5_mid_79 : decode cX5_mid 79 = .ok (.ldc2_w 290, 3) := by decide +kernel
theorem dX5_mid_82 : decode cX5_mid 82 = .ok (.iload_n 2, 1) := by decide +kernel
theorem dX5_mid_83 : decode cX5_mid 83 = .ok (.invokestatic 269, 3) := by decide +kernel
theorem dX5_mid_86 : decode cX5_mid 86 = .ok (.invokevirtual 258, 3) := by decide +kernel
theorem dX5_mid_89 : decode cX5_mid 89 = .ok (.iconst 1, 1) := by decide +kernel
theorem dX5_mid_90 : decode cX5_mid 90 = .ok (.ireturn, 1) := by decide +kernel
theorem dX5_asked_0 : decode cX5_asked 0 = .ok (.aload_n 0, 1) := by decide +kernel
theorem dX5_asked_1 : decode cX5_asked 1 = .ok (.getfield 107, 3) := by decide +kernel
theorem dX5_asked_4 : decode cX5_asked 4 = .ok (.ireturn, 1) := by decide +kernel
theorem dX5_upper_0 : decode cX5_upper 0 = .ok (.aload_n 0, 1) := by decide +kernel
theorem dX5_upper_1 : decode cX5_upper 1 = .ok (.getfield 277, 3) := by decide +kernel
theorem dX5_upper_4 : decode cX5_upper 4 = .ok (.lreturn, 1) := by decide +kernel
theorem dX5_lower_0 : decode cX5_lower 0 = .ok (.aload_n 0, 1) := by decide +kernel
theorem dX5_lower_1 : decode cX5_lower 1 = .ok (.getfield 56, 3) := by decide +kernel
theorem dX5_lower_4 : decode cX5_lower 4 = .ok (.lreturn, 1) := by decide +kernel
theorem dX5_count_0 : decode cX5_count 0 = .ok (.iload_n 1, 1) := by decide +kernel
theorem dX5_count_1 : decode cX5_count 1 = .ok (.tableswitch 188 0 13 #[71, 79, 87, 95, 106, 114, 122, 130, 138, 147, 156, 164, 172, 180], 71) := by decide +kernel
theorem dX5_count_72 : decode cX5_count 72 = .ok (.aload_n 0, 1) := by decide +kernel
theorem dX5_count_73 : decode cX5_count 73 = .ok (.getfield 49, 3) := by decide +kernel
theorem dX5_count_76 : decode cX5_count 76 = .ok (.getfield 131, 3) := by decide +kernel
theorem dX5_count_79 : decode cX5_count 79 = .ok (.ireturn, 1) := by decide +kernel
theorem dX5_count_80 : decode cX5_count 80 = .ok (.aload_n 0, 1) := by decide +kernel
theorem dX5_count_81 : decode cX5_count 81 = .ok (.getfield 49, 3) := by decide +kernel
theorem dX5_count_84 : decode cX5_count 84 = .ok (.getfield 179, 3) := by decide +kernel
theorem dX5_count_87 : decode cX5_count 87 = .ok (.ireturn, 1) := by decide +kernel
theorem dX5_count_88 : decode cX5_count 88 = .ok (.aload_n 0, 1) := by decide +kernel
theorem dX5_count_89 : decode cX5_count 89 = .ok (.getfield 49, 3) := by decide +kernel
theorem dX5_count_92 : decode cX5_count 92 = .ok (.getfield 299, 3) := by decide +kernel
theorem dX5_count_95 : decode cX5_count 95 = .ok (.ireturn, 1) := by decide +kernel
theorem dX5_count_96 : decode cX5_count 96 = .ok (.aload_n 0, 1) := by decide +kernel
theorem dX5_count_97 : decode cX5_count 97 = .ok (.getfield 49, 3) := by decide +kernel
theorem dX5_count_100 : decode cX5_count 100 = .ok (.getfield 125, 3) := by decide +kernel
theorem dX5_count_103 : decode cX5_count 103 = .ok (.getfield 85, 3) := by decide +kernel
theorem dX5_count_106 : decode cX5_count 106 = .ok (.ireturn, 1) := by decide +kernel
theorem dX5_count_107 : decode cX5_count 107 = .ok (.aload_n 0, 1) := by decide +kernel
theorem dX5_count_108 : decode cX5_count 108 = .ok (.getfield 49, 3) := by decide +kernel
theorem dX5_count_111 : decode cX5_count 111 = .ok (.getfield 169, 3) := by decide +kernel
theorem dX5_count_114 : decode cX5_count 114 = .ok (.ireturn, 1) := by decide +kernel
theorem dX5_count_115 : decode cX5_count 115 = .ok (.aload_n 0, 1) := by decide +kernel
theorem dX5_count_116 : decode cX5_count 116 = .ok (.getfield 49, 3) := by decide +kernel
theorem dX5_count_119 : decode cX5_count 119 = .ok (.getfield 152, 3) := by decide +kernel
theorem dX5_count_122 : decode cX5_count 122 = .ok (.ireturn, 1) := by decide +kernel
theorem dX5_count_123 : decode cX5_count 123 = .ok (.aload_n 0, 1) := by decide +kernel
theorem dX5_count_124 : decode cX5_count 124 = .ok (.getfield 49, 3) := by decide +kernel
theorem dX5_count_127 : decode cX5_count 127 = .ok (.invokevirtual 188, 3) := by decide +kernel
theorem dX5_count_130 : decode cX5_count 130 = .ok (.ireturn, 1) := by decide +kernel
theorem dX5_count_131 : decode cX5_count 131 = .ok (.aload_n 0, 1) := by decide +kernel
theorem dX5_count_132 : decode cX5_count 132 = .ok (.getfield 49, 3) := by decide +kernel
theorem dX5_count_135 : decode cX5_count 135 = .ok (.getfield 302, 3) := by decide +kernel
theorem dX5_count_138 : decode cX5_count 138 = .ok (.ireturn, 1) := by decide +kernel
theorem dX5_count_139 : decode cX5_count 139 = .ok (.aload_n 0, 1) := by decide +kernel
theorem dX5_count_140 : decode cX5_count 140 = .ok (.getfield 49, 3) := by decide +kernel
theorem dX5_count_143 : decode cX5_count 143 = .ok (.iconst 1, 1) := by decide +kernel
theorem dX5_count_144 : decode cX5_count 144 = .ok (.invokevirtual 305, 3) := by decide +kernel
theorem dX5_count_147 : decode cX5_count 147 = .ok (.ireturn, 1) := by decide +kernel
theorem dX5_count_148 : decode cX5_count 148 = .ok (.aload_n 0, 1) := by decide +kernel
theorem dX5_count_149 : decode cX5_count 149 = .ok (.getfield 49, 3) := by decide +kernel
theorem dX5_count_152 : decode cX5_count 152 = .ok (.iconst 2, 1) := by decide +kernel
theorem dX5_count_153 : decode cX5_count 153 = .ok (.invokevirtual 305, 3) := by decide +kernel
theorem dX5_count_156 : decode cX5_count 156 = .ok (.ireturn, 1) := by decide +kernel
theorem dX5_count_157 : decode cX5_count 157 = .ok (.aload_n 0, 1) := by decide +kernel
theorem dX5_count_158 : decode cX5_count 158 = .ok (.getfield 13, 3) := by decide +kernel
theorem dX5_count_161 : decode cX5_count 161 = .ok (.invokestatic 308, 3) := by decide +kernel
theorem dX5_count_164 : decode cX5_count 164 = .ok (.ireturn, 1) := by decide +kernel
theorem dX5_count_165 : decode cX5_count 165 = .ok (.aload_n 0, 1) := by decide +kernel
theorem dX5_count_166 : decode cX5_count 166 = .ok (.getfield 17, 3) := by decide +kernel
theorem dX5_count_169 : decode cX5_count 169 = .ok (.invokestatic 308, 3) := by decide +kernel
theorem dX5_count_172 : decode cX5_count 172 = .ok (.ireturn, 1) := by decide +kernel
theorem dX5_count_173 : decode cX5_count 173 = .ok (.aload_n 0, 1) := by decide +kernel
theorem dX5_count_174 : decode cX5_count 174 = .ok (.getfield 20, 3) := by decide +kernel
theorem dX5_count_177 : decode cX5_count 177 = .ok (.invokestatic 308, 3) := by decide +kernel
theorem dX5_count_180 : decode cX5_count 180 = .ok (.ireturn, 1) := by decide +kernel
theorem dX5_count_181 : decode cX5_count 181 = .ok (.aload_n 0, 1) := by decide +kernel
theorem dX5_count_182 : decode cX5_count 182 = .ok (.getfield 49, 3) := by decide +kernel
theorem dX5_count_185 : decode cX5_count 185 = .ok (.getfield 312, 3) := by decide +kernel
theorem dX5_count_188 : decode cX5_count 188 = .ok (.ireturn, 1) := by decide +kernel
theorem dX5_count_189 : decode cX5_count 189 = .ok (.iconst (-1), 1) := by decide +kernel
theorem dX5_count_190 : decode cX5_count 190 = .ok (.ireturn, 1) := by decide +kernel
end
section
theorem dL_cell_0 : decode cL_cell 0 = .ok (.aload_n 0, 1) := by decide +kernel
theorem dL_cell_1 : decode cL_cell 1 = .ok (.arraylength, 1) := by decide +kernel
theorem dL_cell_2 : decode cL_cell 2 = .ok (.ifCond .ne 7, 3) := by decide +kernel
theorem dL_cell_5 : decode cL_cell 5 = .ok (.iconst 0, 1) := by decide +kernel
theorem dL_cell_6 : decode cL_cell 6 = .ok (.goto 9, 3) := by decide +kernel
theorem dL_cell_9 : decode cL_cell 9 = .ok (.aload_n 0, 1) := by decide +kernel
theorem dL_cell_10 : decode cL_cell 10 = .ok (.iload_n 1, 1) := by decide +kernel
theorem dL_cell_11 : decode cL_cell 11 = .ok (.aload_n 0, 1) := by decide +kernel
theorem dL_cell_12 : decode cL_cell 12 = .ok (.arraylength, 1) := by decide +kernel
theorem dL_cell_13 : decode cL_cell 13 = .ok (.irem, 1) := by decide +kernel
theorem dL_cell_14 : decode cL_cell 14 = .ok (.iaload, 1) := by decide +kernel
theorem dL_cell_15 : decode cL_cell 15 = .ok (.ireturn, 1) := by decide +kernel
theorem dL_low_0 : decode cL_low 0 = .ok (.iload_n 0, 1) := by decide +kernel
theorem dL_low_1 : decode cL_low 1 = .ok (.iconst 1, 1) := by decide +kernel
theorem dL_low_2 : decode cL_low 2 = .ok (.iushr, 1) := by decide +kernel
theorem dL_low_3 : decode cL_low 3 = .ok (.iload_n 1, 1) := by decide +kernel
theorem dL_low_4 : decode cL_low 4 = .ok (.irem, 1) := by decide +kernel
theorem dL_low_5 : decode cL_low 5 = .ok (.ireturn, 1) := by decide +kernel
theorem dL_letter_0 : decode cL_letter 0 = .ok (.iload_n 0, 1) := by decide +kernel
theorem dL_letter_1 : decode cL_letter 1 = .ok (.ifCond .ne 8, 3) := by decide +kernel
theorem dL_letter_4 : decode cL_letter 4 = .ok (.bipush 104, 2) := by decide +kernel
theorem dL_letter_6 : decode cL_letter 6 = .ok (.goto 45, 3) := by decide +kernel
theorem dL_letter_9 : decode cL_letter 9 = .ok (.iload_n 0, 1) := by decide +kernel
theorem dL_letter_10 : decode cL_letter 10 = .ok (.iconst 1, 1) := by decide +kernel
theorem dL_letter_11 : decode cL_letter 11 = .ok (.if_icmp .ne 8, 3) := by decide +kernel
theorem dL_letter_14 : decode cL_letter 14 = .ok (.bipush 118, 2) := by decide +kernel
theorem dL_letter_16 : decode cL_letter 16 = .ok (.goto 35, 3) := by decide +kernel
theorem dL_letter_19 : decode cL_letter 19 = .ok (.iload_n 0, 1) := by decide +kernel
theorem dL_letter_20 : decode cL_letter 20 = .ok (.iconst 2, 1) := by decide +kernel
theorem dL_letter_21 : decode cL_letter 21 = .ok (.if_icmp .ne 8, 3) := by decide +kernel
theorem dL_letter_24 : decode cL_letter 24 = .ok (.bipush 114, 2) := by decide +kernel
theorem dL_letter_26 : decode cL_letter 26 = .ok (.goto 25, 3) := by decide +kernel
theorem dL_letter_29 : decode cL_letter 29 = .ok (.iload_n 0, 1) := by decide +kernel
theorem dL_letter_30 : decode cL_letter 30 = .ok (.iconst 3, 1) := by decide +kernel
theorem dL_letter_31 : decode cL_letter 31 = .ok (.if_icmp .ne 8, 3) := by decide +kernel
theorem dL_letter_34 : decode cL_letter 34 = .ok (.bipush 100, 2) := by decide +kernel
theorem dL_letter_36 : decode cL_letter 36 = .ok (.goto 15, 3) := by decide +kernel
theorem dL_letter_39 : decode cL_letter 39 = .ok (.iload_n 0, 1) := by decide +kernel
theorem dL_letter_40 : decode cL_letter 40 = .ok (.iconst 4, 1) := by decide +kernel
theorem dL_letter_41 : decode cL_letter 41 = .ok (.if_icmp .ne 8, 3) := by decide +kernel
theorem dL_letter_44 : decode cL_letter 44 = .ok (.bipush 105, 2) := by decide +kernel
theorem dL_letter_46 : decode cL_letter 46 = .ok (.goto 5, 3) := by decide +kernel
theorem dL_letter_49 : decode cL_letter 49 = .ok (.bipush 109, 2) := by decide +kernel
theorem dL_letter_51 : decode cL_letter 51 = .ok (.ireturn, 1) := by decide +kernel
theorem dL_figures_0 : decode cL_figures 0 = .ok (.aload_n 0, 1) := by decide +kernel
theorem dL_figures_1 : decode cL_figures 1 = .ok (.iload_n 1, 1) := by decide +kernel
theorem dL_figures_2 : decode cL_figures 2 = .ok (.iload_n 2, 1) := by decide +kernel
theorem dL_figures_3 : decode cL_figures 3 = .ok (.bipush 48, 2) := by decide +kernel
theorem dL_figures_5 : decode cL_figures 5 = .ok (.iload_n 3, 1) := by decide +kernel
theorem dL_figures_6 : decode cL_figures 6 = .ok (.bipush 10, 2) := by decide +kernel
theorem dL_figures_8 : decode cL_figures 8 = .ok (.idiv, 1) := by decide +kernel
theorem dL_figures_9 : decode cL_figures 9 = .ok (.iadd, 1) := by decide +kernel
theorem dL_figures_10 : decode cL_figures 10 = .ok (.invokevirtual 9, 3) := by decide +kernel
theorem dL_figures_13 : decode cL_figures 13 = .ok (.sipush 1032, 3) := by decide +kernel
theorem dL_figures_16 : decode cL_figures 16 = .ok (.if_icmp .ne 28, 3) := by decide +kernel
theorem dL_figures_19 : decode cL_figures 19 = .ok (.aload_n 0, 1) := by decide +kernel
theorem dL_figures_20 : decode cL_figures 20 = .ok (.iload_n 1, 1) := by decide +kernel
theorem dL_figures_21 : decode cL_figures 21 = .ok (.iload_n 2, 1) := by decide +kernel
theorem dL_figures_22 : decode cL_figures 22 = .ok (.iconst 1, 1) := by decide +kernel
theorem dL_figures_23 : decode cL_figures 23 = .ok (.iadd, 1) := by decide +kernel
theorem dL_figures_24 : decode cL_figures 24 = .ok (.bipush 48, 2) := by decide +kernel
theorem dL_figures_26 : decode cL_figures 26 = .ok (.iload_n 3, 1) := by decide +kernel
theorem dL_figures_27 : decode cL_figures 27 = .ok (.bipush 10, 2) := by decide +kernel
theorem dL_figures_29 : decode cL_figures 29 = .ok (.irem, 1) := by decide +kernel
theorem dL_figures_30 : decode cL_figures 30 = .ok (.iadd, 1) := by decide +kernel
theorem dL_figures_31 : decode cL_figures 31 = .ok (.invokevirtual 9, 3) := by decide +kernel
theorem dL_figures_34 : decode cL_figures 34 = .ok (.sipush 1032, 3) := by decide +kernel
theorem dL_figures_37 : decode cL_figures 37 = .ok (.if_icmp .ne 7, 3) := by decide +kernel
theorem dL_figures_40 : decode cL_figures 40 = .ok (.iconst 1, 1) := by decide +kernel
theorem dL_figures_41 : decode cL_figures 41 = .ok (.goto 4, 3) := by decide +kernel
theorem dL_figures_44 : decode cL_figures 44 = .ok (.iconst 0, 1) := by decide +kernel
theorem dL_figures_45 : decode cL_figures 45 = .ok (.ireturn, 1) := by decide +kernel
theorem dL_built_0 : decode cL_built 0 = .ok (.aload_n 1, 1) := by decide +kernel
theorem dL_built_1 : decode cL_built 1 = .ok (.iload_n 2, 1) := by decide +kernel
theorem dL_built_2 : decode cL_built 2 = .ok (.invokestatic 15, 3) := by decide +kernel
theorem dL_built_5 : decode cL_built 5 = .ok (.istore 6, 2) := by decide +kernel
theorem dL_built_7 : decode cL_built 7 = .ok (.iconst 0, 1) := by decide +kernel
theorem dL_built_8 : decode cL_built 8 = .ok (.istore 7, 2) := by decide +kernel
theorem dL_built_10 : decode cL_built 10 = .ok (.iload 7, 2) := by decide +kernel
theorem dL_built_12 : decode cL_built 12 = .ok (.bipush 23, 2) := by decide +kernel
theorem dL_built_14 : decode cL_built 14 = .ok (.if_icmp .ge 27, 3) := by decide +kernel
theorem dL_built_17 : decode cL_built 17 = .ok (.aload 5, 2) := by decide +kernel
theorem dL_built_19 : decode cL_built 19 = .ok (.iload 7, 2) := by decide +kernel
theorem dL_built_21 : decode cL_built 21 = .ok (.iload 7, 2) := by decide +kernel
theorem dL_built_23 : decode cL_built 23 = .ok (.bipush 17, 2) := by decide +kernel
theorem dL_built_25 : decode cL_built 25 = .ok (.if_icmp .ge 7, 3) := by decide +kernel
theorem dL_built_28 : decode cL_built 28 = .ok (.iconst 0, 1) := by decide +kernel
theorem dL_built_29 : decode cL_built 29 = .ok (.goto 5, 3) := by decide +kernel
theorem dL_built_32 : decode cL_built 32 = .ok (.bipush (-9), 2) := by decide +kernel
theorem dL_built_34 : decode cL_built 34 = .ok (.iastore, 1) := by decide +kernel
theorem dL_built_35 : decode cL_built 35 = .ok (.iinc 7 1, 3) := by decide +kernel
theorem dL_built_38 : decode cL_built 38 = .ok (.goto (-28), 3) := by decide +kernel
theorem dL_built_41 : decode cL_built 41 = .ok (.aload 4, 2) := by decide +kernel
theorem dL_built_43 : decode cL_built 43 = .ok (.iconst 0, 1) := by decide +kernel
theorem dL_built_44 : decode cL_built 44 = .ok (.iload 6, 2) := by decide +kernel
theorem dL_built_46 : decode cL_built 46 = .ok (.iload 6, 2) := by decide +kernel
theorem dL_built_48 : decode cL_built 48 = .ok (.bipush 20, 2) := by decide +kernel
theorem dL_built_50 : decode cL_built 50 = .ok (.ishr, 1) := by decide +kernel
theorem dL_built_51 : decode cL_built 51 = .ok (.iconst 2, 1) := by decide +kernel
theorem dL_built_52 : decode cL_built 52 = .ok (.invokestatic 21, 3) := by decide +kernel
theorem dL_built_55 : decode cL_built 55 = .ok (.ifCond .ne 8, 3) := by decide +kernel
theorem dL_built_58 : decode cL_built 58 = .ok (.bipush 100, 2) := by decide +kernel
theorem dL_built_60 : decode cL_built 60 = .ok (.goto 5, 3) := by decide +kernel
theorem dL_built_63 : decode cL_built 63 = .ok (.bipush 20, 2) := by decide +kernel
theorem dL_built_65 : decode cL_built 65 = .ok (.invokestatic 21, 3) := by decide +kernel
theorem dL_built_68 : decode cL_built 68 = .ok (.iastore, 1) := by decide +kernel
theorem dL_built_69 : decode cL_built 69 = .ok (.aload 4, 2) := by decide +kernel
theorem dL_built_71 : decode cL_built 71 = .ok (.iconst 1, 1) := by decide +kernel
theorem dL_built_72 : decode cL_built 72 = .ok (.iconst 1, 1) := by decide +kernel
theorem dL_built_73 : decode cL_built 73 = .ok (.iload 6, 2) := by decide +kernel
theorem dL_built_75 : decode cL_built 75 = .ok (.bipush 7, 2) := by decide +kernel
theorem dL_built_77 : decode cL_built 77 = .ok (.ishr, 1) := by decide +kernel
theorem dL_built_78 : decode cL_built 78 = .ok (.iload_n 3, 1) := by decide +kernel
theorem dL_built_79 : decode cL_built 79 = .ok (.invokestatic 21, 3) := by decide +kernel
theorem dL_built_82 : decode cL_built 82 = .ok (.iadd, 1) := by decide +kernel
theorem dL_built_83 : decode cL_built 83 = .ok (.iastore, 1) := by decide +kernel
theorem dL_built_84 : decode cL_built 84 = .ok (.aload 5, 2) := by decide +kernel
theorem dL_built_86 : decode cL_built 86 = .ok (.iconst 3, 1) := by decide +kernel
theorem dL_built_87 : decode cL_built 87 = .ok (.iload 6, 2) := by decide +kernel
theorem dL_built_89 : decode cL_built 89 = .ok (.bipush 10, 2) := by decide +kernel
theorem dL_built_91 : decode cL_built 91 = .ok (.ishr, 1) := by decide +kernel
theorem dL_built_92 : decode cL_built 92 = .ok (.iconst 2, 1) := by decide +kernel
theorem dL_built_93 : decode cL_built 93 = .ok (.invokestatic 21, 3) := by decide +kernel
theorem dL_built_96 : decode cL_built 96 = .ok (.iastore, 1) := by decide +kernel
theorem dL_built_97 : decode cL_built 97 = .ok (.aload_n 0, 1) := by decide +kernel
theorem dL_built_98 : decode cL_built 98 = .ok (.iconst 3, 1) := by decide +kernel
theorem dL_built_99 : decode cL_built 99 = .ok (.bipush 50, 2) := by decide +kernel
theorem dL_built_101 : decode cL_built 101 = .ok (.invokevirtual 25, 3) := by decide +kernel
theorem dL_built_104 : decode cL_built 104 = .ok (.bipush 50, 2) := by decide +kernel
theorem dL_built_106 : decode cL_built 106 = .ok (.if_icmp .ne 7, 3) := by decide +kernel
theorem dL_built_109 : decode cL_built 109 = .ok (.iconst 1, 1) := by decide +kernel
theorem dL_built_110 : decode cL_built 110 = .ok (.goto 4, 3) := by decide +kernel
theorem dL_built_113 : decode cL_built 113 = .ok (.iconst 0, 1) := by decide +kernel
theorem dL_built_114 : decode cL_built 114 = .ok (.istore 7, 2) := by decide +kernel
theorem dL_built_116 : decode cL_built 116 = .ok (.iload 6, 2) := by decide +kernel
theorem dL_built_118 : decode cL_built 118 = .ok (.bipush 11, 2) := by decide +kernel
theorem dL_built_120 : decode cL_built 120 = .ok (.ishr, 1) := by decide +kernel
theorem dL_built_121 : decode cL_built 121 = .ok (.iconst 3, 1) := by decide +kernel
theorem dL_built_122 : decode cL_built 122 = .ok (.invokestatic 21, 3) := by decide +kernel
theorem dL_built_125 : decode cL_built 125 = .ok (.istore 8, 2) := by decide +kernel
theorem dL_built_127 : decode cL_built 127 = .ok (.iload 7, 2) := by decide +kernel
theorem dL_built_129 : decode cL_built 129 = .ok (.ifCond .eq 60, 3) := by decide +kernel
theorem dL_built_132 : decode cL_built 132 = .ok (.aload_n 0, 1) := by decide +kernel
theorem dL_built_133 : decode cL_built 133 = .ok (.iconst 3, 1) := by decide +kernel
theorem dL_built_134 : decode cL_built 134 = .ok (.iload 8, 2) := by decide +kernel
theorem dL_built_136 : decode cL_built 136 = .ok (.bipush 115, 2) := by decide +kernel
theorem dL_built_138 : decode cL_built 138 = .ok (.invokevirtual 9, 3) := by decide +kernel
theorem dL_built_141 : decode cL_built 141 = .ok (.sipush 1032, 3) := by decide +kernel
theorem dL_built_144 : decode cL_built 144 = .ok (.if_icmp .ne 45, 3) := by decide +kernel
theorem dL_built_147 : decode cL_built 147 = .ok (.aload_n 0, 1) := by decide +kernel
theorem dL_built_148 : decode cL_built 148 = .ok (.iconst 3, 1) := by decide +kernel
theorem dL_built_149 : decode cL_built 149 = .ok (.iload 8, 2) := by decide +kernel
theorem dL_built_151 : decode cL_built 151 = .ok (.iconst 1, 1) := by decide +kernel
theorem dL_built_152 : decode cL_built 152 = .ok (.iadd, 1) := by decide +kernel
theorem dL_built_153 : decode cL_built 153 = .ok (.bipush 48, 2) := by decide +kernel
theorem dL_built_155 : decode cL_built 155 = .ok (.aload 5, 2) := by decide +kernel
theorem dL_built_157 : decode cL_built 157 = .ok (.iconst 3, 1) := by decide +kernel
theorem dL_built_158 : decode cL_built 158 = .ok (.iaload, 1) := by decide +kernel
theorem dL_built_159 : decode cL_built 159 = .ok (.iadd, 1) := by decide +kernel
theorem dL_built_160 : decode cL_built 160 = .ok (.invokevirtual 9, 3) := by decide +kernel
theorem dL_built_163 : decode cL_built 163 = .ok (.sipush 1032, 3) := by decide +kernel
theorem dL_built_166 : decode cL_built 166 = .ok (.if_icmp .ne 23, 3) := by decide +kernel
theorem dL_built_169 : decode cL_built 169 = .ok (.aload_n 0, 1) := by decide +kernel
theorem dL_built_170 : decode cL_built 170 = .ok (.iconst 3, 1) := by decide +kernel
theorem dL_built_171 : decode cL_built 171 = .ok (.iload 8, 2) := by decide +kernel
theorem dL_built_173 : decode cL_built 173 = .ok (.iconst 2, 1) := by decide +kernel
theorem dL_built_174 : decode cL_built 174 = .ok (.iadd, 1) := by decide +kernel
theorem dL_built_175 : decode cL_built 175 = .ok (.aload 4, 2) := by decide +kernel
theorem dL_built_177 : decode cL_built 177 = .ok (.iconst 0, 1) := by decide +kernel
theorem dL_built_178 : decode cL_built 178 = .ok (.iaload, 1) := by decide +kernel
theorem dL_built_179 : decode cL_built 179 = .ok (.invokestatic 28, 3) := by decide +kernel
theorem dL_built_182 : decode cL_built 182 = .ok (.ifCond .eq 7, 3) := by decide +kernel
theorem dL_built_185 : decode cL_built 185 = .ok (.iconst 1, 1) := by decide +kernel
theorem dL_built_186 : decode cL_built 186 = .ok (.goto 4, 3) := by decide +kernel
theorem dL_built_189 : decode cL_built 189 = .ok (.iconst 0, 1) := by decide +kernel
theorem dL_built_190 : decode cL_built 190 = .ok (.istore 7, 2) := by decide +kernel
theorem dL_built_192 : decode cL_built 192 = .ok (.iinc 8 4, 3) := by decide +kernel
theorem dL_built_195 : decode cL_built 195 = .ok (.iconst 0, 1) := by decide +kernel
theorem dL_built_196 : decode cL_built 196 = .ok (.istore 9, 2) := by decide +kernel
theorem dL_built_198 : decode cL_built 198 = .ok (.iload 9, 2) := by decide +kernel
theorem dL_built_200 : decode cL_built 200 = .ok (.aload 4, 2) := by decide +kernel
theorem dL_built_202 : decode cL_built 202 = .ok (.iconst 1, 1) := by decide +kernel
theorem dL_built_203 : decode cL_built 203 = .ok (.iaload, 1) := by decide +kernel
theorem dL_built_204 : decode cL_built 204 = .ok (.if_icmp .ge 203, 3) := by decide +kernel
theorem dL_built_207 : decode cL_built 207 = .ok (.aload_n 1, 1) := by decide +kernel
theorem dL_built_208 : decode cL_built 208 = .ok (.iload_n 2, 1) := by decide +kernel
theorem dL_built_209 : decode cL_built 209 = .ok (.iconst 1, 1) := by decide +kernel
theorem dL_built_210 : decode cL_built 210 = .ok (.iadd, 1) := by decide +kernel
theorem dL_built_211 : decode cL_built 211 = .ok (.iload 9, 2) := by decide +kernel
theorem dL_built_213 : decode cL_built 213 = .ok (.iadd, 1) := by decide +kernel
theorem dL_built_214 : decode cL_built 214 = .ok (.invokestatic 15, 3) := by decide +kernel
theorem dL_built_217 : decode cL_built 217 = .ok (.istore 10, 2) := by decide +kernel
theorem dL_built_219 : decode cL_built 219 = .ok (.aload 4, 2) := by decide +kernel
theorem dL_built_221 : decode cL_built 221 = .ok (.iconst 2, 1) := by decide +kernel
theorem dL_built_222 : decode cL_built 222 = .ok (.iload 9, 2) := by decide +kernel
theorem dL_built_224 : decode cL_built 224 = .ok (.iadd, 1) := by decide +kernel
theorem dL_built_225 : decode cL_built 225 = .ok (.iload 10, 2) := by decide +kernel
theorem dL_built_227 : decode cL_built 227 = .ok (.bipush 6, 2) := by decide +kernel
theorem dL_built_229 : decode cL_built 229 = .ok (.invokestatic 21, 3) := by decide +kernel
theorem dL_built_232 : decode cL_built 232 = .ok (.iastore, 1) := by decide +kernel
theorem dL_built_233 : decode cL_built 233 = .ok (.aload 5, 2) := by decide +kernel
theorem dL_built_235 : decode cL_built 235 = .ok (.iconst 5, 1) := by decide +kernel
theorem dL_built_236 : decode cL_built 236 = .ok (.iload 9, 2) := by decide +kernel
theorem dL_built_238 : decode cL_built 238 = .ok (.iadd, 1) := by decide +kernel
theorem dL_built_239 : decode cL_built 239 = .ok (.iload 10, 2) := by decide +kernel
theorem dL_built_241 : decode cL_built 241 = .ok (.iconst 3, 1) := by decide +kernel
theorem dL_built_242 : decode cL_built 242 = .ok (.ishr, 1) := by decide +kernel
theorem dL_built_243 : decode cL_built 243 = .ok (.iconst 3, 1) := by decide +kernel
theorem dL_built_244 : decode cL_built 244 = .ok (.invokestatic 21, 3) := by decide +kernel
theorem dL_built_247 : decode cL_built 247 = .ok (.ifCond .ne 18, 3) := by decide +kernel
theorem dL_built_250 : decode cL_built 250 = .ok (.bipush 40, 2) := by decide +kernel
theorem dL_built_252 : decode cL_built 252 = .ok (.iload 10, 2) := by decide +kernel
theorem dL_built_254 : decode cL_built 254 = .ok (.iconst 5, 1) := by decide +kernel
theorem dL_built_255 : decode cL_built 255 = .ok (.ishr, 1) := by decide +kernel
theorem dL_built_256 : decode cL_built 256 = .ok (.bipush 12, 2) := by decide +kernel
theorem dL_built_258 : decode cL_built 258 = .ok (.invokestatic 21, 3) := by decide +kernel
theorem dL_built_261 : decode cL_built 261 = .ok (.iadd, 1) := by decide +kernel
theorem dL_built_262 : decode cL_built 262 = .ok (.goto 12, 3) := by decide +kernel
theorem dL_built_265 : decode cL_built 265 = .ok (.iload 10, 2) := by decide +kernel
theorem dL_built_267 : decode cL_built 267 = .ok (.iconst 5, 1) := by decide +kernel
theorem dL_built_268 : decode cL_built 268 = .ok (.ishr, 1) := by decide +kernel
theorem dL_built_269 : decode cL_built 269 = .ok (.bipush 100, 2) := by decide +kernel
theorem dL_built_271 : decode cL_built 271 = .ok (.invokestatic 21, 3) := by decide +kernel
theorem dL_built_274 : decode cL_built 274 = .ok (.iastore, 1) := by decide +kernel
theorem dL_built_275 : decode cL_built 275 = .ok (.aload 4, 2) := by decide +kernel
theorem dL_built_277 : decode cL_built 277 = .ok (.bipush 8, 2) := by decide +kernel
theorem dL_built_279 : decode cL_built 279 = .ok (.iload 9, 2) := by decide +kernel
theorem dL_built_281 : decode cL_built 281 = .ok (.iadd, 1) := by decide +kernel
theorem dL_built_282 : decode cL_built 282 = .ok (.iload 10, 2) := by decide +kernel
theorem dL_built_284 : decode cL_built 284 = .ok (.bipush 12, 2) := by decide +kernel
theorem dL_built_286 : decode cL_built 286 = .ok (.ishr, 1) := by decide +kernel
theorem dL_built_287 : decode cL_built 287 = .ok (.iload 10, 2) := by decide +kernel
theorem dL_built_289 : decode cL_built 289 = .ok (.bipush 20, 2) := by decide +kernel
theorem dL_built_291 : decode cL_built 291 = .ok (.ishr, 1) := by decide +kernel
theorem dL_built_292 : decode cL_built 292 = .ok (.iconst 2, 1) := by decide +kernel
theorem dL_built_293 : decode cL_built 293 = .ok (.invokestatic 21, 3) := by decide +kernel
theorem dL_built_296 : decode cL_built 296 = .ok (.ifCond .ne 8, 3) := by decide +kernel
theorem dL_built_299 : decode cL_built 299 = .ok (.bipush 100, 2) := by decide +kernel
theorem dL_built_301 : decode cL_built 301 = .ok (.goto 5, 3) := by decide +kernel
theorem dL_built_304 : decode cL_built 304 = .ok (.bipush 25, 2) := by decide +kernel
theorem dL_built_306 : decode cL_built 306 = .ok (.invokestatic 21, 3) := by decide +kernel
theorem dL_built_309 : decode cL_built 309 = .ok (.iastore, 1) := by decide +kernel
theorem dL_built_310 : decode cL_built 310 = .ok (.iload 8, 2) := by decide +kernel
theorem dL_built_312 : decode cL_built 312 = .ok (.iload 10, 2) := by decide +kernel
theorem dL_built_314 : decode cL_built 314 = .ok (.bipush 22, 2) := by decide +kernel
theorem dL_built_316 : decode cL_built 316 = .ok (.ishr, 1) := by decide +kernel
theorem dL_built_317 : decode cL_built 317 = .ok (.iconst 3, 1) := by decide +kernel
theorem dL_built_318 : decode cL_built 318 = .ok (.invokestatic 21, 3) := by decide +kernel
theorem dL_built_321 : decode cL_built 321 = .ok (.iadd, 1) := by decide +kernel
theorem dL_built_322 : decode cL_built 322 = .ok (.istore 8, 2) := by decide +kernel
theorem dL_built_324 : decode cL_built 324 = .ok (.iload 7, 2) := by decide +kernel
theorem dL_built_326 : decode cL_built 326 = .ok (.ifCond .eq 69, 3) := by decide +kernel
theorem dL_built_329 : decode cL_built 329 = .ok (.aload_n 0, 1) := by decide +kernel
theorem dL_built_330 : decode cL_built 330 = .ok (.iconst 3, 1) := by decide +kernel
theorem dL_built_331 : decode cL_built 331 = .ok (.iload 8, 2) := by decide +kernel
theorem dL_built_333 : decode cL_built 333 = .ok (.aload 4, 2) := by decide +kernel
theorem dL_built_335 : decode cL_built 335 = .ok (.iconst 2, 1) := by decide +kernel
theorem dL_built_336 : decode cL_built 336 = .ok (.iload 9, 2) := by decide +kernel
theorem dL_built_338 : decode cL_built 338 = .ok (.iadd, 1) := by decide +kernel
theorem dL_built_339 : decode cL_built 339 = .ok (.iaload, 1) := by decide +kernel
theorem dL_built_340 : decode cL_built 340 = .ok (.invokestatic 32, 3) := by decide +kernel
theorem dL_built_343 : decode cL_built 343 = .ok (.invokevirtual 9, 3) := by decide +kernel
theorem dL_built_346 : decode cL_built 346 = .ok (.sipush 1032, 3) := by decide +kernel
theorem dL_built_349 : decode cL_built 349 = .ok (.if_icmp .ne 46, 3) := by decide +kernel
theorem dL_built_352 : decode cL_built 352 = .ok (.aload_n 0, 1) := by decide +kernel
theorem dL_built_353 : decode cL_built 353 = .ok (.iconst 3, 1) := by decide +kernel
theorem dL_built_354 : decode cL_built 354 = .ok (.iload 8, 2) := by decide +kernel
theorem dL_built_356 : decode cL_built 356 = .ok (.iconst 1, 1) := by decide +kernel
theorem dL_built_357 : decode cL_built 357 = .ok (.iadd, 1) := by decide +kernel
theorem dL_built_358 : decode cL_built 358 = .ok (.aload 5, 2) := by decide +kernel
theorem dL_built_360 : decode cL_built 360 = .ok (.iconst 5, 1) := by decide +kernel
theorem dL_built_361 : decode cL_built 361 = .ok (.iload 9, 2) := by decide +kernel
theorem dL_built_363 : decode cL_built 363 = .ok (.iadd, 1) := by decide +kernel
theorem dL_built_364 : decode cL_built 364 = .ok (.iaload, 1) := by decide +kernel
theorem dL_built_365 : decode cL_built 365 = .ok (.invokestatic 28, 3) := by decide +kernel
theorem dL_built_368 : decode cL_built 368 = .ok (.ifCond .eq 27, 3) := by decide +kernel
theorem dL_built_371 : decode cL_built 371 = .ok (.aload_n 0, 1) := by decide +kernel
theorem dL_built_372 : decode cL_built 372 = .ok (.iconst 3, 1) := by decide +kernel
theorem dL_built_373 : decode cL_built 373 = .ok (.iload 8, 2) := by decide +kernel
theorem dL_built_375 : decode cL_built 375 = .ok (.iconst 3, 1) := by decide +kernel
theorem dL_built_376 : decode cL_built 376 = .ok (.iadd, 1) := by decide +kernel
theorem dL_built_377 : decode cL_built 377 = .ok (.aload 4, 2) := by decide +kernel
theorem dL_built_379 : decode cL_built 379 = .ok (.bipush 8, 2) := by decide +kernel
theorem dL_built_381 : decode cL_built 381 = .ok (.iload 9, 2) := by decide +kernel
theorem dL_built_383 : decode cL_built 383 = .ok (.iadd, 1) := by decide +kernel
theorem dL_built_384 : decode cL_built 384 = .ok (.iaload, 1) := by decide +kernel
theorem dL_built_385 : decode cL_built 385 = .ok (.invokestatic 28, 3) := by decide +kernel
theorem dL_built_388 : decode cL_built 388 = .ok (.ifCond .eq 7, 3) := by decide +kernel
theorem dL_built_391 : decode cL_built 391 = .ok (.iconst 1, 1) := by decide +kernel
theorem dL_built_392 : decode cL_built 392 = .ok (.goto 4, 3) := by decide +kernel
theorem dL_built_395 : decode cL_built 395 = .ok (.iconst 0, 1) := by decide +kernel
theorem dL_built_396 : decode cL_built 396 = .ok (.istore 7, 2) := by decide +kernel
theorem dL_built_398 : decode cL_built 398 = .ok (.iinc 8 5, 3) := by decide +kernel
theorem dL_built_401 : decode cL_built 401 = .ok (.iinc 9 1, 3) := by decide +kernel
theorem dL_built_404 : decode cL_built 404 = .ok (.goto (-206), 3) := by decide +kernel
theorem dL_built_407 : decode cL_built 407 = .ok (.iload 7, 2) := by decide +kernel
theorem dL_built_409 : decode cL_built 409 = .ok (.ifCond .eq 29, 3) := by decide +kernel
theorem dL_built_412 : decode cL_built 412 = .ok (.aload_n 0, 1) := by decide +kernel
theorem dL_built_413 : decode cL_built 413 = .ok (.iconst 3, 1) := by decide +kernel
theorem dL_built_414 : decode cL_built 414 = .ok (.invokevirtual 36, 3) := by decide +kernel
theorem dL_built_417 : decode cL_built 417 = .ok (.bipush (-9), 2) := by decide +kernel
theorem dL_built_419 : decode cL_built 419 = .ok (.if_icmp .ne 19, 3) := by decide +kernel
theorem dL_built_422 : decode cL_built 422 = .ok (.aload_n 0, 1) := by decide +kernel
theorem dL_built_423 : decode cL_built 423 = .ok (.iconst 3, 1) := by decide +kernel
theorem dL_built_424 : decode cL_built 424 = .ok (.invokevirtual 39, 3) := by decide +kernel
theorem dL_built_427 : decode cL_built 427 = .ok (.aload 4, 2) := by decide +kernel
theorem dL_built_429 : decode cL_built 429 = .ok (.iconst 1, 1) := by decide +kernel
theorem dL_built_430 : decode cL_built 430 = .ok (.iaload, 1) := by decide +kernel
theorem dL_built_431 : decode cL_built 431 = .ok (.if_icmp .ne 7, 3) := by decide +kernel
theorem dL_built_434 : decode cL_built 434 = .ok (.iconst 1, 1) := by decide +kernel
theorem dL_built_435 : decode cL_built 435 = .ok (.goto 4, 3) := by decide +kernel
theorem dL_built_438 : decode cL_built 438 = .ok (.iconst 0, 1) := by decide +kernel
theorem dL_built_439 : decode cL_built 439 = .ok (.ireturn, 1) := by decide +kernel
theorem dL_has_0 : decode cL_has 0 = .ok (.iload_n 0, 1) := by decide +kernel
theorem dL_has_1 : decode cL_has 1 = .ok (.iload_n 1, 1) := by decide +kernel
theorem dL_has_2 : decode cL_has 2 = .ok (.ishr, 1) := by decide +kernel
theorem dL_has_3 : decode cL_has 3 = .ok (.iconst 1, 1) := by decide +kernel
theorem dL_has_4 : decode cL_has 4 = .ok (.iand, 1) := by decide +kernel
theorem dL_has_5 : decode cL_has 5 = .ok (.iconst 1, 1) := by decide +kernel
theorem dL_has_6 : decode cL_has 6 = .ok (.if_icmp .ne 7, 3) := by decide +kernel
theorem dL_has_9 : decode cL_has 9 = .ok (.iconst 1, 1) := by decide +kernel
theorem dL_has_10 : decode cL_has 10 = .ok (.goto 4, 3) := by decide +kernel
theorem dL_has_13 : decode cL_has 13 = .ok (.iconst 0, 1) := by decide +kernel
theorem dL_has_14 : decode cL_has 14 = .ok (.ireturn, 1) := by decide +kernel
theorem dL_bits_0 : decode cL_bits 0 = .ok (.iconst 0, 1) := by decide +kernel
theorem dL_bits_1 : decode cL_bits 1 = .ok (.istore_n 1, 1) := by decide +kernel
theorem dL_bits_2 : decode cL_bits 2 = .ok (.iconst 0, 1) := by decide +kernel
theorem dL_bits_3 : decode cL_bits 3 = .ok (.istore_n 2, 1) := by decide +kernel
theorem dL_bits_4 : decode cL_bits 4 = .ok (.iload_n 2, 1) := by decide +kernel
theorem dL_bits_5 : decode cL_bits 5 = .ok (.bipush 6, 2) := by decide +kernel
theorem dL_bits_7 : decode cL_bits 7 = .ok (.if_icmp .ge 17, 3) := by decide +kernel
theorem dL_bits_10 : decode cL_bits 10 = .ok (.iload_n 1, 1) := by decide +kernel
theorem dL_bits_11 : decode cL_bits 11 = .ok (.iload_n 0, 1) := by decide +kernel
theorem dL_bits_12 : decode cL_bits 12 = .ok (.iload_n 2, 1) := by decide +kernel
theorem dL_bits_13 : decode cL_bits 13 = .ok (.ishr, 1) := by decide +kernel
theorem dL_bits_14 : decode cL_bits 14 = .ok (.iconst 1, 1) := by decide +kernel
theorem dL_bits_15 : decode cL_bits 15 = .ok (.iand, 1) := by decide +kernel
theorem dL_bits_16 : decode cL_bits 16 = .ok (.iadd, 1) := by decide +kernel
theorem dL_bits_17 : decode cL_bits 17 = .ok (.istore_n 1, 1) := by decide +kernel
theorem dL_bits_18 : decode cL_bits 18 = .ok (.iinc 2 1, 3) := by decide +kernel
theorem dL_bits_21 : decode cL_bits 21 = .ok (.goto (-17), 3) := by decide +kernel
theorem dL_bits_24 : decode cL_bits 24 = .ok (.iload_n 1, 1) := by decide +kernel
theorem dL_bits_25 : decode cL_bits 25 = .ok (.ireturn, 1) := by decide +kernel
theorem dL_copy_0 : decode cL_copy 0 = .ok (.iconst 0, 1) := by decide +kernel
theorem dL_copy_1 : decode cL_copy 1 = .ok (.istore_n 2, 1) := by decide +kernel
theorem dL_copy_2 : decode cL_copy 2 = .ok (.iload_n 2, 1) := by decide +kernel
theorem dL_copy_3 : decode cL_copy 3 = .ok (.bipush 23, 2) := by decide +kernel
theorem dL_copy_5 : decode cL_copy 5 = .ok (.if_icmp .ge 15, 3) := by decide +kernel
theorem dL_copy_8 : decode cL_copy 8 = .ok (.aload_n 1, 1) := by decide +kernel
theorem dL_copy_9 : decode cL_copy 9 = .ok (.iload_n 2, 1) := by decide +kernel
theorem dL_copy_10 : decode cL_copy 10 = .ok (.aload_n 0, 1) := by decide +kernel
theorem dL_copy_11 : decode cL_copy 11 = .ok (.iload_n 2, 1) := by decide +kernel
theorem dL_copy_12 : decode cL_copy 12 = .ok (.iaload, 1) := by decide +kernel
theorem dL_copy_13 : decode cL_copy 13 = .ok (.iastore, 1) := by decide +kernel
theorem dL_copy_14 : decode cL_copy 14 = .ok (.iinc 2 1, 3) := by decide +kernel
theorem dL_copy_17 : decode cL_copy 17 = .ok (.goto (-15), 3) := by decide +kernel
theorem dL_copy_20 : decode cL_copy 20 = .ok (.return_, 1) := by decide +kernel
theorem dL_takes_0 : decode cL_takes 0 = .ok (.iload_n 0, 1) := by decide +kernel
theorem dL_takes_1 : decode cL_takes 1 = .ok (.iconst 3, 1) := by decide +kernel
theorem dL_takes_2 : decode cL_takes 2 = .ok (.if_icmp .eq 21, 3) := by decide +kernel
theorem dL_takes_5 : decode cL_takes 5 = .ok (.iload_n 2, 1) := by decide +kernel
theorem dL_takes_6 : decode cL_takes 6 = .ok (.iconst 1, 1) := by decide +kernel
theorem dL_takes_7 : decode cL_takes 7 = .ok (.if_icmp .ne 20, 3) := by decide +kernel
theorem dL_takes_10 : decode cL_takes 10 = .ok (.iload_n 1, 1) := by decide +kernel
theorem dL_takes_11 : decode cL_takes 11 = .ok (.bipush 10, 2) := by decide +kernel
theorem dL_takes_13 : decode cL_takes 13 = .ok (.idiv, 1) := by decide +kernel
theorem dL_takes_14 : decode cL_takes 14 = .ok (.iconst 4, 1) := by decide +kernel
theorem dL_takes_15 : decode cL_takes 15 = .ok (.if_icmp .ne 12, 3) := by decide +kernel
theorem dL_takes_18 : decode cL_takes 18 = .ok (.iload_n 0, 1) := by decide +kernel
theorem dL_takes_19 : decode cL_takes 19 = .ok (.iconst 5, 1) := by decide +kernel
theorem dL_takes_20 : decode cL_takes 20 = .ok (.if_icmp .eq 7, 3) := by decide +kernel
theorem dL_takes_23 : decode cL_takes 23 = .ok (.iconst 1, 1) := by decide +kernel
theorem dL_takes_24 : decode cL_takes 24 = .ok (.goto 4, 3) := by decide +kernel
theorem dL_takes_27 : decode cL_takes 27 = .ok (.iconst 0, 1) := by decide +kernel
theorem dL_takes_28 : decode cL_takes 28 = .ok (.istore_n 3, 1) := by decide +kernel
theorem dL_takes_29 : decode cL_takes 29 = .ok (.iload_n 1, 1) := by decide +kernel
theorem dL_takes_30 : decode cL_takes 30 = .ok (.bipush 49, 2) := by decide +kernel
theorem dL_takes_32 : decode cL_takes 32 = .ok (.if_icmp .le 7, 3) := by decide +kernel
theorem dL_takes_35 : decode cL_takes 35 = .ok (.iconst 1, 1) := by decide +kernel
theorem dL_takes_36 : decode cL_takes 36 = .ok (.goto 4, 3) := by decide +kernel
theorem dL_takes_39 : decode cL_takes 39 = .ok (.iconst 2, 1) := by decide +kernel
theorem dL_takes_40 : decode cL_takes 40 = .ok (.istore 4, 2) := by decide +kernel
theorem dL_takes_42 : decode cL_takes 42 = .ok (.iload_n 3, 1) := by decide +kernel
theorem dL_takes_43 : decode cL_takes 43 = .ok (.ifCond .eq 7, 3) := by decide +kernel
theorem dL_takes_46 : decode cL_takes 46 = .ok (.iconst 0, 1) := by decide +kernel
theorem dL_takes_47 : decode cL_takes 47 = .ok (.goto 33, 3) := by decide +kernel
theorem dL_takes_50 : decode cL_takes 50 = .ok (.iload_n 0, 1) := by decide +kernel
theorem dL_takes_51 : decode cL_takes 51 = .ok (.iconst 1, 1) := by decide +kernel
theorem dL_takes_52 : decode cL_takes 52 = .ok (.if_icmp .ne 11, 3) := by decide +kernel
theorem dL_takes_55 : decode cL_takes 55 = .ok (.iload 4, 2) := by decide +kernel
theorem dL_takes_57 : decode cL_takes 57 = .ok (.iload 4, 2) := by decide +kernel
theorem dL_takes_59 : decode cL_takes 59 = .ok (.iadd, 1) := by decide +kernel
theorem dL_takes_60 : decode cL_takes 60 = .ok (.goto 20, 3) := by decide +kernel
theorem dL_takes_63 : decode cL_takes 63 = .ok (.iload_n 0, 1) := by decide +kernel
theorem dL_takes_64 : decode cL_takes 64 = .ok (.iconst 4, 1) := by decide +kernel
theorem dL_takes_65 : decode cL_takes 65 = .ok (.if_icmp .ne 13, 3) := by decide +kernel
theorem dL_takes_68 : decode cL_takes 68 = .ok (.iload 4, 2) := by decide +kernel
theorem dL_takes_70 : decode cL_takes 70 = .ok (.iload 4, 2) := by decide +kernel
theorem dL_takes_72 : decode cL_takes 72 = .ok (.iadd, 1) := by decide +kernel
theorem dL_takes_73 : decode cL_takes 73 = .ok (.iconst 1, 1) := by decide +kernel
theorem dL_takes_74 : decode cL_takes 74 = .ok (.iadd, 1) := by decide +kernel
theorem dL_takes_75 : decode cL_takes 75 = .ok (.goto 5, 3) := by decide +kernel
theorem dL_takes_78 : decode cL_takes 78 = .ok (.iload 4, 2) := by decide +kernel
theorem dL_takes_80 : decode cL_takes 80 = .ok (.ireturn, 1) := by decide +kernel
theorem dL_pays_0 : decode cL_pays 0 = .ok (.iload_n 0, 1) := by decide +kernel
theorem dL_pays_1 : decode cL_pays 1 = .ok (.iconst 3, 1) := by decide +kernel
theorem dL_pays_2 : decode cL_pays 2 = .ok (.if_icmp .ne 7, 3) := by decide +kernel
theorem dL_pays_5 : decode cL_pays 5 = .ok (.iconst 0, 1) := by decide +kernel
theorem dL_pays_6 : decode cL_pays 6 = .ok (.goto 22, 3) := by decide +kernel
theorem dL_pays_9 : decode cL_pays 9 = .ok (.iload_n 0, 1) := by decide +kernel
theorem dL_pays_10 : decode cL_pays 10 = .ok (.iconst 5, 1) := by decide +kernel
theorem dL_pays_11 : decode cL_pays 11 = .ok (.if_icmp .ne 7, 3) := by decide +kernel
theorem dL_pays_14 : decode cL_pays 14 = .ok (.iconst 5, 1) := by decide +kernel
theorem dL_pays_15 : decode cL_pays 15 = .ok (.goto 13, 3) := by decide +kernel
theorem dL_pays_18 : decode cL_pays 18 = .ok (.iload_n 0, 1) := by decide +kernel
theorem dL_pays_19 : decode cL_pays 19 = .ok (.iconst 2, 1) := by decide +kernel
theorem dL_pays_20 : decode cL_pays 20 = .ok (.if_icmp .ne 7, 3) := by decide +kernel
theorem dL_pays_23 : decode cL_pays 23 = .ok (.iconst 2, 1) := by decide +kernel
theorem dL_pays_24 : decode cL_pays 24 = .ok (.goto 4, 3) := by decide +kernel
theorem dL_pays_27 : decode cL_pays 27 = .ok (.iconst 1, 1) := by decide +kernel
theorem dL_pays_28 : decode cL_pays 28 = .ok (.ireturn, 1) := by decide +kernel
theorem dL_more_0 : decode cL_more 0 = .ok (.aload_n 0, 1) := by decide +kernel
theorem dL_more_1 : decode cL_more 1 = .ok (.iconst 2, 1) := by decide +kernel
theorem dL_more_2 : decode cL_more 2 = .ok (.iload_n 2, 1) := by decide +kernel
theorem dL_more_3 : decode cL_more 3 = .ok (.iadd, 1) := by decide +kernel
theorem dL_more_4 : decode cL_more 4 = .ok (.iaload, 1) := by decide +kernel
theorem dL_more_5 : decode cL_more 5 = .ok (.aload_n 1, 1) := by decide +kernel
theorem dL_more_6 : decode cL_more 6 = .ok (.iconst 5, 1) := by decide +kernel
theorem dL_more_7 : decode cL_more 7 = .ok (.iload_n 2, 1) := by decide +kernel
theorem dL_more_8 : decode cL_more 8 = .ok (.iadd, 1) := by decide +kernel
theorem dL_more_9 : decode cL_more 9 = .ok (.iaload, 1) := by decide +kernel
theorem dL_more_10 : decode cL_more 10 = .ok (.aload_n 1, 1) := by decide +kernel
theorem dL_more_11 : decode cL_more 11 = .ok (.iconst 3, 1) := by decide +kernel
theorem dL_more_12 : decode cL_more 12 = .ok (.iaload, 1) := by decide +kernel
theorem dL_more_13 : decode cL_more 13 = .ok (.invokestatic 42, 3) := by decide +kernel
theorem dL_more_16 : decode cL_more 16 = .ok (.istore_n 3, 1) := by decide +kernel
theorem dL_more_17 : decode cL_more 17 = .ok (.aload_n 1, 1) := by decide +kernel
theorem dL_more_18 : decode cL_more 18 = .ok (.bipush 17, 2) := by decide +kernel
theorem dL_more_20 : decode cL_more 20 = .ok (.iload_n 2, 1) := by decide +kernel
theorem dL_more_21 : decode cL_more 21 = .ok (.iadd, 1) := by decide +kernel
theorem dL_more_22 : decode cL_more 22 = .ok (.iaload, 1) := by decide +kernel
theorem dL_more_23 : decode cL_more 23 = .ok (.ifCond .lt 7, 3) := by decide +kernel
theorem dL_more_26 : decode cL_more 26 = .ok (.iconst 0, 1) := by decide +kernel
theorem dL_more_27 : decode cL_more 27 = .ok (.goto 36, 3) := by decide +kernel
theorem dL_more_30 : decode cL_more 30 = .ok (.iload_n 3, 1) := by decide +kernel
theorem dL_more_31 : decode cL_more 31 = .ok (.ifCond .ne 8, 3) := by decide +kernel
theorem dL_more_34 : decode cL_more 34 = .ok (.bipush (-9), 2) := by decide +kernel
theorem dL_more_36 : decode cL_more 36 = .ok (.goto 27, 3) := by decide +kernel
theorem dL_more_39 : decode cL_more 39 = .ok (.iload_n 3, 1) := by decide +kernel
theorem dL_more_40 : decode cL_more 40 = .ok (.aload_n 1, 1) := by decide +kernel
theorem dL_more_41 : decode cL_more 41 = .ok (.bipush 11, 2) := by decide +kernel
theorem dL_more_43 : decode cL_more 43 = .ok (.iload_n 2, 1) := by decide +kernel
theorem dL_more_44 : decode cL_more 44 = .ok (.iadd, 1) := by decide +kernel
theorem dL_more_45 : decode cL_more 45 = .ok (.iaload, 1) := by decide +kernel
theorem dL_more_46 : decode cL_more 46 = .ok (.isub, 1) := by decide +kernel
theorem dL_more_47 : decode cL_more 47 = .ok (.iconst 1, 1) := by decide +kernel
theorem dL_more_48 : decode cL_more 48 = .ok (.if_icmp .ge 7, 3) := by decide +kernel
theorem dL_more_51 : decode cL_more 51 = .ok (.iconst 1, 1) := by decide +kernel
theorem dL_more_52 : decode cL_more 52 = .ok (.goto 11, 3) := by decide +kernel
theorem dL_more_55 : decode cL_more 55 = .ok (.iload_n 3, 1) := by decide +kernel
theorem dL_more_56 : decode cL_more 56 = .ok (.aload_n 1, 1) := by decide +kernel
theorem dL_more_57 : decode cL_more 57 = .ok (.bipush 11, 2) := by decide +kernel
theorem dL_more_59 : decode cL_more 59 = .ok (.iload_n 2, 1) := by decide +kernel
theorem dL_more_60 : decode cL_more 60 = .ok (.iadd, 1) := by decide +kernel
theorem dL_more_61 : decode cL_more 61 = .ok (.iaload, 1) := by decide +kernel
theorem dL_more_62 : decode cL_more 62 = .ok (.isub, 1) := by decide +kernel
theorem dL_more_63 : decode cL_more 63 = .ok (.ireturn, 1) := by decide +kernel
theorem dL_awake_0 : decode cL_awake 0 = .ok (.iconst 0, 1) := by decide +kernel
theorem dL_awake_1 : decode cL_awake 1 = .ok (.istore_n 1, 1) := by decide +kernel
theorem dL_awake_2 : decode cL_awake 2 = .ok (.iconst 0, 1) := by decide +kernel
theorem dL_awake_3 : decode cL_awake 3 = .ok (.istore_n 2, 1) := by decide +kernel
theorem dL_awake_4 : decode cL_awake 4 = .ok (.iload_n 2, 1) := by decide +kernel
theorem dL_awake_5 : decode cL_awake 5 = .ok (.bipush 6, 2) := by decide +kernel
theorem dL_awake_7 : decode cL_awake 7 = .ok (.if_icmp .ge 28, 3) := by decide +kernel
theorem dL_awake_10 : decode cL_awake 10 = .ok (.iload_n 1, 1) := by decide +kernel
theorem dL_awake_11 : decode cL_awake 11 = .ok (.aload_n 0, 1) := by decide +kernel
theorem dL_awake_12 : decode cL_awake 12 = .ok (.bipush 17, 2) := by decide +kernel
theorem dL_awake_14 : decode cL_awake 14 = .ok (.iload_n 2, 1) := by decide +kernel
theorem dL_awake_15 : decode cL_awake 15 = .ok (.iadd, 1) := by decide +kernel
theorem dL_awake_16 : decode cL_awake 16 = .ok (.iaload, 1) := by decide +kernel
theorem dL_awake_17 : decode cL_awake 17 = .ok (.ifCond .lt 9, 3) := by decide +kernel
theorem dL_awake_20 : decode cL_awake 20 = .ok (.iconst 1, 1) := by decide +kernel
theorem dL_awake_21 : decode cL_awake 21 = .ok (.iload_n 2, 1) := by decide +kernel
theorem dL_awake_22 : decode cL_awake 22 = .ok (.ishl, 1) := by decide +kernel
theorem dL_awake_23 : decode cL_awake 23 = .ok (.goto 4, 3) := by decide +kernel
theorem dL_awake_26 : decode cL_awake 26 = .ok (.iconst 0, 1) := by decide +kernel
theorem dL_awake_27 : decode cL_awake 27 = .ok (.ior, 1) := by decide +kernel
theorem dL_awake_28 : decode cL_awake 28 = .ok (.istore_n 1, 1) := by decide +kernel
theorem dL_awake_29 : decode cL_awake 29 = .ok (.iinc 2 1, 3) := by decide +kernel
theorem dL_awake_32 : decode cL_awake 32 = .ok (.goto (-28), 3) := by decide +kernel
theorem dL_awake_35 : decode cL_awake 35 = .ok (.iload_n 1, 1) := by decide +kernel
theorem dL_awake_36 : decode cL_awake 36 = .ok (.ireturn, 1) := by decide +kernel
theorem dL_far_0 : decode cL_far 0 = .ok (.iload_n 0, 1) := by decide +kernel
theorem dL_far_1 : decode cL_far 1 = .ok (.iload_n 1, 1) := by decide +kernel
theorem dL_far_2 : decode cL_far 2 = .ok (.if_icmp .ge 9, 3) := by decide +kernel
theorem dL_far_5 : decode cL_far 5 = .ok (.iload_n 1, 1) := by decide +kernel
theorem dL_far_6 : decode cL_far 6 = .ok (.iload_n 0, 1) := by decide +kernel
theorem dL_far_7 : decode cL_far 7 = .ok (.isub, 1) := by decide +kernel
theorem dL_far_8 : decode cL_far 8 = .ok (.goto 6, 3) := by decide +kernel
theorem dL_far_11 : decode cL_far 11 = .ok (.iload_n 0, 1) := by decide +kernel
theorem dL_far_12 : decode cL_far 12 = .ok (.iload_n 1, 1) := by decide +kernel
theorem dL_far_13 : decode cL_far 13 = .ok (.isub, 1) := by decide +kernel
theorem dL_far_14 : decode cL_far 14 = .ok (.ireturn, 1) := by decide +kernel
theorem dL_walk_0 : decode cL_walk 0 = .ok (.aload_n 0, 1) := by decide +kernel
theorem dL_walk_1 : decode cL_walk 1 = .ok (.iconst 0, 1) := by decide +kernel
theorem dL_walk_2 : decode cL_walk 2 = .ok (.dup2, 1) := by decide +kernel
theorem dL_walk_3 : decode cL_walk 3 = .ok (.iaload, 1) := by decide +kernel
theorem dL_walk_4 : decode cL_walk 4 = .ok (.aload_n 0, 1) := by decide +kernel
theorem dL_walk_5 : decode cL_walk 5 = .ok (.iconst 2, 1) := by decide +kernel
theorem dL_walk_6 : decode cL_walk 6 = .ok (.iaload, 1) := by decide +kernel
theorem dL_walk_7 : decode cL_walk 7 = .ok (.iload_n 1, 1) := by decide +kernel
theorem dL_walk_8 : decode cL_walk 8 = .ok (.invokestatic 45, 3) := by decide +kernel
theorem dL_walk_11 : decode cL_walk 11 = .ok (.iadd, 1) := by decide +kernel
theorem dL_walk_12 : decode cL_walk 12 = .ok (.iastore, 1) := by decide +kernel
theorem dL_walk_13 : decode cL_walk 13 = .ok (.aload_n 0, 1) := by decide +kernel
theorem dL_walk_14 : decode cL_walk 14 = .ok (.iconst 2, 1) := by decide +kernel
theorem dL_walk_15 : decode cL_walk 15 = .ok (.iload_n 1, 1) := by decide +kernel
theorem dL_walk_16 : decode cL_walk 16 = .ok (.iastore, 1) := by decide +kernel
theorem dL_walk_17 : decode cL_walk 17 = .ok (.return_, 1) := by decide +kernel
theorem dL_tap_0 : decode cL_tap 0 = .ok (.aload_n 1, 1) := by decide +kernel
theorem dL_tap_1 : decode cL_tap 1 = .ok (.iconst 2, 1) := by decide +kernel
theorem dL_tap_2 : decode cL_tap 2 = .ok (.iaload, 1) := by decide +kernel
theorem dL_tap_3 : decode cL_tap 3 = .ok (.istore_n 2, 1) := by decide +kernel
theorem dL_tap_4 : decode cL_tap 4 = .ok (.aload_n 1, 1) := by decide +kernel
theorem dL_tap_5 : decode cL_tap 5 = .ok (.iconst 0, 1) := by decide +kernel
theorem dL_tap_6 : decode cL_tap 6 = .ok (.dup2, 1) := by decide +kernel
theorem dL_tap_7 : decode cL_tap 7 = .ok (.iaload, 1) := by decide +kernel
theorem dL_tap_8 : decode cL_tap 8 = .ok (.iconst 1, 1) := by decide +kernel
theorem dL_tap_9 : decode cL_tap 9 = .ok (.iadd, 1) := by decide +kernel
theorem dL_tap_10 : decode cL_tap 10 = .ok (.iastore, 1) := by decide +kernel
theorem dL_tap_11 : decode cL_tap 11 = .ok (.aload_n 0, 1) := by decide +kernel
theorem dL_tap_12 : decode cL_tap 12 = .ok (.aload_n 1, 1) := by decide +kernel
theorem dL_tap_13 : decode cL_tap 13 = .ok (.iload_n 2, 1) := by decide +kernel
theorem dL_tap_14 : decode cL_tap 14 = .ok (.invokestatic 48, 3) := by decide +kernel
theorem dL_tap_17 : decode cL_tap 17 = .ok (.iconst 1, 1) := by decide +kernel
theorem dL_tap_18 : decode cL_tap 18 = .ok (.if_icmp .ne 7, 3) := by decide +kernel
theorem dL_tap_21 : decode cL_tap 21 = .ok (.iconst 1, 1) := by decide +kernel
theorem dL_tap_22 : decode cL_tap 22 = .ok (.goto 4, 3) := by decide +kernel
theorem dL_tap_25 : decode cL_tap 25 = .ok (.iconst 0, 1) := by decide +kernel
theorem dL_tap_26 : decode cL_tap 26 = .ok (.istore_n 3, 1) := by decide +kernel
theorem dL_tap_27 : decode cL_tap 27 = .ok (.aload_n 1, 1) := by decide +kernel
theorem dL_tap_28 : decode cL_tap 28 = .ok (.bipush 11, 2) := by decide +kernel
theorem dL_tap_30 : decode cL_tap 30 = .ok (.iload_n 2, 1) := by decide +kernel
theorem dL_tap_31 : decode cL_tap 31 = .ok (.iadd, 1) := by decide +kernel
theorem dL_tap_32 : decode cL_tap 32 = .ok (.dup2, 1) := by decide +kernel
theorem dL_tap_33 : decode cL_tap 33 = .ok (.iaload, 1) := by decide +kernel
theorem dL_tap_34 : decode cL_tap 34 = .ok (.iconst 1, 1) := by decide +kernel
theorem dL_tap_35 : decode cL_tap 35 = .ok (.iadd, 1) := by decide +kernel
theorem dL_tap_36 : decode cL_tap 36 = .ok (.iastore, 1) := by decide +kernel
theorem dL_tap_37 : decode cL_tap 37 = .ok (.iload_n 3, 1) := by decide +kernel
theorem dL_tap_38 : decode cL_tap 38 = .ok (.ifCond .eq 53, 3) := by decide +kernel
theorem dL_tap_41 : decode cL_tap 41 = .ok (.aload_n 1, 1) := by decide +kernel
theorem dL_tap_42 : decode cL_tap 42 = .ok (.bipush 17, 2) := by decide +kernel
theorem dL_tap_44 : decode cL_tap 44 = .ok (.iload_n 2, 1) := by decide +kernel
theorem dL_tap_45 : decode cL_tap 45 = .ok (.iadd, 1) := by decide +kernel
theorem dL_tap_46 : decode cL_tap 46 = .ok (.aload_n 1, 1) := by decide +kernel
theorem dL_tap_47 : decode cL_tap 47 = .ok (.iconst 5, 1) := by decide +kernel
theorem dL_tap_48 : decode cL_tap 48 = .ok (.iload_n 2, 1) := by decide +kernel
theorem dL_tap_49 : decode cL_tap 49 = .ok (.iadd, 1) := by decide +kernel
theorem dL_tap_50 : decode cL_tap 50 = .ok (.iaload, 1) := by decide +kernel
theorem dL_tap_51 : decode cL_tap 51 = .ok (.iastore, 1) := by decide +kernel
theorem dL_tap_52 : decode cL_tap 52 = .ok (.aload_n 1, 1) := by decide +kernel
theorem dL_tap_53 : decode cL_tap 53 = .ok (.iconst 4, 1) := by decide +kernel
theorem dL_tap_54 : decode cL_tap 54 = .ok (.aload_n 1, 1) := by decide +kernel
theorem dL_tap_55 : decode cL_tap 55 = .ok (.iconst 4, 1) := by decide +kernel
theorem dL_tap_56 : decode cL_tap 56 = .ok (.iaload, 1) := by decide +kernel
theorem dL_tap_57 : decode cL_tap 57 = .ok (.aload_n 0, 1) := by decide +kernel
theorem dL_tap_58 : decode cL_tap 58 = .ok (.iconst 2, 1) := by decide +kernel
theorem dL_tap_59 : decode cL_tap 59 = .ok (.iload_n 2, 1) := by decide +kernel
theorem dL_tap_60 : decode cL_tap 60 = .ok (.iadd, 1) := by decide +kernel
theorem dL_tap_61 : decode cL_tap 61 = .ok (.iaload, 1) := by decide +kernel
theorem dL_tap_62 : decode cL_tap 62 = .ok (.invokestatic 52, 3) := by decide +kernel
theorem dL_tap_65 : decode cL_tap 65 = .ok (.iadd, 1) := by decide +kernel
theorem dL_tap_66 : decode cL_tap 66 = .ok (.sipush 9999, 3) := by decide +kernel
theorem dL_tap_69 : decode cL_tap 69 = .ok (.if_icmp .ge 18, 3) := by decide +kernel
theorem dL_tap_72 : decode cL_tap 72 = .ok (.aload_n 1, 1) := by decide +kernel
theorem dL_tap_73 : decode cL_tap 73 = .ok (.iconst 4, 1) := by decide +kernel
theorem dL_tap_74 : decode cL_tap 74 = .ok (.iaload, 1) := by decide +kernel
theorem dL_tap_75 : decode cL_tap 75 = .ok (.aload_n 0, 1) := by decide +kernel
theorem dL_tap_76 : decode cL_tap 76 = .ok (.iconst 2, 1) := by decide +kernel
theorem dL_tap_77 : decode cL_tap 77 = .ok (.iload_n 2, 1) := by decide +kernel
theorem dL_tap_78 : decode cL_tap 78 = .ok (.iadd, 1) := by decide +kernel
theorem dL_tap_79 : decode cL_tap 79 = .ok (.iaload, 1) := by decide +kernel
theorem dL_tap_80 : decode cL_tap 80 = .ok (.invokestatic 52, 3) := by decide +kernel
theorem dL_tap_83 : decode cL_tap 83 = .ok (.iadd, 1) := by decide +kernel
theorem dL_tap_84 : decode cL_tap 84 = .ok (.goto 6, 3) := by decide +kernel
theorem dL_tap_87 : decode cL_tap 87 = .ok (.sipush 9999, 3) := by decide +kernel
theorem dL_tap_90 : decode cL_tap 90 = .ok (.iastore, 1) := by decide +kernel
theorem dL_tap_91 : decode cL_tap 91 = .ok (.aload_n 1, 1) := by decide +kernel
theorem dL_tap_92 : decode cL_tap 92 = .ok (.bipush 17, 2) := by decide +kernel
theorem dL_tap_94 : decode cL_tap 94 = .ok (.iload_n 2, 1) := by decide +kernel
theorem dL_tap_95 : decode cL_tap 95 = .ok (.iadd, 1) := by decide +kernel
theorem dL_tap_96 : decode cL_tap 96 = .ok (.iaload, 1) := by decide +kernel
theorem dL_tap_97 : decode cL_tap 97 = .ok (.ifCond .lt 7, 3) := by decide +kernel
theorem dL_tap_100 : decode cL_tap 100 = .ok (.iconst 1, 1) := by decide +kernel
theorem dL_tap_101 : decode cL_tap 101 = .ok (.goto 4, 3) := by decide +kernel
theorem dL_tap_104 : decode cL_tap 104 = .ok (.iconst 0, 1) := by decide +kernel
theorem dL_tap_105 : decode cL_tap 105 = .ok (.ireturn, 1) := by decide +kernel
theorem dL_night_0 : decode cL_night 0 = .ok (.aload_n 0, 1) := by decide +kernel
theorem dL_night_1 : decode cL_night 1 = .ok (.invokestatic 55, 3) := by decide +kernel
theorem dL_night_4 : decode cL_night 4 = .ok (.invokestatic 59, 3) := by decide +kernel
theorem dL_night_7 : decode cL_night 7 = .ok (.istore_n 1, 1) := by decide +kernel
theorem dL_night_8 : decode cL_night 8 = .ok (.aload_n 0, 1) := by decide +kernel
theorem dL_night_9 : decode cL_night 9 = .ok (.iconst 0, 1) := by decide +kernel
theorem dL_night_10 : decode cL_night 10 = .ok (.iconst 0, 1) := by decide +kernel
theorem dL_night_11 : decode cL_night 11 = .ok (.iastore, 1) := by decide +kernel
theorem dL_night_12 : decode cL_night 12 = .ok (.aload_n 0, 1) := by decide +kernel
theorem dL_night_13 : decode cL_night 13 = .ok (.iconst 1, 1) := by decide +kernel
theorem dL_night_14 : decode cL_night 14 = .ok (.dup2, 1) := by decide +kernel
theorem dL_night_15 : decode cL_night 15 = .ok (.iaload, 1) := by decide +kernel
theorem dL_night_16 : decode cL_night 16 = .ok (.iconst 1, 1) := by decide +kernel
theorem dL_night_17 : decode cL_night 17 = .ok (.iadd, 1) := by decide +kernel
theorem dL_night_18 : decode cL_night 18 = .ok (.iastore, 1) := by decide +kernel
theorem dL_night_19 : decode cL_night 19 = .ok (.aload_n 0, 1) := by decide +kernel
theorem dL_night_20 : decode cL_night 20 = .ok (.iconst 2, 1) := by decide +kernel
theorem dL_night_21 : decode cL_night 21 = .ok (.iconst 0, 1) := by decide +kernel
theorem dL_night_22 : decode cL_night 22 = .ok (.iastore, 1) := by decide +kernel
theorem dL_night_23 : decode cL_night 23 = .ok (.iconst 0, 1) := by decide +kernel
theorem dL_night_24 : decode cL_night 24 = .ok (.istore_n 2, 1) := by decide +kernel
theorem dL_night_25 : decode cL_night 25 = .ok (.iload_n 2, 1) := by decide +kernel
theorem dL_night_26 : decode cL_night 26 = .ok (.bipush 6, 2) := by decide +kernel
theorem dL_night_28 : decode cL_night 28 = .ok (.if_icmp .ge 24, 3) := by decide +kernel
theorem dL_night_31 : decode cL_night 31 = .ok (.aload_n 0, 1) := by decide +kernel
theorem dL_night_32 : decode cL_night 32 = .ok (.bipush 11, 2) := by decide +kernel
theorem dL_night_34 : decode cL_night 34 = .ok (.iload_n 2, 1) := by decide +kernel
theorem dL_night_35 : decode cL_night 35 = .ok (.iadd, 1) := by decide +kernel
theorem dL_night_36 : decode cL_night 36 = .ok (.iconst 0, 1) := by decide +kernel
theorem dL_night_37 : decode cL_night 37 = .ok (.iastore, 1) := by decide +kernel
theorem dL_night_38 : decode cL_night 38 = .ok (.aload_n 0, 1) := by decide +kernel
theorem dL_night_39 : decode cL_night 39 = .ok (.bipush 17, 2) := by decide +kernel
theorem dL_night_41 : decode cL_night 41 = .ok (.iload_n 2, 1) := by decide +kernel
theorem dL_night_42 : decode cL_night 42 = .ok (.iadd, 1) := by decide +kernel
theorem dL_night_43 : decode cL_night 43 = .ok (.bipush (-9), 2) := by decide +kernel
theorem dL_night_45 : decode cL_night 45 = .ok (.iastore, 1) := by decide +kernel
theorem dL_night_46 : decode cL_night 46 = .ok (.iinc 2 1, 3) := by decide +kernel
theorem dL_night_49 : decode cL_night 49 = .ok (.goto (-24), 3) := by decide +kernel
theorem dL_night_52 : decode cL_night 52 = .ok (.iload_n 1, 1) := by decide +kernel
theorem dL_night_53 : decode cL_night 53 = .ok (.ireturn, 1) := by decide +kernel
theorem dL_deed_0 : decode cL_deed 0 = .ok (.iload_n 1, 1) := by decide +kernel
theorem dL_deed_1 : decode cL_deed 1 = .ok (.bipush 14, 2) := by decide +kernel
theorem dL_deed_3 : decode cL_deed 3 = .ok (.invokestatic 21, 3) := by decide +kernel
theorem dL_deed_6 : decode cL_deed 6 = .ok (.istore 4, 2) := by decide +kernel
theorem dL_deed_8 : decode cL_deed 8 = .ok (.aload_n 0, 1) := by decide +kernel
theorem dL_deed_9 : decode cL_deed 9 = .ok (.iconst 3, 1) := by decide +kernel
theorem dL_deed_10 : decode cL_deed 10 = .ok (.invokevirtual 62, 3) := by decide +kernel
theorem dL_deed_13 : decode cL_deed 13 = .ok (.bipush 40, 2) := by decide +kernel
theorem dL_deed_15 : decode cL_deed 15 = .ok (.if_icmp .ne 7, 3) := by decide +kernel
theorem dL_deed_18 : decode cL_deed 18 = .ok (.iconst 1, 1) := by decide +kernel
theorem dL_deed_19 : decode cL_deed 19 = .ok (.goto 4, 3) := by decide +kernel
theorem dL_deed_22 : decode cL_deed 22 = .ok (.iconst 0, 1) := by decide +kernel
theorem dL_deed_23 : decode cL_deed 23 = .ok (.istore 5, 2) := by decide +kernel
theorem dL_deed_25 : decode cL_deed 25 = .ok (.iload_n 1, 1) := by decide +kernel
theorem dL_deed_26 : decode cL_deed 26 = .ok (.iconst 4, 1) := by decide +kernel
theorem dL_deed_27 : decode cL_deed 27 = .ok (.ishr, 1) := by decide +kernel
theorem dL_deed_28 : decode cL_deed 28 = .ok (.aload_n 2, 1) := by decide +kernel
theorem dL_deed_29 : decode cL_deed 29 = .ok (.iconst 1, 1) := by decide +kernel
theorem dL_deed_30 : decode cL_deed 30 = .ok (.iaload, 1) := by decide +kernel
theorem dL_deed_31 : decode cL_deed 31 = .ok (.invokestatic 21, 3) := by decide +kernel
theorem dL_deed_34 : decode cL_deed 34 = .ok (.istore 6, 2) := by decide +kernel
theorem dL_deed_36 : decode cL_deed 36 = .ok (.iload 4, 2) := by decide +kernel
theorem dL_deed_38 : decode cL_deed 38 = .ok (.iconst 3, 1) := by decide +kernel
theorem dL_deed_39 : decode cL_deed 39 = .ok (.if_icmp .ge 86, 3) := by decide +kernel
theorem dL_deed_42 : decode cL_deed 42 = .ok (.iload 6, 2) := by decide +kernel
theorem dL_deed_44 : decode cL_deed 44 = .ok (.aload_n 3, 1) := by decide +kernel
theorem dL_deed_45 : decode cL_deed 45 = .ok (.iconst 2, 1) := by decide +kernel
theorem dL_deed_46 : decode cL_deed 46 = .ok (.iaload, 1) := by decide +kernel
theorem dL_deed_47 : decode cL_deed 47 = .ok (.if_icmp .ne 7, 3) := by decide +kernel
theorem dL_deed_50 : decode cL_deed 50 = .ok (.iconst 1, 1) := by decide +kernel
theorem dL_deed_51 : decode cL_deed 51 = .ok (.goto 4, 3) := by decide +kernel
theorem dL_deed_54 : decode cL_deed 54 = .ok (.iconst 0, 1) := by decide +kernel
theorem dL_deed_55 : decode cL_deed 55 = .ok (.istore 7, 2) := by decide +kernel
theorem dL_deed_57 : decode cL_deed 57 = .ok (.iload 7, 2) := by decide +kernel
theorem dL_deed_59 : decode cL_deed 59 = .ok (.ifCond .ne 14, 3) := by decide +kernel
theorem dL_deed_62 : decode cL_deed 62 = .ok (.iload 5, 2) := by decide +kernel
theorem dL_deed_64 : decode cL_deed 64 = .ok (.ifCond .ne 9, 3) := by decide +kernel
theorem dL_deed_67 : decode cL_deed 67 = .ok (.aload_n 3, 1) := by decide +kernel
theorem dL_deed_68 : decode cL_deed 68 = .ok (.iload 6, 2) := by decide +kernel
theorem dL_deed_70 : decode cL_deed 70 = .ok (.invokestatic 65, 3) := by decide +kernel
theorem dL_deed_73 : decode cL_deed 73 = .ok (.aload_n 0, 1) := by decide +kernel
theorem dL_deed_74 : decode cL_deed 74 = .ok (.iload 6, 2) := by decide +kernel
theorem dL_deed_76 : decode cL_deed 76 = .ok (.invokevirtual 69, 3) := by decide +kernel
theorem dL_deed_79 : decode cL_deed 79 = .ok (.iload 7, 2) := by decide +kernel
theorem dL_deed_81 : decode cL_deed 81 = .ok (.ifCond .eq 8, 3) := by decide +kernel
theorem dL_deed_84 : decode cL_deed 84 = .ok (.bipush (-4), 2) := by decide +kernel
theorem dL_deed_86 : decode cL_deed 86 = .ok (.goto 16, 3) := by decide +kernel
theorem dL_deed_89 : decode cL_deed 89 = .ok (.iload 5, 2) := by decide +kernel
theorem dL_deed_91 : decode cL_deed 91 = .ok (.ifCond .eq 8, 3) := by decide +kernel
theorem dL_deed_94 : decode cL_deed 94 = .ok (.bipush (-2), 2) := by decide +kernel
theorem dL_deed_96 : decode cL_deed 96 = .ok (.goto 6, 3) := by decide +kernel
theorem dL_deed_99 : decode cL_deed 99 = .ok (.aload_n 3, 1) := by decide +kernel
theorem dL_deed_100 : decode cL_deed 100 = .ok (.iconst 0, 1) := by decide +kernel
theorem dL_deed_101 : decode cL_deed 101 = .ok (.iaload, 1) := by decide +kernel
theorem dL_deed_102 : decode cL_deed 102 = .ok (.if_icmp .ne 21, 3) := by decide +kernel
theorem dL_deed_105 : decode cL_deed 105 = .ok (.iload 7, 2) := by decide +kernel
theorem dL_deed_107 : decode cL_deed 107 = .ok (.ifCond .ne 8, 3) := by decide +kernel
theorem dL_deed_110 : decode cL_deed 110 = .ok (.iload 5, 2) := by decide +kernel
theorem dL_deed_112 : decode cL_deed 112 = .ok (.ifCond .eq 7, 3) := by decide +kernel
theorem dL_deed_115 : decode cL_deed 115 = .ok (.iconst 0, 1) := by decide +kernel
theorem dL_deed_116 : decode cL_deed 116 = .ok (.goto 8, 3) := by decide +kernel
theorem dL_deed_119 : decode cL_deed 119 = .ok (.iconst 1, 1) := by decide +kernel
theorem dL_deed_120 : decode cL_deed 120 = .ok (.goto 4, 3) := by decide +kernel
theorem dL_deed_123 : decode cL_deed 123 = .ok (.iconst (-1), 1) := by decide +kernel
theorem dL_deed_124 : decode cL_deed 124 = .ok (.ireturn, 1) := by decide +kernel
theorem dL_deed_125 : decode cL_deed 125 = .ok (.iload 4, 2) := by decide +kernel
theorem dL_deed_127 : decode cL_deed 127 = .ok (.bipush 9, 2) := by decide +kernel
theorem dL_deed_129 : decode cL_deed 129 = .ok (.if_icmp .ge 44, 3) := by decide +kernel
theorem dL_deed_132 : decode cL_deed 132 = .ok (.iload 5, 2) := by decide +kernel
theorem dL_deed_134 : decode cL_deed 134 = .ok (.ifCond .eq 8, 3) := by decide +kernel
theorem dL_deed_137 : decode cL_deed 137 = .ok (.bipush (-2), 2) := by decide +kernel
theorem dL_deed_139 : decode cL_deed 139 = .ok (.goto 8, 3) := by decide +kernel
theorem dL_deed_142 : decode cL_deed 142 = .ok (.aload_n 2, 1) := by decide +kernel
theorem dL_deed_143 : decode cL_deed 143 = .ok (.aload_n 3, 1) := by decide +kernel
theorem dL_deed_144 : decode cL_deed 144 = .ok (.invokestatic 71, 3) := by decide +kernel
theorem dL_deed_147 : decode cL_deed 147 = .ok (.istore 7, 2) := by decide +kernel
theorem dL_deed_149 : decode cL_deed 149 = .ok (.aload_n 0, 1) := by decide +kernel
theorem dL_deed_150 : decode cL_deed 150 = .ok (.invokevirtual 75, 3) := by decide +kernel
theorem dL_deed_153 : decode cL_deed 153 = .ok (.iload 7, 2) := by decide +kernel
theorem dL_deed_155 : decode cL_deed 155 = .ok (.if_icmp .ne 16, 3) := by decide +kernel
theorem dL_deed_158 : decode cL_deed 158 = .ok (.iload 5, 2) := by decide +kernel
theorem dL_deed_160 : decode cL_deed 160 = .ok (.ifCond .eq 7, 3) := by decide +kernel
theorem dL_deed_163 : decode cL_deed 163 = .ok (.iconst 0, 1) := by decide +kernel
theorem dL_deed_164 : decode cL_deed 164 = .ok (.goto 8, 3) := by decide +kernel
theorem dL_deed_167 : decode cL_deed 167 = .ok (.iconst 1, 1) := by decide +kernel
theorem dL_deed_168 : decode cL_deed 168 = .ok (.goto 4, 3) := by decide +kernel
theorem dL_deed_171 : decode cL_deed 171 = .ok (.iconst (-1), 1) := by decide +kernel
theorem dL_deed_172 : decode cL_deed 172 = .ok (.ireturn, 1) := by decide +kernel
theorem dL_deed_173 : decode cL_deed 173 = .ok (.iload 4, 2) := by decide +kernel
theorem dL_deed_175 : decode cL_deed 175 = .ok (.bipush 11, 2) := by decide +kernel
theorem dL_deed_177 : decode cL_deed 177 = .ok (.if_icmp .ge 175, 3) := by decide +kernel
theorem dL_deed_180 : decode cL_deed 180 = .ok (.iload_n 1, 1) := by decide +kernel
theorem dL_deed_181 : decode cL_deed 181 = .ok (.bipush 7, 2) := by decide +kernel
theorem dL_deed_183 : decode cL_deed 183 = .ok (.ishr, 1) := by decide +kernel
theorem dL_deed_184 : decode cL_deed 184 = .ok (.iload_n 1, 1) := by decide +kernel
theorem dL_deed_185 : decode cL_deed 185 = .ok (.bipush 20, 2) := by decide +kernel
theorem dL_deed_187 : decode cL_deed 187 = .ok (.ishr, 1) := by decide +kernel
theorem dL_deed_188 : decode cL_deed 188 = .ok (.bipush 9, 2) := by decide +kernel
theorem dL_deed_190 : decode cL_deed 190 = .ok (.invokestatic 21, 3) := by decide +kernel
theorem dL_deed_193 : decode cL_deed 193 = .ok (.ifCond .ne 8, 3) := by decide +kernel
theorem dL_deed_196 : decode cL_deed 196 = .ok (.bipush 102, 2) := by decide +kernel
theorem dL_deed_198 : decode cL_deed 198 = .ok (.goto 5, 3) := by decide +kernel
theorem dL_deed_201 : decode cL_deed 201 = .ok (.bipush 100, 2) := by decide +kernel
theorem dL_deed_203 : decode cL_deed 203 = .ok (.invokestatic 21, 3) := by decide +kernel
theorem dL_deed_206 : decode cL_deed 206 = .ok (.istore 7, 2) := by decide +kernel
theorem dL_deed_208 : decode cL_deed 208 = .ok (.iload_n 1, 1) := by decide +kernel
theorem dL_deed_209 : decode cL_deed 209 = .ok (.bipush 21, 2) := by decide +kernel
theorem dL_deed_211 : decode cL_deed 211 = .ok (.ishr, 1) := by decide +kernel
theorem dL_deed_212 : decode cL_deed 212 = .ok (.iconst 3, 1) := by decide +kernel
theorem dL_deed_213 : decode cL_deed 213 = .ok (.invokestatic 21, 3) := by decide +kernel
theorem dL_deed_216 : decode cL_deed 216 = .ok (.ifCond .ne 18, 3) := by decide +kernel
theorem dL_deed_219 : decode cL_deed 219 = .ok (.bipush 40, 2) := by decide +kernel
theorem dL_deed_221 : decode cL_deed 221 = .ok (.iload_n 1, 1) := by decide +kernel
theorem dL_deed_222 : decode cL_deed 222 = .ok (.bipush 7, 2) := by decide +kernel
theorem dL_deed_224 : decode cL_deed 224 = .ok (.ishr, 1) := by decide +kernel
theorem dL_deed_225 : decode cL_deed 225 = .ok (.bipush 10, 2) := by decide +kernel
theorem dL_deed_227 : decode cL_deed 227 = .ok (.invokestatic 21, 3) := by decide +kernel
theorem dL_deed_230 : decode cL_deed 230 = .ok (.iadd, 1) := by decide +kernel
theorem dL_deed_231 : decode cL_deed 231 = .ok (.goto 5, 3) := by decide +kernel
theorem dL_deed_234 : decode cL_deed 234 = .ok (.iload 7, 2) := by decide +kernel
theorem dL_deed_236 : decode cL_deed 236 = .ok (.istore 7, 2) := by decide +kernel
theorem dL_deed_238 : decode cL_deed 238 = .ok (.aload_n 3, 1) := by decide +kernel
theorem dL_deed_239 : decode cL_deed 239 = .ok (.iconst 5, 1) := by decide +kernel
theorem dL_deed_240 : decode cL_deed 240 = .ok (.iload 6, 2) := by decide +kernel
theorem dL_deed_242 : decode cL_deed 242 = .ok (.iadd, 1) := by decide +kernel
theorem dL_deed_243 : decode cL_deed 243 = .ok (.iaload, 1) := by decide +kernel
theorem dL_deed_244 : decode cL_deed 244 = .ok (.istore 8, 2) := by decide +kernel
theorem dL_deed_246 : decode cL_deed 246 = .ok (.iload 7, 2) := by decide +kernel
theorem dL_deed_248 : decode cL_deed 248 = .ok (.bipush 99, 2) := by decide +kernel
theorem dL_deed_250 : decode cL_deed 250 = .ok (.if_icmp .le 7, 3) := by decide +kernel
theorem dL_deed_253 : decode cL_deed 253 = .ok (.iconst (-1), 1) := by decide +kernel
theorem dL_deed_254 : decode cL_deed 254 = .ok (.goto 27, 3) := by decide +kernel
theorem dL_deed_257 : decode cL_deed 257 = .ok (.iload 7, 2) := by decide +kernel
theorem dL_deed_259 : decode cL_deed 259 = .ok (.iload 8, 2) := by decide +kernel
theorem dL_deed_261 : decode cL_deed 261 = .ok (.if_icmp .ne 8, 3) := by decide +kernel
theorem dL_deed_264 : decode cL_deed 264 = .ok (.bipush (-4), 2) := by decide +kernel
theorem dL_deed_266 : decode cL_deed 266 = .ok (.goto 15, 3) := by decide +kernel
theorem dL_deed_269 : decode cL_deed 269 = .ok (.iload 5, 2) := by decide +kernel
theorem dL_deed_271 : decode cL_deed 271 = .ok (.ifCond .eq 8, 3) := by decide +kernel
theorem dL_deed_274 : decode cL_deed 274 = .ok (.bipush (-2), 2) := by decide +kernel
theorem dL_deed_276 : decode cL_deed 276 = .ok (.goto 5, 3) := by decide +kernel
theorem dL_deed_279 : decode cL_deed 279 = .ok (.iload 8, 2) := by decide +kernel
theorem dL_deed_281 : decode cL_deed 281 = .ok (.istore 9, 2) := by decide +kernel
theorem dL_deed_283 : decode cL_deed 283 = .ok (.aload_n 3, 1) := by decide +kernel
theorem dL_deed_284 : decode cL_deed 284 = .ok (.iconst 5, 1) := by decide +kernel
theorem dL_deed_285 : decode cL_deed 285 = .ok (.iload 6, 2) := by decide +kernel
theorem dL_deed_287 : decode cL_deed 287 = .ok (.iadd, 1) := by decide +kernel
theorem dL_deed_288 : decode cL_deed 288 = .ok (.iload 9, 2) := by decide +kernel
theorem dL_deed_290 : decode cL_deed 290 = .ok (.ifCond .ge 8, 3) := by decide +kernel
theorem dL_deed_293 : decode cL_deed 293 = .ok (.iload 8, 2) := by decide +kernel
theorem dL_deed_295 : decode cL_deed 295 = .ok (.goto 5, 3) := by decide +kernel
theorem dL_deed_298 : decode cL_deed 298 = .ok (.iload 7, 2) := by decide +kernel
theorem dL_deed_300 : decode cL_deed 300 = .ok (.iastore, 1) := by decide +kernel
theorem dL_deed_301 : decode cL_deed 301 = .ok (.aload_n 3, 1) := by decide +kernel
theorem dL_deed_302 : decode cL_deed 302 = .ok (.bipush 11, 2) := by decide +kernel
theorem dL_deed_304 : decode cL_deed 304 = .ok (.iload 6, 2) := by decide +kernel
theorem dL_deed_306 : decode cL_deed 306 = .ok (.iadd, 1) := by decide +kernel
theorem dL_deed_307 : decode cL_deed 307 = .ok (.iload 9, 2) := by decide +kernel
theorem dL_deed_309 : decode cL_deed 309 = .ok (.ifCond .ge 13, 3) := by decide +kernel
theorem dL_deed_312 : decode cL_deed 312 = .ok (.aload_n 3, 1) := by decide +kernel
theorem dL_deed_313 : decode cL_deed 313 = .ok (.bipush 11, 2) := by decide +kernel
theorem dL_deed_315 : decode cL_deed 315 = .ok (.iload 6, 2) := by decide +kernel
theorem dL_deed_317 : decode cL_deed 317 = .ok (.iadd, 1) := by decide +kernel
theorem dL_deed_318 : decode cL_deed 318 = .ok (.iaload, 1) := by decide +kernel
theorem dL_deed_319 : decode cL_deed 319 = .ok (.goto 4, 3) := by decide +kernel
theorem dL_deed_322 : decode cL_deed 322 = .ok (.iconst 0, 1) := by decide +kernel
theorem dL_deed_323 : decode cL_deed 323 = .ok (.iastore, 1) := by decide +kernel
theorem dL_deed_324 : decode cL_deed 324 = .ok (.aload_n 0, 1) := by decide +kernel
theorem dL_deed_325 : decode cL_deed 325 = .ok (.iload 6, 2) := by decide +kernel
theorem dL_deed_327 : decode cL_deed 327 = .ok (.iload 7, 2) := by decide +kernel
theorem dL_deed_329 : decode cL_deed 329 = .ok (.invokevirtual 78, 3) := by decide +kernel
theorem dL_deed_332 : decode cL_deed 332 = .ok (.iload 9, 2) := by decide +kernel
theorem dL_deed_334 : decode cL_deed 334 = .ok (.if_icmp .ne 16, 3) := by decide +kernel
theorem dL_deed_337 : decode cL_deed 337 = .ok (.iload 9, 2) := by decide +kernel
theorem dL_deed_339 : decode cL_deed 339 = .ok (.ifCond .ge 7, 3) := by decide +kernel
theorem dL_deed_342 : decode cL_deed 342 = .ok (.iconst 0, 1) := by decide +kernel
theorem dL_deed_343 : decode cL_deed 343 = .ok (.goto 8, 3) := by decide +kernel
theorem dL_deed_346 : decode cL_deed 346 = .ok (.iconst 1, 1) := by decide +kernel
theorem dL_deed_347 : decode cL_deed 347 = .ok (.goto 4, 3) := by decide +kernel
theorem dL_deed_350 : decode cL_deed 350 = .ok (.iconst (-1), 1) := by decide +kernel
theorem dL_deed_351 : decode cL_deed 351 = .ok (.ireturn, 1) := by decide +kernel
theorem dL_deed_352 : decode cL_deed 352 = .ok (.iload 4, 2) := by decide +kernel
theorem dL_deed_354 : decode cL_deed 354 = .ok (.bipush 13, 2) := by decide +kernel
theorem dL_deed_356 : decode cL_deed 356 = .ok (.if_icmp .ge 108, 3) := by decide +kernel
theorem dL_deed_359 : decode cL_deed 359 = .ok (.iload_n 1, 1) := by decide +kernel
theorem dL_deed_360 : decode cL_deed 360 = .ok (.bipush 7, 2) := by decide +kernel
theorem dL_deed_362 : decode cL_deed 362 = .ok (.ishr, 1) := by decide +kernel
theorem dL_deed_363 : decode cL_deed 363 = .ok (.iload_n 1, 1) := by decide +kernel
theorem dL_deed_364 : decode cL_deed 364 = .ok (.bipush 20, 2) := by decide +kernel
theorem dL_deed_366 : decode cL_deed 366 = .ok (.ishr, 1) := by decide +kernel
theorem dL_deed_367 : decode cL_deed 367 = .ok (.bipush 9, 2) := by decide +kernel
theorem dL_deed_369 : decode cL_deed 369 = .ok (.invokestatic 21, 3) := by decide +kernel
theorem dL_deed_372 : decode cL_deed 372 = .ok (.ifCond .ne 7, 3) := by decide +kernel
theorem dL_deed_375 : decode cL_deed 375 = .ok (.iconst 3, 1) := by decide +kernel
theorem dL_deed_376 : decode cL_deed 376 = .ok (.goto 4, 3) := by decide +kernel
theorem dL_deed_379 : decode cL_deed 379 = .ok (.iconst 2, 1) := by decide +kernel
theorem dL_deed_380 : decode cL_deed 380 = .ok (.invokestatic 21, 3) := by decide +kernel
theorem dL_deed_383 : decode cL_deed 383 = .ok (.istore 7, 2) := by decide +kernel
theorem dL_deed_385 : decode cL_deed 385 = .ok (.iload 7, 2) := by decide +kernel
theorem dL_deed_387 : decode cL_deed 387 = .ok (.iconst 1, 1) := by decide +kernel
theorem dL_deed_388 : decode cL_deed 388 = .ok (.if_icmp .le 7, 3) := by decide +kernel
theorem dL_deed_391 : decode cL_deed 391 = .ok (.iconst (-1), 1) := by decide +kernel
theorem dL_deed_392 : decode cL_deed 392 = .ok (.goto 28, 3) := by decide +kernel
theorem dL_deed_395 : decode cL_deed 395 = .ok (.iload 7, 2) := by decide +kernel
theorem dL_deed_397 : decode cL_deed 397 = .ok (.aload_n 3, 1) := by decide +kernel
theorem dL_deed_398 : decode cL_deed 398 = .ok (.iconst 3, 1) := by decide +kernel
theorem dL_deed_399 : decode cL_deed 399 = .ok (.iaload, 1) := by decide +kernel
theorem dL_deed_400 : decode cL_deed 400 = .ok (.if_icmp .ne 8, 3) := by decide +kernel
theorem dL_deed_403 : decode cL_deed 403 = .ok (.bipush (-4), 2) := by decide +kernel
theorem dL_deed_405 : decode cL_deed 405 = .ok (.goto 15, 3) := by decide +kernel
theorem dL_deed_408 : decode cL_deed 408 = .ok (.iload 5, 2) := by decide +kernel
theorem dL_deed_410 : decode cL_deed 410 = .ok (.ifCond .eq 8, 3) := by decide +kernel
theorem dL_deed_413 : decode cL_deed 413 = .ok (.bipush (-2), 2) := by decide +kernel
theorem dL_deed_415 : decode cL_deed 415 = .ok (.goto 5, 3) := by decide +kernel
theorem dL_deed_418 : decode cL_deed 418 = .ok (.iload 7, 2) := by decide +kernel
theorem dL_deed_420 : decode cL_deed 420 = .ok (.istore 8, 2) := by decide +kernel
theorem dL_deed_422 : decode cL_deed 422 = .ok (.aload_n 3, 1) := by decide +kernel
theorem dL_deed_423 : decode cL_deed 423 = .ok (.iconst 3, 1) := by decide +kernel
theorem dL_deed_424 : decode cL_deed 424 = .ok (.iload 8, 2) := by decide +kernel
theorem dL_deed_426 : decode cL_deed 426 = .ok (.ifCond .ge 9, 3) := by decide +kernel
theorem dL_deed_429 : decode cL_deed 429 = .ok (.aload_n 3, 1) := by decide +kernel
theorem dL_deed_430 : decode cL_deed 430 = .ok (.iconst 3, 1) := by decide +kernel
theorem dL_deed_431 : decode cL_deed 431 = .ok (.iaload, 1) := by decide +kernel
theorem dL_deed_432 : decode cL_deed 432 = .ok (.goto 5, 3) := by decide +kernel
theorem dL_deed_435 : decode cL_deed 435 = .ok (.iload 7, 2) := by decide +kernel
theorem dL_deed_437 : decode cL_deed 437 = .ok (.iastore, 1) := by decide +kernel
theorem dL_deed_438 : decode cL_deed 438 = .ok (.aload_n 0, 1) := by decide +kernel
theorem dL_deed_439 : decode cL_deed 439 = .ok (.iload 7, 2) := by decide +kernel
theorem dL_deed_441 : decode cL_deed 441 = .ok (.invokevirtual 81, 3) := by decide +kernel
theorem dL_deed_444 : decode cL_deed 444 = .ok (.iload 8, 2) := by decide +kernel
theorem dL_deed_446 : decode cL_deed 446 = .ok (.if_icmp .ne 16, 3) := by decide +kernel
theorem dL_deed_449 : decode cL_deed 449 = .ok (.iload 8, 2) := by decide +kernel
theorem dL_deed_451 : decode cL_deed 451 = .ok (.ifCond .ge 7, 3) := by decide +kernel
theorem dL_deed_454 : decode cL_deed 454 = .ok (.iconst 0, 1) := by decide +kernel
theorem dL_deed_455 : decode cL_deed 455 = .ok (.goto 8, 3) := by decide +kernel
theorem dL_deed_458 : decode cL_deed 458 = .ok (.iconst 1, 1) := by decide +kernel
theorem dL_deed_459 : decode cL_deed 459 = .ok (.goto 4, 3) := by decide +kernel
theorem dL_deed_462 : decode cL_deed 462 = .ok (.iconst (-1), 1) := by decide +kernel
theorem dL_deed_463 : decode cL_deed 463 = .ok (.ireturn, 1) := by decide +kernel
theorem dL_deed_464 : decode cL_deed 464 = .ok (.iload 5, 2) := by decide +kernel
theorem dL_deed_466 : decode cL_deed 466 = .ok (.ifCond .eq 8, 3) := by decide +kernel
theorem dL_deed_469 : decode cL_deed 469 = .ok (.bipush (-2), 2) := by decide +kernel
theorem dL_deed_471 : decode cL_deed 471 = .ok (.goto 7, 3) := by decide +kernel
theorem dL_deed_474 : decode cL_deed 474 = .ok (.aload_n 3, 1) := by decide +kernel
theorem dL_deed_475 : decode cL_deed 475 = .ok (.invokestatic 84, 3) := by decide +kernel
theorem dL_deed_478 : decode cL_deed 478 = .ok (.istore 7, 2) := by decide +kernel
theorem dL_deed_480 : decode cL_deed 480 = .ok (.aload_n 0, 1) := by decide +kernel
theorem dL_deed_481 : decode cL_deed 481 = .ok (.invokevirtual 87, 3) := by decide +kernel
theorem dL_deed_484 : decode cL_deed 484 = .ok (.iload 7, 2) := by decide +kernel
theorem dL_deed_486 : decode cL_deed 486 = .ok (.if_icmp .ne 16, 3) := by decide +kernel
theorem dL_deed_489 : decode cL_deed 489 = .ok (.iload 5, 2) := by decide +kernel
theorem dL_deed_491 : decode cL_deed 491 = .ok (.ifCond .eq 7, 3) := by decide +kernel
theorem dL_deed_494 : decode cL_deed 494 = .ok (.iconst 0, 1) := by decide +kernel
theorem dL_deed_495 : decode cL_deed 495 = .ok (.goto 8, 3) := by decide +kernel
theorem dL_deed_498 : decode cL_deed 498 = .ok (.iconst 1, 1) := by decide +kernel
theorem dL_deed_499 : decode cL_deed 499 = .ok (.goto 4, 3) := by decide +kernel
theorem dL_deed_502 : decode cL_deed 502 = .ok (.iconst (-1), 1) := by decide +kernel
theorem dL_deed_503 : decode cL_deed 503 = .ok (.ireturn, 1) := by decide +kernel
theorem dL_same_0 : decode cL_same 0 = .ok (.iconst 0, 1) := by decide +kernel
theorem dL_same_1 : decode cL_same 1 = .ok (.istore_n 3, 1) := by decide +kernel
theorem dL_same_2 : decode cL_same 2 = .ok (.iconst 0, 1) := by decide +kernel
theorem dL_same_3 : decode cL_same 3 = .ok (.istore 4, 2) := by decide +kernel
theorem dL_same_5 : decode cL_same 5 = .ok (.aload_n 0, 1) := by decide +kernel
theorem dL_same_6 : decode cL_same 6 = .ok (.iconst 0, 1) := by decide +kernel
theorem dL_same_7 : decode cL_same 7 = .ok (.invokevirtual 62, 3) := by decide +kernel
theorem dL_same_10 : decode cL_same 10 = .ok (.aload_n 1, 1) := by decide +kernel
theorem dL_same_11 : decode cL_same 11 = .ok (.iconst 1, 1) := by decide +kernel
theorem dL_same_12 : decode cL_same 12 = .ok (.iaload, 1) := by decide +kernel
theorem dL_same_13 : decode cL_same 13 = .ok (.if_icmp .ne 88, 3) := by decide +kernel
theorem dL_same_16 : decode cL_same 16 = .ok (.aload_n 0, 1) := by decide +kernel
theorem dL_same_17 : decode cL_same 17 = .ok (.iconst 1, 1) := by decide +kernel
theorem dL_same_18 : decode cL_same 18 = .ok (.invokevirtual 62, 3) := by decide +kernel
theorem dL_same_21 : decode cL_same 21 = .ok (.aload_n 2, 1) := by decide +kernel
theorem dL_same_22 : decode cL_same 22 = .ok (.iconst 0, 1) := by decide +kernel
theorem dL_same_23 : decode cL_same 23 = .ok (.iaload, 1) := by decide +kernel
theorem dL_same_24 : decode cL_same 24 = .ok (.if_icmp .ne 77, 3) := by decide +kernel
theorem dL_same_27 : decode cL_same 27 = .ok (.aload_n 0, 1) := by decide +kernel
theorem dL_same_28 : decode cL_same 28 = .ok (.iconst 2, 1) := by decide +kernel
theorem dL_same_29 : decode cL_same 29 = .ok (.invokevirtual 62, 3) := by decide +kernel
theorem dL_same_32 : decode cL_same 32 = .ok (.aload_n 2, 1) := by decide +kernel
theorem dL_same_33 : decode cL_same 33 = .ok (.iconst 1, 1) := by decide +kernel
theorem dL_same_34 : decode cL_same 34 = .ok (.iaload, 1) := by decide +kernel
theorem dL_same_35 : decode cL_same 35 = .ok (.if_icmp .ne 66, 3) := by decide +kernel
theorem dL_same_38 : decode cL_same 38 = .ok (.aload_n 0, 1) := by decide +kernel
theorem dL_same_39 : decode cL_same 39 = .ok (.iconst 4, 1) := by decide +kernel
theorem dL_same_40 : decode cL_same 40 = .ok (.invokevirtual 62, 3) := by decide +kernel
theorem dL_same_43 : decode cL_same 43 = .ok (.aload_n 2, 1) := by decide +kernel
theorem dL_same_44 : decode cL_same 44 = .ok (.iconst 2, 1) := by decide +kernel
theorem dL_same_45 : decode cL_same 45 = .ok (.iaload, 1) := by decide +kernel
theorem dL_same_46 : decode cL_same 46 = .ok (.if_icmp .ne 55, 3) := by decide +kernel
theorem dL_same_49 : decode cL_same 49 = .ok (.aload_n 0, 1) := by decide +kernel
theorem dL_same_50 : decode cL_same 50 = .ok (.iconst 5, 1) := by decide +kernel
theorem dL_same_51 : decode cL_same 51 = .ok (.invokevirtual 62, 3) := by decide +kernel
theorem dL_same_54 : decode cL_same 54 = .ok (.aload_n 2, 1) := by decide +kernel
theorem dL_same_55 : decode cL_same 55 = .ok (.iconst 3, 1) := by decide +kernel
theorem dL_same_56 : decode cL_same 56 = .ok (.iaload, 1) := by decide +kernel
theorem dL_same_57 : decode cL_same 57 = .ok (.if_icmp .ne 44, 3) := by decide +kernel
theorem dL_same_60 : decode cL_same 60 = .ok (.aload_n 0, 1) := by decide +kernel
theorem dL_same_61 : decode cL_same 61 = .ok (.bipush 6, 2) := by decide +kernel
theorem dL_same_63 : decode cL_same 63 = .ok (.invokevirtual 62, 3) := by decide +kernel
theorem dL_same_66 : decode cL_same 66 = .ok (.aload_n 2, 1) := by decide +kernel
theorem dL_same_67 : decode cL_same 67 = .ok (.invokestatic 55, 3) := by decide +kernel
theorem dL_same_70 : decode cL_same 70 = .ok (.if_icmp .ne 31, 3) := by decide +kernel
theorem dL_same_73 : decode cL_same 73 = .ok (.aload_n 0, 1) := by decide +kernel
theorem dL_same_74 : decode cL_same 74 = .ok (.bipush 7, 2) := by decide +kernel
theorem dL_same_76 : decode cL_same 76 = .ok (.invokevirtual 62, 3) := by decide +kernel
theorem dL_same_79 : decode cL_same 79 = .ok (.aload_n 2, 1) := by decide +kernel
theorem dL_same_80 : decode cL_same 80 = .ok (.iconst 4, 1) := by decide +kernel
theorem dL_same_81 : decode cL_same 81 = .ok (.iaload, 1) := by decide +kernel
theorem dL_same_82 : decode cL_same 82 = .ok (.if_icmp .ne 19, 3) := by decide +kernel
theorem dL_same_85 : decode cL_same 85 = .ok (.aload_n 0, 1) := by decide +kernel
theorem dL_same_86 : decode cL_same 86 = .ok (.bipush 13, 2) := by decide +kernel
theorem dL_same_88 : decode cL_same 88 = .ok (.invokevirtual 62, 3) := by decide +kernel
theorem dL_same_91 : decode cL_same 91 = .ok (.aload_n 1, 1) := by decide +kernel
theorem dL_same_92 : decode cL_same 92 = .ok (.iconst 0, 1) := by decide +kernel
theorem dL_same_93 : decode cL_same 93 = .ok (.iaload, 1) := by decide +kernel
theorem dL_same_94 : decode cL_same 94 = .ok (.if_icmp .ne 7, 3) := by decide +kernel
theorem dL_same_97 : decode cL_same 97 = .ok (.iconst 1, 1) := by decide +kernel
theorem dL_same_98 : decode cL_same 98 = .ok (.goto 4, 3) := by decide +kernel
theorem dL_same_101 : decode cL_same 101 = .ok (.iconst 0, 1) := by decide +kernel
theorem dL_same_102 : decode cL_same 102 = .ok (.istore 5, 2) := by decide +kernel
theorem dL_same_104 : decode cL_same 104 = .ok (.iconst 0, 1) := by decide +kernel
theorem dL_same_105 : decode cL_same 105 = .ok (.istore 6, 2) := by decide +kernel
theorem dL_same_107 : decode cL_same 107 = .ok (.iload 6, 2) := by decide +kernel
theorem dL_same_109 : decode cL_same 109 = .ok (.aload_n 1, 1) := by decide +kernel
theorem dL_same_110 : decode cL_same 110 = .ok (.iconst 1, 1) := by decide +kernel
theorem dL_same_111 : decode cL_same 111 = .ok (.iaload, 1) := by decide +kernel
theorem dL_same_112 : decode cL_same 112 = .ok (.if_icmp .ge 215, 3) := by decide +kernel
theorem dL_same_115 : decode cL_same 115 = .ok (.aload_n 1, 1) := by decide +kernel
theorem dL_same_116 : decode cL_same 116 = .ok (.iconst 2, 1) := by decide +kernel
theorem dL_same_117 : decode cL_same 117 = .ok (.iload 6, 2) := by decide +kernel
theorem dL_same_119 : decode cL_same 119 = .ok (.iadd, 1) := by decide +kernel
theorem dL_same_120 : decode cL_same 120 = .ok (.iaload, 1) := by decide +kernel
theorem dL_same_121 : decode cL_same 121 = .ok (.istore 7, 2) := by decide +kernel
theorem dL_same_123 : decode cL_same 123 = .ok (.iload_n 3, 1) := by decide +kernel
theorem dL_same_124 : decode cL_same 124 = .ok (.iload 7, 2) := by decide +kernel
theorem dL_same_126 : decode cL_same 126 = .ok (.iconst 1, 1) := by decide +kernel
theorem dL_same_127 : decode cL_same 127 = .ok (.if_icmp .eq 9, 3) := by decide +kernel
theorem dL_same_130 : decode cL_same 130 = .ok (.iload 7, 2) := by decide +kernel
theorem dL_same_132 : decode cL_same 132 = .ok (.iconst 4, 1) := by decide +kernel
theorem dL_same_133 : decode cL_same 133 = .ok (.if_icmp .ne 7, 3) := by decide +kernel
theorem dL_same_136 : decode cL_same 136 = .ok (.iconst 1, 1) := by decide +kernel
theorem dL_same_137 : decode cL_same 137 = .ok (.goto 4, 3) := by decide +kernel
theorem dL_same_140 : decode cL_same 140 = .ok (.iconst 0, 1) := by decide +kernel
theorem dL_same_141 : decode cL_same 141 = .ok (.iadd, 1) := by decide +kernel
theorem dL_same_142 : decode cL_same 142 = .ok (.istore_n 3, 1) := by decide +kernel
theorem dL_same_143 : decode cL_same 143 = .ok (.iload 4, 2) := by decide +kernel
theorem dL_same_145 : decode cL_same 145 = .ok (.iload 7, 2) := by decide +kernel
theorem dL_same_147 : decode cL_same 147 = .ok (.iconst 2, 1) := by decide +kernel
theorem dL_same_148 : decode cL_same 148 = .ok (.if_icmp .eq 9, 3) := by decide +kernel
theorem dL_same_151 : decode cL_same 151 = .ok (.iload 7, 2) := by decide +kernel
theorem dL_same_153 : decode cL_same 153 = .ok (.iconst 5, 1) := by decide +kernel
theorem dL_same_154 : decode cL_same 154 = .ok (.if_icmp .ne 7, 3) := by decide +kernel
theorem dL_same_157 : decode cL_same 157 = .ok (.iconst 1, 1) := by decide +kernel
theorem dL_same_158 : decode cL_same 158 = .ok (.goto 4, 3) := by decide +kernel
theorem dL_same_161 : decode cL_same 161 = .ok (.iconst 0, 1) := by decide +kernel
theorem dL_same_162 : decode cL_same 162 = .ok (.iadd, 1) := by decide +kernel
theorem dL_same_163 : decode cL_same 163 = .ok (.istore 4, 2) := by decide +kernel
theorem dL_same_165 : decode cL_same 165 = .ok (.iload 5, 2) := by decide +kernel
theorem dL_same_167 : decode cL_same 167 = .ok (.ifCond .eq 151, 3) := by decide +kernel
theorem dL_same_170 : decode cL_same 170 = .ok (.aload_n 0, 1) := by decide +kernel
theorem dL_same_171 : decode cL_same 171 = .ok (.iload 6, 2) := by decide +kernel
theorem dL_same_173 : decode cL_same 173 = .ok (.iconst 0, 1) := by decide +kernel
theorem dL_same_174 : decode cL_same 174 = .ok (.invokevirtual 89, 3) := by decide +kernel
theorem dL_same_177 : decode cL_same 177 = .ok (.iconst 1, 1) := by decide +kernel
theorem dL_same_178 : decode cL_same 178 = .ok (.if_icmp .ne 140, 3) := by decide +kernel
theorem dL_same_181 : decode cL_same 181 = .ok (.aload_n 0, 1) := by decide +kernel
theorem dL_same_182 : decode cL_same 182 = .ok (.invokevirtual 92, 3) := by decide +kernel
theorem dL_same_185 : decode cL_same 185 = .ok (.iload 7, 2) := by decide +kernel
theorem dL_same_187 : decode cL_same 187 = .ok (.if_icmp .ne 131, 3) := by decide +kernel
theorem dL_same_190 : decode cL_same 190 = .ok (.aload_n 0, 1) := by decide +kernel
theorem dL_same_191 : decode cL_same 191 = .ok (.iload 6, 2) := by decide +kernel
theorem dL_same_193 : decode cL_same 193 = .ok (.iconst 1, 1) := by decide +kernel
theorem dL_same_194 : decode cL_same 194 = .ok (.invokevirtual 89, 3) := by decide +kernel
theorem dL_same_197 : decode cL_same 197 = .ok (.iconst 1, 1) := by decide +kernel
theorem dL_same_198 : decode cL_same 198 = .ok (.if_icmp .ne 120, 3) := by decide +kernel
theorem dL_same_201 : decode cL_same 201 = .ok (.aload_n 0, 1) := by decide +kernel
theorem dL_same_202 : decode cL_same 202 = .ok (.invokevirtual 92, 3) := by decide +kernel
theorem dL_same_205 : decode cL_same 205 = .ok (.aload_n 2, 1) := by decide +kernel
theorem dL_same_206 : decode cL_same 206 = .ok (.iconst 5, 1) := by decide +kernel
theorem dL_same_207 : decode cL_same 207 = .ok (.iload 6, 2) := by decide +kernel
theorem dL_same_209 : decode cL_same 209 = .ok (.iadd, 1) := by decide +kernel
theorem dL_same_210 : decode cL_same 210 = .ok (.iaload, 1) := by decide +kernel
theorem dL_same_211 : decode cL_same 211 = .ok (.if_icmp .ne 107, 3) := by decide +kernel
theorem dL_same_214 : decode cL_same 214 = .ok (.aload_n 0, 1) := by decide +kernel
theorem dL_same_215 : decode cL_same 215 = .ok (.iload 6, 2) := by decide +kernel
theorem dL_same_217 : decode cL_same 217 = .ok (.iconst 2, 1) := by decide +kernel
theorem dL_same_218 : decode cL_same 218 = .ok (.invokevirtual 89, 3) := by decide +kernel
theorem dL_same_221 : decode cL_same 221 = .ok (.iconst 1, 1) := by decide +kernel
theorem dL_same_222 : decode cL_same 222 = .ok (.if_icmp .ne 96, 3) := by decide +kernel
theorem dL_same_225 : decode cL_same 225 = .ok (.aload_n 0, 1) := by decide +kernel
theorem dL_same_226 : decode cL_same 226 = .ok (.invokevirtual 92, 3) := by decide +kernel
theorem dL_same_229 : decode cL_same 229 = .ok (.aload_n 1, 1) := by decide +kernel
theorem dL_same_230 : decode cL_same 230 = .ok (.bipush 8, 2) := by decide +kernel
theorem dL_same_232 : decode cL_same 232 = .ok (.iload 6, 2) := by decide +kernel
theorem dL_same_234 : decode cL_same 234 = .ok (.iadd, 1) := by decide +kernel
theorem dL_same_235 : decode cL_same 235 = .ok (.iaload, 1) := by decide +kernel
theorem dL_same_236 : decode cL_same 236 = .ok (.if_icmp .ne 82, 3) := by decide +kernel
theorem dL_same_239 : decode cL_same 239 = .ok (.aload_n 0, 1) := by decide +kernel
theorem dL_same_240 : decode cL_same 240 = .ok (.iload 6, 2) := by decide +kernel
theorem dL_same_242 : decode cL_same 242 = .ok (.iconst 3, 1) := by decide +kernel
theorem dL_same_243 : decode cL_same 243 = .ok (.invokevirtual 89, 3) := by decide +kernel
theorem dL_same_246 : decode cL_same 246 = .ok (.iconst 1, 1) := by decide +kernel
theorem dL_same_247 : decode cL_same 247 = .ok (.if_icmp .ne 71, 3) := by decide +kernel
theorem dL_same_250 : decode cL_same 250 = .ok (.aload_n 0, 1) := by decide +kernel
theorem dL_same_251 : decode cL_same 251 = .ok (.invokevirtual 92, 3) := by decide +kernel
theorem dL_same_254 : decode cL_same 254 = .ok (.aload_n 2, 1) := by decide +kernel
theorem dL_same_255 : decode cL_same 255 = .ok (.bipush 11, 2) := by decide +kernel
theorem dL_same_257 : decode cL_same 257 = .ok (.iload 6, 2) := by decide +kernel
theorem dL_same_259 : decode cL_same 259 = .ok (.iadd, 1) := by decide +kernel
theorem dL_same_260 : decode cL_same 260 = .ok (.iaload, 1) := by decide +kernel
theorem dL_same_261 : decode cL_same 261 = .ok (.if_icmp .ne 57, 3) := by decide +kernel
theorem dL_same_264 : decode cL_same 264 = .ok (.aload_n 0, 1) := by decide +kernel
theorem dL_same_265 : decode cL_same 265 = .ok (.iload 6, 2) := by decide +kernel
theorem dL_same_267 : decode cL_same 267 = .ok (.iconst 4, 1) := by decide +kernel
theorem dL_same_268 : decode cL_same 268 = .ok (.invokevirtual 89, 3) := by decide +kernel
theorem dL_same_271 : decode cL_same 271 = .ok (.iconst 1, 1) := by decide +kernel
theorem dL_same_272 : decode cL_same 272 = .ok (.if_icmp .ne 46, 3) := by decide +kernel
theorem dL_same_275 : decode cL_same 275 = .ok (.aload_n 0, 1) := by decide +kernel
theorem dL_same_276 : decode cL_same 276 = .ok (.invokevirtual 92, 3) := by decide +kernel
theorem dL_same_279 : decode cL_same 279 = .ok (.aload_n 2, 1) := by decide +kernel
theorem dL_same_280 : decode cL_same 280 = .ok (.bipush 17, 2) := by decide +kernel
theorem dL_same_282 : decode cL_same 282 = .ok (.iload 6, 2) := by decide +kernel
theorem dL_same_284 : decode cL_same 284 = .ok (.iadd, 1) := by decide +kernel
theorem dL_same_285 : decode cL_same 285 = .ok (.iaload, 1) := by decide +kernel
theorem dL_same_286 : decode cL_same 286 = .ok (.if_icmp .ne 32, 3) := by decide +kernel
theorem dL_same_289 : decode cL_same 289 = .ok (.aload_n 0, 1) := by decide +kernel
theorem dL_same_290 : decode cL_same 290 = .ok (.iload 6, 2) := by decide +kernel
theorem dL_same_292 : decode cL_same 292 = .ok (.iconst 5, 1) := by decide +kernel
theorem dL_same_293 : decode cL_same 293 = .ok (.invokevirtual 89, 3) := by decide +kernel
theorem dL_same_296 : decode cL_same 296 = .ok (.iconst 1, 1) := by decide +kernel
theorem dL_same_297 : decode cL_same 297 = .ok (.if_icmp .ne 21, 3) := by decide +kernel
theorem dL_same_300 : decode cL_same 300 = .ok (.aload_n 0, 1) := by decide +kernel
theorem dL_same_301 : decode cL_same 301 = .ok (.invokevirtual 92, 3) := by decide +kernel
theorem dL_same_304 : decode cL_same 304 = .ok (.aload_n 1, 1) := by decide +kernel
theorem dL_same_305 : decode cL_same 305 = .ok (.aload_n 2, 1) := by decide +kernel
theorem dL_same_306 : decode cL_same 306 = .ok (.iload 6, 2) := by decide +kernel
theorem dL_same_308 : decode cL_same 308 = .ok (.invokestatic 48, 3) := by decide +kernel
theorem dL_same_311 : decode cL_same 311 = .ok (.if_icmp .ne 7, 3) := by decide +kernel
theorem dL_same_314 : decode cL_same 314 = .ok (.iconst 1, 1) := by decide +kernel
theorem dL_same_315 : decode cL_same 315 = .ok (.goto 4, 3) := by decide +kernel
theorem dL_same_318 : decode cL_same 318 = .ok (.iconst 0, 1) := by decide +kernel
theorem dL_same_319 : decode cL_same 319 = .ok (.istore 5, 2) := by decide +kernel
theorem dL_same_321 : decode cL_same 321 = .ok (.iinc 6 1, 3) := by decide +kernel
theorem dL_same_324 : decode cL_same 324 = .ok (.goto (-217), 3) := by decide +kernel
theorem dL_same_327 : decode cL_same 327 = .ok (.iload 5, 2) := by decide +kernel
theorem dL_same_329 : decode cL_same 329 = .ok (.ifCond .eq 28, 3) := by decide +kernel
theorem dL_same_332 : decode cL_same 332 = .ok (.aload_n 0, 1) := by decide +kernel
theorem dL_same_333 : decode cL_same 333 = .ok (.bipush 8, 2) := by decide +kernel
theorem dL_same_335 : decode cL_same 335 = .ok (.invokevirtual 62, 3) := by decide +kernel
theorem dL_same_338 : decode cL_same 338 = .ok (.iload_n 3, 1) := by decide +kernel
theorem dL_same_339 : decode cL_same 339 = .ok (.if_icmp .ne 18, 3) := by decide +kernel
theorem dL_same_342 : decode cL_same 342 = .ok (.aload_n 0, 1) := by decide +kernel
theorem dL_same_343 : decode cL_same 343 = .ok (.bipush 9, 2) := by decide +kernel
theorem dL_same_345 : decode cL_same 345 = .ok (.invokevirtual 62, 3) := by decide +kernel
theorem dL_same_348 : decode cL_same 348 = .ok (.iload 4, 2) := by decide +kernel
theorem dL_same_350 : decode cL_same 350 = .ok (.if_icmp .ne 7, 3) := by decide +kernel
theorem dL_same_353 : decode cL_same 353 = .ok (.iconst 1, 1) := by decide +kernel
theorem dL_same_354 : decode cL_same 354 = .ok (.goto 4, 3) := by decide +kernel
theorem dL_same_357 : decode cL_same 357 = .ok (.iconst 0, 1) := by decide +kernel
theorem dL_same_358 : decode cL_same 358 = .ok (.ireturn, 1) := by decide +kernel
theorem dL_law_0 : decode cL_law 0 = .ok (.new 10, 3) := by decide +kernel
theorem dL_law_3 : decode cL_law 3 = .ok (.dup, 1) := by decide +kernel
theorem dL_law_4 : decode cL_law 4 = .ok (.invokespecial 95, 3) := by decide +kernel
theorem dL_law_7 : decode cL_law 7 = .ok (.astore_n 1, 1) := by decide +kernel
theorem dL_law_8 : decode cL_law 8 = .ok (.bipush 14, 2) := by decide +kernel
theorem dL_law_10 : decode cL_law 10 = .ok (.newarray .int, 2) := by decide +kernel
theorem dL_law_12 : decode cL_law 12 = .ok (.astore_n 2, 1) := by decide +kernel
theorem dL_law_13 : decode cL_law 13 = .ok (.bipush 23, 2) := by decide +kernel
theorem dL_law_15 : decode cL_law 15 = .ok (.newarray .int, 2) := by decide +kernel
theorem dL_law_17 : decode cL_law 17 = .ok (.astore_n 3, 1) := by decide +kernel
theorem dL_law_18 : decode cL_law 18 = .ok (.bipush 23, 2) := by decide +kernel
theorem dL_law_20 : decode cL_law 20 = .ok (.newarray .int, 2) := by decide +kernel
theorem dL_law_22 : decode cL_law 22 = .ok (.astore 4, 2) := by decide +kernel
theorem dL_law_24 : decode cL_law 24 = .ok (.aload_n 1, 1) := by decide +kernel
theorem dL_law_25 : decode cL_law 25 = .ok (.aload_n 0, 1) := by decide +kernel
theorem dL_law_26 : decode cL_law 26 = .ok (.iconst 0, 1) := by decide +kernel
theorem dL_law_27 : decode cL_law 27 = .ok (.iconst 5, 1) := by decide +kernel
theorem dL_law_28 : decode cL_law 28 = .ok (.aload_n 2, 1) := by decide +kernel
theorem dL_law_29 : decode cL_law 29 = .ok (.aload_n 3, 1) := by decide +kernel
theorem dL_law_30 : decode cL_law 30 = .ok (.invokestatic 96, 3) := by decide +kernel
theorem dL_law_33 : decode cL_law 33 = .ok (.ifCond .ne 5, 3) := by decide +kernel
theorem dL_law_36 : decode cL_law 36 = .ok (.iconst 0, 1) := by decide +kernel
theorem dL_law_37 : decode cL_law 37 = .ok (.ireturn, 1) := by decide +kernel
theorem dL_law_38 : decode cL_law 38 = .ok (.iconst 0, 1) := by decide +kernel
theorem dL_law_39 : decode cL_law 39 = .ok (.istore 5, 2) := by decide +kernel
theorem dL_law_41 : decode cL_law 41 = .ok (.iload 5, 2) := by decide +kernel
theorem dL_law_43 : decode cL_law 43 = .ok (.bipush 14, 2) := by decide +kernel
theorem dL_law_45 : decode cL_law 45 = .ok (.if_icmp .ge 488, 3) := by decide +kernel
theorem dL_law_48 : decode cL_law 48 = .ok (.aload_n 3, 1) := by decide +kernel
theorem dL_law_49 : decode cL_law 49 = .ok (.aload 4, 2) := by decide +kernel
theorem dL_law_51 : decode cL_law 51 = .ok (.invokestatic 100, 3) := by decide +kernel
theorem dL_law_54 : decode cL_law 54 = .ok (.aload_n 0, 1) := by decide +kernel
theorem dL_law_55 : decode cL_law 55 = .ok (.bipush 7, 2) := by decide +kernel
theorem dL_law_57 : decode cL_law 57 = .ok (.iload 5, 2) := by decide +kernel
theorem dL_law_59 : decode cL_law 59 = .ok (.iadd, 1) := by decide +kernel
theorem dL_law_60 : decode cL_law 60 = .ok (.invokestatic 15, 3) := by decide +kernel
theorem dL_law_63 : decode cL_law 63 = .ok (.istore 6, 2) := by decide +kernel
theorem dL_law_65 : decode cL_law 65 = .ok (.aload_n 1, 1) := by decide +kernel
theorem dL_law_66 : decode cL_law 66 = .ok (.iconst 3, 1) := by decide +kernel
theorem dL_law_67 : decode cL_law 67 = .ok (.invokevirtual 62, 3) := by decide +kernel
theorem dL_law_70 : decode cL_law 70 = .ok (.istore 7, 2) := by decide +kernel
theorem dL_law_72 : decode cL_law 72 = .ok (.iload 6, 2) := by decide +kernel
theorem dL_law_74 : decode cL_law 74 = .ok (.bipush 14, 2) := by decide +kernel
theorem dL_law_76 : decode cL_law 76 = .ok (.invokestatic 21, 3) := by decide +kernel
theorem dL_law_79 : decode cL_law 79 = .ok (.istore 8, 2) := by decide +kernel
theorem dL_law_81 : decode cL_law 81 = .ok (.aload_n 1, 1) := by decide +kernel
theorem dL_law_82 : decode cL_law 82 = .ok (.iload 6, 2) := by decide +kernel
theorem dL_law_84 : decode cL_law 84 = .ok (.aload_n 2, 1) := by decide +kernel
theorem dL_law_85 : decode cL_law 85 = .ok (.aload_n 3, 1) := by decide +kernel
theorem dL_law_86 : decode cL_law 86 = .ok (.invokestatic 104, 3) := by decide +kernel
theorem dL_law_89 : decode cL_law 89 = .ok (.istore 9, 2) := by decide +kernel
theorem dL_law_91 : decode cL_law 91 = .ok (.iload 9, 2) := by decide +kernel
theorem dL_law_93 : decode cL_law 93 = .ok (.ifCond .ge 5, 3) := by decide +kernel
theorem dL_law_96 : decode cL_law 96 = .ok (.iconst 0, 1) := by decide +kernel
theorem dL_law_97 : decode cL_law 97 = .ok (.ireturn, 1) := by decide +kernel
theorem dL_law_98 : decode cL_law 98 = .ok (.aload 4, 2) := by decide +kernel
theorem dL_law_100 : decode cL_law 100 = .ok (.invokestatic 55, 3) := by decide +kernel
theorem dL_law_103 : decode cL_law 103 = .ok (.istore 10, 2) := by decide +kernel
theorem dL_law_105 : decode cL_law 105 = .ok (.aload_n 1, 1) := by decide +kernel
theorem dL_law_106 : decode cL_law 106 = .ok (.bipush 6, 2) := by decide +kernel
theorem dL_law_108 : decode cL_law 108 = .ok (.invokevirtual 62, 3) := by decide +kernel
theorem dL_law_111 : decode cL_law 111 = .ok (.istore 11, 2) := by decide +kernel
theorem dL_law_113 : decode cL_law 113 = .ok (.iconst 0, 1) := by decide +kernel
theorem dL_law_114 : decode cL_law 114 = .ok (.istore 12, 2) := by decide +kernel
theorem dL_law_116 : decode cL_law 116 = .ok (.iconst 0, 1) := by decide +kernel
theorem dL_law_117 : decode cL_law 117 = .ok (.istore 13, 2) := by decide +kernel
theorem dL_law_119 : decode cL_law 119 = .ok (.iload 13, 2) := by decide +kernel
theorem dL_law_121 : decode cL_law 121 = .ok (.aload_n 2, 1) := by decide +kernel
theorem dL_law_122 : decode cL_law 122 = .ok (.iconst 1, 1) := by decide +kernel
theorem dL_law_123 : decode cL_law 123 = .ok (.iaload, 1) := by decide +kernel
theorem dL_law_124 : decode cL_law 124 = .ok (.if_icmp .ge 232, 3) := by decide +kernel
theorem dL_law_127 : decode cL_law 127 = .ok (.aload_n 1, 1) := by decide +kernel
theorem dL_law_128 : decode cL_law 128 = .ok (.iload 13, 2) := by decide +kernel
theorem dL_law_130 : decode cL_law 130 = .ok (.iconst 4, 1) := by decide +kernel
theorem dL_law_131 : decode cL_law 131 = .ok (.invokevirtual 89, 3) := by decide +kernel
theorem dL_law_134 : decode cL_law 134 = .ok (.iconst 1, 1) := by decide +kernel
theorem dL_law_135 : decode cL_law 135 = .ok (.if_icmp .eq 5, 3) := by decide +kernel
theorem dL_law_138 : decode cL_law 138 = .ok (.iconst 0, 1) := by decide +kernel
theorem dL_law_139 : decode cL_law 139 = .ok (.ireturn, 1) := by decide +kernel
theorem dL_law_140 : decode cL_law 140 = .ok (.aload_n 1, 1) := by decide +kernel
theorem dL_law_141 : decode cL_law 141 = .ok (.invokevirtual 92, 3) := by decide +kernel
theorem dL_law_144 : decode cL_law 144 = .ok (.istore 14, 2) := by decide +kernel
theorem dL_law_146 : decode cL_law 146 = .ok (.iload 11, 2) := by decide +kernel
theorem dL_law_148 : decode cL_law 148 = .ok (.iload 13, 2) := by decide +kernel
theorem dL_law_150 : decode cL_law 150 = .ok (.invokestatic 108, 3) := by decide +kernel
theorem dL_law_153 : decode cL_law 153 = .ok (.ifCond .eq 17, 3) := by decide +kernel
theorem dL_law_156 : decode cL_law 156 = .ok (.iload 10, 2) := by decide +kernel
theorem dL_law_158 : decode cL_law 158 = .ok (.iload 13, 2) := by decide +kernel
theorem dL_law_160 : decode cL_law 160 = .ok (.invokestatic 108, 3) := by decide +kernel
theorem dL_law_163 : decode cL_law 163 = .ok (.ifCond .ne 7, 3) := by decide +kernel
theorem dL_law_166 : decode cL_law 166 = .ok (.iconst 1, 1) := by decide +kernel
theorem dL_law_167 : decode cL_law 167 = .ok (.goto 4, 3) := by decide +kernel
theorem dL_law_170 : decode cL_law 170 = .ok (.iconst 0, 1) := by decide +kernel
theorem dL_law_171 : decode cL_law 171 = .ok (.istore 15, 2) := by decide +kernel
theorem dL_law_173 : decode cL_law 173 = .ok (.iload 12, 2) := by decide +kernel
theorem dL_law_175 : decode cL_law 175 = .ok (.iload 15, 2) := by decide +kernel
theorem dL_law_177 : decode cL_law 177 = .ok (.ifCond .eq 12, 3) := by decide +kernel
theorem dL_law_180 : decode cL_law 180 = .ok (.aload_n 1, 1) := by decide +kernel
theorem dL_law_181 : decode cL_law 181 = .ok (.iload 13, 2) := by decide +kernel
theorem dL_law_183 : decode cL_law 183 = .ok (.invokevirtual 112, 3) := by decide +kernel
theorem dL_law_186 : decode cL_law 186 = .ok (.goto 4, 3) := by decide +kernel
theorem dL_law_189 : decode cL_law 189 = .ok (.iconst 0, 1) := by decide +kernel
theorem dL_law_190 : decode cL_law 190 = .ok (.iadd, 1) := by decide +kernel
theorem dL_law_191 : decode cL_law 191 = .ok (.istore 12, 2) := by decide +kernel
theorem dL_law_193 : decode cL_law 193 = .ok (.iload 14, 2) := by decide +kernel
theorem dL_law_195 : decode cL_law 195 = .ok (.ifCond .lt 7, 3) := by decide +kernel
theorem dL_law_198 : decode cL_law 198 = .ok (.iconst 1, 1) := by decide +kernel
theorem dL_law_199 : decode cL_law 199 = .ok (.goto 4, 3) := by decide +kernel
theorem dL_law_202 : decode cL_law 202 = .ok (.iconst 0, 1) := by decide +kernel
theorem dL_law_203 : decode cL_law 203 = .ok (.iload 11, 2) := by decide +kernel
theorem dL_law_205 : decode cL_law 205 = .ok (.iload 13, 2) := by decide +kernel
theorem dL_law_207 : decode cL_law 207 = .ok (.invokestatic 108, 3) := by decide +kernel
theorem dL_law_210 : decode cL_law 210 = .ok (.if_icmp .ne 95, 3) := by decide +kernel
theorem dL_law_213 : decode cL_law 213 = .ok (.iload 15, 2) := by decide +kernel
theorem dL_law_215 : decode cL_law 215 = .ok (.ifCond .eq 37, 3) := by decide +kernel
theorem dL_law_218 : decode cL_law 218 = .ok (.iload 8, 2) := by decide +kernel
theorem dL_law_220 : decode cL_law 220 = .ok (.iconst 3, 1) := by decide +kernel
theorem dL_law_221 : decode cL_law 221 = .ok (.if_icmp .lt 84, 3) := by decide +kernel
theorem dL_law_224 : decode cL_law 224 = .ok (.iload 8, 2) := by decide +kernel
theorem dL_law_226 : decode cL_law 226 = .ok (.bipush 8, 2) := by decide +kernel
theorem dL_law_228 : decode cL_law 228 = .ok (.if_icmp .gt 77, 3) := by decide +kernel
theorem dL_law_231 : decode cL_law 231 = .ok (.iload 14, 2) := by decide +kernel
theorem dL_law_233 : decode cL_law 233 = .ok (.aload 4, 2) := by decide +kernel
theorem dL_law_235 : decode cL_law 235 = .ok (.iconst 5, 1) := by decide +kernel
theorem dL_law_236 : decode cL_law 236 = .ok (.iload 13, 2) := by decide +kernel
theorem dL_law_238 : decode cL_law 238 = .ok (.iadd, 1) := by decide +kernel
theorem dL_law_239 : decode cL_law 239 = .ok (.iaload, 1) := by decide +kernel
theorem dL_law_240 : decode cL_law 240 = .ok (.if_icmp .ne 65, 3) := by decide +kernel
theorem dL_law_243 : decode cL_law 243 = .ok (.iload 13, 2) := by decide +kernel
theorem dL_law_245 : decode cL_law 245 = .ok (.aload 4, 2) := by decide +kernel
theorem dL_law_247 : decode cL_law 247 = .ok (.iconst 2, 1) := by decide +kernel
theorem dL_law_248 : decode cL_law 248 = .ok (.iaload, 1) := by decide +kernel
theorem dL_law_249 : decode cL_law 249 = .ok (.if_icmp .ne 56, 3) := by decide +kernel
theorem dL_law_252 : decode cL_law 252 = .ok (.aload_n 2, 1) := by decide +kernel
theorem dL_law_253 : decode cL_law 253 = .ok (.iconst 2, 1) := by decide +kernel
theorem dL_law_254 : decode cL_law 254 = .ok (.iload 13, 2) := by decide +kernel
theorem dL_law_256 : decode cL_law 256 = .ok (.iadd, 1) := by decide +kernel
theorem dL_law_257 : decode cL_law 257 = .ok (.iaload, 1) := by decide +kernel
theorem dL_law_258 : decode cL_law 258 = .ok (.iconst 3, 1) := by decide +kernel
theorem dL_law_259 : decode cL_law 259 = .ok (.if_icmp .ne 13, 3) := by decide +kernel
theorem dL_law_262 : decode cL_law 262 = .ok (.iload 11, 2) := by decide +kernel
theorem dL_law_264 : decode cL_law 264 = .ok (.iload 13, 2) := by decide +kernel
theorem dL_law_266 : decode cL_law 266 = .ok (.invokestatic 108, 3) := by decide +kernel
theorem dL_law_269 : decode cL_law 269 = .ok (.ifCond .ne 36, 3) := by decide +kernel
theorem dL_law_272 : decode cL_law 272 = .ok (.iload 10, 2) := by decide +kernel
theorem dL_law_274 : decode cL_law 274 = .ok (.iload 13, 2) := by decide +kernel
theorem dL_law_276 : decode cL_law 276 = .ok (.invokestatic 108, 3) := by decide +kernel
theorem dL_law_279 : decode cL_law 279 = .ok (.ifCond .eq 28, 3) := by decide +kernel
theorem dL_law_282 : decode cL_law 282 = .ok (.iload 11, 2) := by decide +kernel
theorem dL_law_284 : decode cL_law 284 = .ok (.iload 13, 2) := by decide +kernel
theorem dL_law_286 : decode cL_law 286 = .ok (.invokestatic 108, 3) := by decide +kernel
theorem dL_law_289 : decode cL_law 289 = .ok (.ifCond .eq 18, 3) := by decide +kernel
theorem dL_law_292 : decode cL_law 292 = .ok (.iload 14, 2) := by decide +kernel
theorem dL_law_294 : decode cL_law 294 = .ok (.aload 4, 2) := by decide +kernel
theorem dL_law_296 : decode cL_law 296 = .ok (.bipush 17, 2) := by decide +kernel
theorem dL_law_298 : decode cL_law 298 = .ok (.iload 13, 2) := by decide +kernel
theorem dL_law_300 : decode cL_law 300 = .ok (.iadd, 1) := by decide +kernel
theorem dL_law_301 : decode cL_law 301 = .ok (.iaload, 1) := by decide +kernel
theorem dL_law_302 : decode cL_law 302 = .ok (.if_icmp .eq 5, 3) := by decide +kernel
theorem dL_law_305 : decode cL_law 305 = .ok (.iconst 0, 1) := by decide +kernel
theorem dL_law_306 : decode cL_law 306 = .ok (.ireturn, 1) := by decide +kernel
theorem dL_law_307 : decode cL_law 307 = .ok (.aload_n 1, 1) := by decide +kernel
theorem dL_law_308 : decode cL_law 308 = .ok (.iload 13, 2) := by decide +kernel
theorem dL_law_310 : decode cL_law 310 = .ok (.iconst 5, 1) := by decide +kernel
theorem dL_law_311 : decode cL_law 311 = .ok (.invokevirtual 89, 3) := by decide +kernel
theorem dL_law_314 : decode cL_law 314 = .ok (.iconst 1, 1) := by decide +kernel
theorem dL_law_315 : decode cL_law 315 = .ok (.if_icmp .ne 33, 3) := by decide +kernel
theorem dL_law_318 : decode cL_law 318 = .ok (.aload_n 1, 1) := by decide +kernel
theorem dL_law_319 : decode cL_law 319 = .ok (.invokevirtual 92, 3) := by decide +kernel
theorem dL_law_322 : decode cL_law 322 = .ok (.ifCond .ne 7, 3) := by decide +kernel
theorem dL_law_325 : decode cL_law 325 = .ok (.iconst 1, 1) := by decide +kernel
theorem dL_law_326 : decode cL_law 326 = .ok (.goto 4, 3) := by decide +kernel
theorem dL_law_329 : decode cL_law 329 = .ok (.iconst 0, 1) := by decide +kernel
theorem dL_law_330 : decode cL_law 330 = .ok (.iload 11, 2) := by decide +kernel
theorem dL_law_332 : decode cL_law 332 = .ok (.iload 13, 2) := by decide +kernel
theorem dL_law_334 : decode cL_law 334 = .ok (.invokestatic 108, 3) := by decide +kernel
theorem dL_law_337 : decode cL_law 337 = .ok (.if_icmp .ne 11, 3) := by decide +kernel
theorem dL_law_340 : decode cL_law 340 = .ok (.aload_n 1, 1) := by decide +kernel
theorem dL_law_341 : decode cL_law 341 = .ok (.invokevirtual 92, 3) := by decide +kernel
theorem dL_law_344 : decode cL_law 344 = .ok (.iconst 5, 1) := by decide +kernel
theorem dL_law_345 : decode cL_law 345 = .ok (.if_icmp .le 5, 3) := by decide +kernel
theorem dL_law_348 : decode cL_law 348 = .ok (.iconst 0, 1) := by decide +kernel
theorem dL_law_349 : decode cL_law 349 = .ok (.ireturn, 1) := by decide +kernel
theorem dL_law_350 : decode cL_law 350 = .ok (.iinc 13 1, 3) := by decide +kernel
theorem dL_law_353 : decode cL_law 353 = .ok (.goto (-234), 3) := by decide +kernel
theorem dL_law_356 : decode cL_law 356 = .ok (.aload_n 1, 1) := by decide +kernel
theorem dL_law_357 : decode cL_law 357 = .ok (.iconst 1, 1) := by decide +kernel
theorem dL_law_358 : decode cL_law 358 = .ok (.invokevirtual 62, 3) := by decide +kernel
theorem dL_law_361 : decode cL_law 361 = .ok (.aload 4, 2) := by decide +kernel
theorem dL_law_363 : decode cL_law 363 = .ok (.iconst 0, 1) := by decide +kernel
theorem dL_law_364 : decode cL_law 364 = .ok (.iaload, 1) := by decide +kernel
theorem dL_law_365 : decode cL_law 365 = .ok (.isub, 1) := by decide +kernel
theorem dL_law_366 : decode cL_law 366 = .ok (.istore 13, 2) := by decide +kernel
theorem dL_law_368 : decode cL_law 368 = .ok (.aload_n 1, 1) := by decide +kernel
theorem dL_law_369 : decode cL_law 369 = .ok (.bipush 7, 2) := by decide +kernel
theorem dL_law_371 : decode cL_law 371 = .ok (.invokevirtual 62, 3) := by decide +kernel
theorem dL_law_374 : decode cL_law 374 = .ok (.aload 4, 2) := by decide +kernel
theorem dL_law_376 : decode cL_law 376 = .ok (.iconst 4, 1) := by decide +kernel
theorem dL_law_377 : decode cL_law 377 = .ok (.iaload, 1) := by decide +kernel
theorem dL_law_378 : decode cL_law 378 = .ok (.iload 12, 2) := by decide +kernel
theorem dL_law_380 : decode cL_law 380 = .ok (.iadd, 1) := by decide +kernel
theorem dL_law_381 : decode cL_law 381 = .ok (.if_icmp .ne 91, 3) := by decide +kernel
theorem dL_law_384 : decode cL_law 384 = .ok (.iload 9, 2) := by decide +kernel
theorem dL_law_386 : decode cL_law 386 = .ok (.iconst 1, 1) := by decide +kernel
theorem dL_law_387 : decode cL_law 387 = .ok (.if_icmp .ne 64, 3) := by decide +kernel
theorem dL_law_390 : decode cL_law 390 = .ok (.iload 8, 2) := by decide +kernel
theorem dL_law_392 : decode cL_law 392 = .ok (.iconst 3, 1) := by decide +kernel
theorem dL_law_393 : decode cL_law 393 = .ok (.if_icmp .ge 20, 3) := by decide +kernel
theorem dL_law_396 : decode cL_law 396 = .ok (.iload 13, 2) := by decide +kernel
theorem dL_law_398 : decode cL_law 398 = .ok (.aload_n 1, 1) := by decide +kernel
theorem dL_law_399 : decode cL_law 399 = .ok (.iconst 4, 1) := by decide +kernel
theorem dL_law_400 : decode cL_law 400 = .ok (.invokevirtual 62, 3) := by decide +kernel
theorem dL_law_403 : decode cL_law 403 = .ok (.aload 4, 2) := by decide +kernel
theorem dL_law_405 : decode cL_law 405 = .ok (.iconst 2, 1) := by decide +kernel
theorem dL_law_406 : decode cL_law 406 = .ok (.iaload, 1) := by decide +kernel
theorem dL_law_407 : decode cL_law 407 = .ok (.invokestatic 45, 3) := by decide +kernel
theorem dL_law_410 : decode cL_law 410 = .ok (.if_icmp .ne 62, 3) := by decide +kernel
theorem dL_law_413 : decode cL_law 413 = .ok (.iload 8, 2) := by decide +kernel
theorem dL_law_415 : decode cL_law 415 = .ok (.iconst 2, 1) := by decide +kernel
theorem dL_law_416 : decode cL_law 416 = .ok (.if_icmp .le 16, 3) := by decide +kernel
theorem dL_law_419 : decode cL_law 419 = .ok (.iload 8, 2) := by decide +kernel
theorem dL_law_421 : decode cL_law 421 = .ok (.bipush 9, 2) := by decide +kernel
theorem dL_law_423 : decode cL_law 423 = .ok (.if_icmp .ge 9, 3) := by decide +kernel
theorem dL_law_426 : decode cL_law 426 = .ok (.iload 13, 2) := by decide +kernel
theorem dL_law_428 : decode cL_law 428 = .ok (.iconst 1, 1) := by decide +kernel
theorem dL_law_429 : decode cL_law 429 = .ok (.if_icmp .ne 43, 3) := by decide +kernel
theorem dL_law_432 : decode cL_law 432 = .ok (.iload 8, 2) := by decide +kernel
theorem dL_law_434 : decode cL_law 434 = .ok (.bipush 8, 2) := by decide +kernel
theorem dL_law_436 : decode cL_law 436 = .ok (.if_icmp .le 15, 3) := by decide +kernel
theorem dL_law_439 : decode cL_law 439 = .ok (.iload 8, 2) := by decide +kernel
theorem dL_law_441 : decode cL_law 441 = .ok (.bipush 13, 2) := by decide +kernel
theorem dL_law_443 : decode cL_law 443 = .ok (.if_icmp .ge 8, 3) := by decide +kernel
theorem dL_law_446 : decode cL_law 446 = .ok (.iload 13, 2) := by decide +kernel
theorem dL_law_448 : decode cL_law 448 = .ok (.ifCond .ne 24, 3) := by decide +kernel
theorem dL_law_451 : decode cL_law 451 = .ok (.iload 9, 2) := by decide +kernel
theorem dL_law_453 : decode cL_law 453 = .ok (.ifCond .ne 8, 3) := by decide +kernel
theorem dL_law_456 : decode cL_law 456 = .ok (.iload 13, 2) := by decide +kernel
theorem dL_law_458 : decode cL_law 458 = .ok (.ifCond .ne 14, 3) := by decide +kernel
theorem dL_law_461 : decode cL_law 461 = .ok (.aload_n 1, 1) := by decide +kernel
theorem dL_law_462 : decode cL_law 462 = .ok (.iconst 4, 1) := by decide +kernel
theorem dL_law_463 : decode cL_law 463 = .ok (.invokevirtual 62, 3) := by decide +kernel
theorem dL_law_466 : decode cL_law 466 = .ok (.aload_n 2, 1) := by decide +kernel
theorem dL_law_467 : decode cL_law 467 = .ok (.iconst 1, 1) := by decide +kernel
theorem dL_law_468 : decode cL_law 468 = .ok (.iaload, 1) := by decide +kernel
theorem dL_law_469 : decode cL_law 469 = .ok (.if_icmp .lt 5, 3) := by decide +kernel
theorem dL_law_472 : decode cL_law 472 = .ok (.iconst 0, 1) := by decide +kernel
theorem dL_law_473 : decode cL_law 473 = .ok (.ireturn, 1) := by decide +kernel
theorem dL_law_474 : decode cL_law 474 = .ok (.iload 9, 2) := by decide +kernel
theorem dL_law_476 : decode cL_law 476 = .ok (.iconst 1, 1) := by decide +kernel
theorem dL_law_477 : decode cL_law 477 = .ok (.if_icmp .ne 50, 3) := by decide +kernel
theorem dL_law_480 : decode cL_law 480 = .ok (.aload_n 1, 1) := by decide +kernel
theorem dL_law_481 : decode cL_law 481 = .ok (.iconst 3, 1) := by decide +kernel
theorem dL_law_482 : decode cL_law 482 = .ok (.invokevirtual 62, 3) := by decide +kernel
theorem dL_law_485 : decode cL_law 485 = .ok (.iload 7, 2) := by decide +kernel
theorem dL_law_487 : decode cL_law 487 = .ok (.iconst 1, 1) := by decide +kernel
theorem dL_law_488 : decode cL_law 488 = .ok (.iadd, 1) := by decide +kernel
theorem dL_law_489 : decode cL_law 489 = .ok (.if_icmp .ne 36, 3) := by decide +kernel
theorem dL_law_492 : decode cL_law 492 = .ok (.aload_n 1, 1) := by decide +kernel
theorem dL_law_493 : decode cL_law 493 = .ok (.iload 7, 2) := by decide +kernel
theorem dL_law_495 : decode cL_law 495 = .ok (.invokevirtual 113, 3) := by decide +kernel
theorem dL_law_498 : decode cL_law 498 = .ok (.iconst 1, 1) := by decide +kernel
theorem dL_law_499 : decode cL_law 499 = .ok (.if_icmp .ne 26, 3) := by decide +kernel
theorem dL_law_502 : decode cL_law 502 = .ok (.aload_n 1, 1) := by decide +kernel
theorem dL_law_503 : decode cL_law 503 = .ok (.aload_n 2, 1) := by decide +kernel
theorem dL_law_504 : decode cL_law 504 = .ok (.aload 4, 2) := by decide +kernel
theorem dL_law_506 : decode cL_law 506 = .ok (.invokestatic 116, 3) := by decide +kernel
theorem dL_law_509 : decode cL_law 509 = .ok (.ifCond .eq 16, 3) := by decide +kernel
theorem dL_law_512 : decode cL_law 512 = .ok (.aload_n 1, 1) := by decide +kernel
theorem dL_law_513 : decode cL_law 513 = .ok (.iload 6, 2) := by decide +kernel
theorem dL_law_515 : decode cL_law 515 = .ok (.aload_n 2, 1) := by decide +kernel
theorem dL_law_516 : decode cL_law 516 = .ok (.aload 4, 2) := by decide +kernel
theorem dL_law_518 : decode cL_law 518 = .ok (.invokestatic 104, 3) := by decide +kernel
theorem dL_law_521 : decode cL_law 521 = .ok (.iconst 1, 1) := by decide +kernel
theorem dL_law_522 : decode cL_law 522 = .ok (.if_icmp .eq 5, 3) := by decide +kernel
theorem dL_law_525 : decode cL_law 525 = .ok (.iconst 0, 1) := by decide +kernel
theorem dL_law_526 : decode cL_law 526 = .ok (.ireturn, 1) := by decide +kernel
theorem dL_law_527 : decode cL_law 527 = .ok (.iinc 5 1, 3) := by decide +kernel
theorem dL_law_530 : decode cL_law 530 = .ok (.goto (-489), 3) := by decide +kernel
theorem dL_law_533 : decode cL_law 533 = .ok (.aload_n 1, 1) := by decide +kernel
theorem dL_law_534 : decode cL_law 534 = .ok (.iconst 1, 1) := by decide +kernel
theorem dL_law_535 : decode cL_law 535 = .ok (.invokevirtual 120, 3) := by decide +kernel
theorem dL_law_538 : decode cL_law 538 = .ok (.aload_n 1, 1) := by decide +kernel
theorem dL_law_539 : decode cL_law 539 = .ok (.iconst 3, 1) := by decide +kernel
theorem dL_law_540 : decode cL_law 540 = .ok (.invokevirtual 62, 3) := by decide +kernel
theorem dL_law_543 : decode cL_law 543 = .ok (.if_icmp .eq 5, 3) := by decide +kernel
theorem dL_law_546 : decode cL_law 546 = .ok (.iconst 0, 1) := by decide +kernel
theorem dL_law_547 : decode cL_law 547 = .ok (.ireturn, 1) := by decide +kernel
theorem dL_law_548 : decode cL_law 548 = .ok (.aload_n 1, 1) := by decide +kernel
theorem dL_law_549 : decode cL_law 549 = .ok (.iconst 3, 1) := by decide +kernel
theorem dL_law_550 : decode cL_law 550 = .ok (.invokevirtual 62, 3) := by decide +kernel
theorem dL_law_553 : decode cL_law 553 = .ok (.istore 5, 2) := by decide +kernel
theorem dL_law_555 : decode cL_law 555 = .ok (.aload_n 0, 1) := by decide +kernel
theorem dL_law_556 : decode cL_law 556 = .ok (.bipush 21, 2) := by decide +kernel
theorem dL_law_558 : decode cL_law 558 = .ok (.invokestatic 15, 3) := by decide +kernel
theorem dL_law_561 : decode cL_law 561 = .ok (.bipush 100, 2) := by decide +kernel
theorem dL_law_563 : decode cL_law 563 = .ok (.invokestatic 21, 3) := by decide +kernel
theorem dL_law_566 : decode cL_law 566 = .ok (.istore 6, 2) := by decide +kernel
theorem dL_law_568 : decode cL_law 568 = .ok (.iconst 0, 1) := by decide +kernel
theorem dL_law_569 : decode cL_law 569 = .ok (.istore 7, 2) := by decide +kernel
theorem dL_law_571 : decode cL_law 571 = .ok (.iload 7, 2) := by decide +kernel
theorem dL_law_573 : decode cL_law 573 = .ok (.aload_n 2, 1) := by decide +kernel
theorem dL_law_574 : decode cL_law 574 = .ok (.iconst 1, 1) := by decide +kernel
theorem dL_law_575 : decode cL_law 575 = .ok (.iaload, 1) := by decide +kernel
theorem dL_law_576 : decode cL_law 576 = .ok (.if_icmp .ge 159, 3) := by decide +kernel
theorem dL_law_579 : decode cL_law 579 = .ok (.aload_n 1, 1) := by decide +kernel
theorem dL_law_580 : decode cL_law 580 = .ok (.iload 7, 2) := by decide +kernel
theorem dL_law_582 : decode cL_law 582 = .ok (.iload 6, 2) := by decide +kernel
theorem dL_law_584 : decode cL_law 584 = .ok (.invokevirtual 123, 3) := by decide +kernel
theorem dL_law_587 : decode cL_law 587 = .ok (.istore 8, 2) := by decide +kernel
theorem dL_law_589 : decode cL_law 589 = .ok (.aload_n 2, 1) := by decide +kernel
theorem dL_law_590 : decode cL_law 590 = .ok (.iconst 2, 1) := by decide +kernel
theorem dL_law_591 : decode cL_law 591 = .ok (.iload 7, 2) := by decide +kernel
theorem dL_law_593 : decode cL_law 593 = .ok (.iadd, 1) := by decide +kernel
theorem dL_law_594 : decode cL_law 594 = .ok (.iaload, 1) := by decide +kernel
theorem dL_law_595 : decode cL_law 595 = .ok (.istore 9, 2) := by decide +kernel
theorem dL_law_597 : decode cL_law 597 = .ok (.iload 8, 2) := by decide +kernel
theorem dL_law_599 : decode cL_law 599 = .ok (.ifCond .eq 128, 3) := by decide +kernel
theorem dL_law_602 : decode cL_law 602 = .ok (.iload 8, 2) := by decide +kernel
theorem dL_law_604 : decode cL_law 604 = .ok (.bipush (-9), 2) := by decide +kernel
theorem dL_law_606 : decode cL_law 606 = .ok (.if_icmp .lt 121, 3) := by decide +kernel
theorem dL_law_609 : decode cL_law 609 = .ok (.iload 8, 2) := by decide +kernel
theorem dL_law_611 : decode cL_law 611 = .ok (.iconst 5, 1) := by decide +kernel
theorem dL_law_612 : decode cL_law 612 = .ok (.if_icmp .gt 115, 3) := by decide +kernel
theorem dL_law_615 : decode cL_law 615 = .ok (.iload 9, 2) := by decide +kernel
theorem dL_law_617 : decode cL_law 617 = .ok (.iconst 3, 1) := by decide +kernel
theorem dL_law_618 : decode cL_law 618 = .ok (.if_icmp .ne 10, 3) := by decide +kernel
theorem dL_law_621 : decode cL_law 621 = .ok (.iload 8, 2) := by decide +kernel
theorem dL_law_623 : decode cL_law 623 = .ok (.bipush (-9), 2) := by decide +kernel
theorem dL_law_625 : decode cL_law 625 = .ok (.if_icmp .ne 102, 3) := by decide +kernel
theorem dL_law_628 : decode cL_law 628 = .ok (.iload 9, 2) := by decide +kernel
theorem dL_law_630 : decode cL_law 630 = .ok (.iconst 5, 1) := by decide +kernel
theorem dL_law_631 : decode cL_law 631 = .ok (.if_icmp .ne 20, 3) := by decide +kernel
theorem dL_law_634 : decode cL_law 634 = .ok (.iload 8, 2) := by decide +kernel
theorem dL_law_636 : decode cL_law 636 = .ok (.iload 6, 2) := by decide +kernel
theorem dL_law_638 : decode cL_law 638 = .ok (.bipush 50, 2) := by decide +kernel
theorem dL_law_640 : decode cL_law 640 = .ok (.if_icmp .ge 7, 3) := by decide +kernel
theorem dL_law_643 : decode cL_law 643 = .ok (.iconst 2, 1) := by decide +kernel
theorem dL_law_644 : decode cL_law 644 = .ok (.goto 4, 3) := by decide +kernel
theorem dL_law_647 : decode cL_law 647 = .ok (.iconst 1, 1) := by decide +kernel
theorem dL_law_648 : decode cL_law 648 = .ok (.if_icmp .ne 79, 3) := by decide +kernel
theorem dL_law_651 : decode cL_law 651 = .ok (.iload 8, 2) := by decide +kernel
theorem dL_law_653 : decode cL_law 653 = .ok (.ifCond .le 19, 3) := by decide +kernel
theorem dL_law_656 : decode cL_law 656 = .ok (.aload_n 1, 1) := by decide +kernel
theorem dL_law_657 : decode cL_law 657 = .ok (.iload 6, 2) := by decide +kernel
theorem dL_law_659 : decode cL_law 659 = .ok (.iload 8, 2) := by decide +kernel
theorem dL_law_661 : decode cL_law 661 = .ok (.invokevirtual 125, 3) := by decide +kernel
theorem dL_law_664 : decode cL_law 664 = .ok (.iload 7, 2) := by decide +kernel
theorem dL_law_666 : decode cL_law 666 = .ok (.ishr, 1) := by decide +kernel
theorem dL_law_667 : decode cL_law 667 = .ok (.iconst 1, 1) := by decide +kernel
theorem dL_law_668 : decode cL_law 668 = .ok (.iand, 1) := by decide +kernel
theorem dL_law_669 : decode cL_law 669 = .ok (.ifCond .eq 58, 3) := by decide +kernel
theorem dL_law_672 : decode cL_law 672 = .ok (.iload 9, 2) := by decide +kernel
theorem dL_law_674 : decode cL_law 674 = .ok (.iconst 4, 1) := by decide +kernel
theorem dL_law_675 : decode cL_law 675 = .ok (.if_icmp .ne 14, 3) := by decide +kernel
theorem dL_law_678 : decode cL_law 678 = .ok (.iload 8, 2) := by decide +kernel
theorem dL_law_680 : decode cL_law 680 = .ok (.ifCond .le 9, 3) := by decide +kernel
theorem dL_law_683 : decode cL_law 683 = .ok (.iload 8, 2) := by decide +kernel
theorem dL_law_685 : decode cL_law 685 = .ok (.iconst 3, 1) := by decide +kernel
theorem dL_law_686 : decode cL_law 686 = .ok (.if_icmp .lt 41, 3) := by decide +kernel
theorem dL_law_689 : decode cL_law 689 = .ok (.aload_n 1, 1) := by decide +kernel
theorem dL_law_690 : decode cL_law 690 = .ok (.iload 7, 2) := by decide +kernel
theorem dL_law_692 : decode cL_law 692 = .ok (.invokevirtual 112, 3) := by decide +kernel
theorem dL_law_695 : decode cL_law 695 = .ok (.iconst 5, 1) := by decide +kernel
theorem dL_law_696 : decode cL_law 696 = .ok (.if_icmp .gt 31, 3) := by decide +kernel
theorem dL_law_699 : decode cL_law 699 = .ok (.iload 9, 2) := by decide +kernel
theorem dL_law_701 : decode cL_law 701 = .ok (.iconst 3, 1) := by decide +kernel
theorem dL_law_702 : decode cL_law 702 = .ok (.if_icmp .ne 7, 3) := by decide +kernel
theorem dL_law_705 : decode cL_law 705 = .ok (.iconst 1, 1) := by decide +kernel
theorem dL_law_706 : decode cL_law 706 = .ok (.goto 4, 3) := by decide +kernel
theorem dL_law_709 : decode cL_law 709 = .ok (.iconst 0, 1) := by decide +kernel
theorem dL_law_710 : decode cL_law 710 = .ok (.aload_n 1, 1) := by decide +kernel
theorem dL_law_711 : decode cL_law 711 = .ok (.iload 7, 2) := by decide +kernel
theorem dL_law_713 : decode cL_law 713 = .ok (.invokevirtual 112, 3) := by decide +kernel
theorem dL_law_716 : decode cL_law 716 = .ok (.ifCond .ne 7, 3) := by decide +kernel
theorem dL_law_719 : decode cL_law 719 = .ok (.iconst 1, 1) := by decide +kernel
theorem dL_law_720 : decode cL_law 720 = .ok (.goto 4, 3) := by decide +kernel
theorem dL_law_723 : decode cL_law 723 = .ok (.iconst 0, 1) := by decide +kernel
theorem dL_law_724 : decode cL_law 724 = .ok (.if_icmp .eq 5, 3) := by decide +kernel
theorem dL_law_727 : decode cL_law 727 = .ok (.iconst 0, 1) := by decide +kernel
theorem dL_law_728 : decode cL_law 728 = .ok (.ireturn, 1) := by decide +kernel
theorem dL_law_729 : decode cL_law 729 = .ok (.iinc 7 1, 3) := by decide +kernel
theorem dL_law_732 : decode cL_law 732 = .ok (.goto (-161), 3) := by decide +kernel
theorem dL_law_735 : decode cL_law 735 = .ok (.iconst 0, 1) := by decide +kernel
theorem dL_law_736 : decode cL_law 736 = .ok (.istore 7, 2) := by decide +kernel
theorem dL_law_738 : decode cL_law 738 = .ok (.iconst 0, 1) := by decide +kernel
theorem dL_law_739 : decode cL_law 739 = .ok (.istore 8, 2) := by decide +kernel
theorem dL_law_741 : decode cL_law 741 = .ok (.iconst 0, 1) := by decide +kernel
theorem dL_law_742 : decode cL_law 742 = .ok (.istore 9, 2) := by decide +kernel
theorem dL_law_744 : decode cL_law 744 = .ok (.iload 9, 2) := by decide +kernel
theorem dL_law_746 : decode cL_law 746 = .ok (.aload_n 2, 1) := by decide +kernel
theorem dL_law_747 : decode cL_law 747 = .ok (.iconst 1, 1) := by decide +kernel
theorem dL_law_748 : decode cL_law 748 = .ok (.iaload, 1) := by decide +kernel
theorem dL_law_749 : decode cL_law 749 = .ok (.if_icmp .ge 53, 3) := by decide +kernel
theorem dL_law_752 : decode cL_law 752 = .ok (.aload_n 1, 1) := by decide +kernel
theorem dL_law_753 : decode cL_law 753 = .ok (.iconst 1, 1) := by decide +kernel
theorem dL_law_754 : decode cL_law 754 = .ok (.iload 9, 2) := by decide +kernel
theorem dL_law_756 : decode cL_law 756 = .ok (.ishl, 1) := by decide +kernel
theorem dL_law_757 : decode cL_law 757 = .ok (.invokevirtual 128, 3) := by decide +kernel
theorem dL_law_760 : decode cL_law 760 = .ok (.ifCond .le 12, 3) := by decide +kernel
theorem dL_law_763 : decode cL_law 763 = .ok (.iload 7, 2) := by decide +kernel
theorem dL_law_765 : decode cL_law 765 = .ok (.iconst 1, 1) := by decide +kernel
theorem dL_law_766 : decode cL_law 766 = .ok (.iload 9, 2) := by decide +kernel
theorem dL_law_768 : decode cL_law 768 = .ok (.ishl, 1) := by decide +kernel
theorem dL_law_769 : decode cL_law 769 = .ok (.ior, 1) := by decide +kernel
theorem dL_law_770 : decode cL_law 770 = .ok (.istore 7, 2) := by decide +kernel
theorem dL_law_772 : decode cL_law 772 = .ok (.aload_n 1, 1) := by decide +kernel
theorem dL_law_773 : decode cL_law 773 = .ok (.iconst 1, 1) := by decide +kernel
theorem dL_law_774 : decode cL_law 774 = .ok (.iload 9, 2) := by decide +kernel
theorem dL_law_776 : decode cL_law 776 = .ok (.ishl, 1) := by decide +kernel
theorem dL_law_777 : decode cL_law 777 = .ok (.iconst 2, 1) := by decide +kernel
theorem dL_law_778 : decode cL_law 778 = .ok (.invokevirtual 131, 3) := by decide +kernel
theorem dL_law_781 : decode cL_law 781 = .ok (.istore 10, 2) := by decide +kernel
theorem dL_law_783 : decode cL_law 783 = .ok (.iload 10, 2) := by decide +kernel
theorem dL_law_785 : decode cL_law 785 = .ok (.ifCond .le 7, 3) := by decide +kernel
theorem dL_law_788 : decode cL_law 788 = .ok (.iconst 1, 1) := by decide +kernel
theorem dL_law_789 : decode cL_law 789 = .ok (.goto 5, 3) := by decide +kernel
theorem dL_law_792 : decode cL_law 792 = .ok (.iload 8, 2) := by decide +kernel
theorem dL_law_794 : decode cL_law 794 = .ok (.istore 8, 2) := by decide +kernel
theorem dL_law_796 : decode cL_law 796 = .ok (.iinc 9 1, 3) := by decide +kernel
theorem dL_law_799 : decode cL_law 799 = .ok (.goto (-55), 3) := by decide +kernel
theorem dL_law_802 : decode cL_law 802 = .ok (.iload 7, 2) := by decide +kernel
theorem dL_law_804 : decode cL_law 804 = .ok (.aload_n 0, 1) := by decide +kernel
theorem dL_law_805 : decode cL_law 805 = .ok (.bipush 22, 2) := by decide +kernel
theorem dL_law_807 : decode cL_law 807 = .ok (.invokestatic 15, 3) := by decide +kernel
theorem dL_law_810 : decode cL_law 810 = .ok (.iconst 1, 1) := by decide +kernel
theorem dL_law_811 : decode cL_law 811 = .ok (.aload_n 2, 1) := by decide +kernel
theorem dL_law_812 : decode cL_law 812 = .ok (.iconst 1, 1) := by decide +kernel
theorem dL_law_813 : decode cL_law 813 = .ok (.iaload, 1) := by decide +kernel
theorem dL_law_814 : decode cL_law 814 = .ok (.ishl, 1) := by decide +kernel
theorem dL_law_815 : decode cL_law 815 = .ok (.invokestatic 21, 3) := by decide +kernel
theorem dL_law_818 : decode cL_law 818 = .ok (.iand, 1) := by decide +kernel
theorem dL_law_819 : decode cL_law 819 = .ok (.istore 9, 2) := by decide +kernel
theorem dL_law_821 : decode cL_law 821 = .ok (.aload_n 1, 1) := by decide +kernel
theorem dL_law_822 : decode cL_law 822 = .ok (.iload 9, 2) := by decide +kernel
theorem dL_law_824 : decode cL_law 824 = .ok (.invokevirtual 128, 3) := by decide +kernel
theorem dL_law_827 : decode cL_law 827 = .ok (.istore 10, 2) := by decide +kernel
theorem dL_law_829 : decode cL_law 829 = .ok (.aload_n 1, 1) := by decide +kernel
theorem dL_law_830 : decode cL_law 830 = .ok (.iload 9, 2) := by decide +kernel
theorem dL_law_832 : decode cL_law 832 = .ok (.iconst 2, 1) := by decide +kernel
theorem dL_law_833 : decode cL_law 833 = .ok (.invokevirtual 131, 3) := by decide +kernel
theorem dL_law_836 : decode cL_law 836 = .ok (.istore 11, 2) := by decide +kernel
theorem dL_law_838 : decode cL_law 838 = .ok (.iload 10, 2) := by decide +kernel
theorem dL_law_840 : decode cL_law 840 = .ok (.ifCond .lt 50, 3) := by decide +kernel
theorem dL_law_843 : decode cL_law 843 = .ok (.iload 9, 2) := by decide +kernel
theorem dL_law_845 : decode cL_law 845 = .ok (.ifCond .ne 7, 3) := by decide +kernel
theorem dL_law_848 : decode cL_law 848 = .ok (.iconst 1, 1) := by decide +kernel
theorem dL_law_849 : decode cL_law 849 = .ok (.goto 4, 3) := by decide +kernel
theorem dL_law_852 : decode cL_law 852 = .ok (.iconst 0, 1) := by decide +kernel
theorem dL_law_853 : decode cL_law 853 = .ok (.iload 10, 2) := by decide +kernel
theorem dL_law_855 : decode cL_law 855 = .ok (.ifCond .ne 7, 3) := by decide +kernel
theorem dL_law_858 : decode cL_law 858 = .ok (.iconst 1, 1) := by decide +kernel
theorem dL_law_859 : decode cL_law 859 = .ok (.goto 4, 3) := by decide +kernel
theorem dL_law_862 : decode cL_law 862 = .ok (.iconst 0, 1) := by decide +kernel
theorem dL_law_863 : decode cL_law 863 = .ok (.if_icmp .ne 27, 3) := by decide +kernel
theorem dL_law_866 : decode cL_law 866 = .ok (.iload 11, 2) := by decide +kernel
theorem dL_law_868 : decode cL_law 868 = .ok (.ifCond .lt 10, 3) := by decide +kernel
theorem dL_law_871 : decode cL_law 871 = .ok (.iload 11, 2) := by decide +kernel
theorem dL_law_873 : decode cL_law 873 = .ok (.iload 10, 2) := by decide +kernel
theorem dL_law_875 : decode cL_law 875 = .ok (.if_icmp .lt 15, 3) := by decide +kernel
theorem dL_law_878 : decode cL_law 878 = .ok (.iload 11, 2) := by decide +kernel
theorem dL_law_880 : decode cL_law 880 = .ok (.ifCond .ge 12, 3) := by decide +kernel
theorem dL_law_883 : decode cL_law 883 = .ok (.iload 11, 2) := by decide +kernel
theorem dL_law_885 : decode cL_law 885 = .ok (.bipush (-9), 2) := by decide +kernel
theorem dL_law_887 : decode cL_law 887 = .ok (.if_icmp .eq 5, 3) := by decide +kernel
theorem dL_law_890 : decode cL_law 890 = .ok (.iconst 0, 1) := by decide +kernel
theorem dL_law_891 : decode cL_law 891 = .ok (.ireturn, 1) := by decide +kernel
theorem dL_law_892 : decode cL_law 892 = .ok (.aload_n 1, 1) := by decide +kernel
theorem dL_law_893 : decode cL_law 893 = .ok (.iconst 1, 1) := by decide +kernel
theorem dL_law_894 : decode cL_law 894 = .ok (.invokevirtual 62, 3) := by decide +kernel
theorem dL_law_897 : decode cL_law 897 = .ok (.istore 12, 2) := by decide +kernel
theorem dL_law_899 : decode cL_law 899 = .ok (.iload 11, 2) := by decide +kernel
theorem dL_law_901 : decode cL_law 901 = .ok (.ifCond .lt 180, 3) := by decide +kernel
theorem dL_law_904 : decode cL_law 904 = .ok (.iload 5, 2) := by decide +kernel
theorem dL_law_906 : decode cL_law 906 = .ok (.bipush 9, 2) := by decide +kernel
theorem dL_law_908 : decode cL_law 908 = .ok (.if_icmp .ge 173, 3) := by decide +kernel
theorem dL_law_911 : decode cL_law 911 = .ok (.iload 9, 2) := by decide +kernel
theorem dL_law_913 : decode cL_law 913 = .ok (.invokestatic 59, 3) := by decide +kernel
theorem dL_law_916 : decode cL_law 916 = .ok (.istore 13, 2) := by decide +kernel
theorem dL_law_918 : decode cL_law 918 = .ok (.iconst 1, 1) := by decide +kernel
theorem dL_law_919 : decode cL_law 919 = .ok (.istore 14, 2) := by decide +kernel
theorem dL_law_921 : decode cL_law 921 = .ok (.iconst 0, 1) := by decide +kernel
theorem dL_law_922 : decode cL_law 922 = .ok (.istore 15, 2) := by decide +kernel
theorem dL_law_924 : decode cL_law 924 = .ok (.iload 15, 2) := by decide +kernel
theorem dL_law_926 : decode cL_law 926 = .ok (.iload 13, 2) := by decide +kernel
theorem dL_law_928 : decode cL_law 928 = .ok (.if_icmp .ge 119, 3) := by decide +kernel
theorem dL_law_931 : decode cL_law 931 = .ok (.iload 14, 2) := by decide +kernel
theorem dL_law_933 : decode cL_law 933 = .ok (.ifCond .eq 114, 3) := by decide +kernel
theorem dL_law_936 : decode cL_law 936 = .ok (.aload_n 1, 1) := by decide +kernel
theorem dL_law_937 : decode cL_law 937 = .ok (.iconst 2, 1) := by decide +kernel
theorem dL_law_938 : decode cL_law 938 = .ok (.iload 15, 2) := by decide +kernel
theorem dL_law_940 : decode cL_law 940 = .ok (.invokevirtual 134, 3) := by decide +kernel
theorem dL_law_943 : decode cL_law 943 = .ok (.iconst 1, 1) := by decide +kernel
theorem dL_law_944 : decode cL_law 944 = .ok (.if_icmp .eq 5, 3) := by decide +kernel
theorem dL_law_947 : decode cL_law 947 = .ok (.iconst 0, 1) := by decide +kernel
theorem dL_law_948 : decode cL_law 948 = .ok (.ireturn, 1) := by decide +kernel
theorem dL_law_949 : decode cL_law 949 = .ok (.aload_n 1, 1) := by decide +kernel
theorem dL_law_950 : decode cL_law 950 = .ok (.invokevirtual 92, 3) := by decide +kernel
theorem dL_law_953 : decode cL_law 953 = .ok (.istore 16, 2) := by decide +kernel
theorem dL_law_955 : decode cL_law 955 = .ok (.iload 16, 2) := by decide +kernel
theorem dL_law_957 : decode cL_law 957 = .ok (.aload_n 1, 1) := by decide +kernel
theorem dL_law_958 : decode cL_law 958 = .ok (.iconst 4, 1) := by decide +kernel
theorem dL_law_959 : decode cL_law 959 = .ok (.invokevirtual 62, 3) := by decide +kernel
theorem dL_law_962 : decode cL_law 962 = .ok (.if_icmp .eq 14, 3) := by decide +kernel
theorem dL_law_965 : decode cL_law 965 = .ok (.aload_n 1, 1) := by decide +kernel
theorem dL_law_966 : decode cL_law 966 = .ok (.iload 16, 2) := by decide +kernel
theorem dL_law_968 : decode cL_law 968 = .ok (.invokevirtual 69, 3) := by decide +kernel
theorem dL_law_971 : decode cL_law 971 = .ok (.ifCond .ge 5, 3) := by decide +kernel
theorem dL_law_974 : decode cL_law 974 = .ok (.iconst 0, 1) := by decide +kernel
theorem dL_law_975 : decode cL_law 975 = .ok (.ireturn, 1) := by decide +kernel
theorem dL_law_976 : decode cL_law 976 = .ok (.iconst 0, 1) := by decide +kernel
theorem dL_law_977 : decode cL_law 977 = .ok (.istore 17, 2) := by decide +kernel
theorem dL_law_979 : decode cL_law 979 = .ok (.iconst 0, 1) := by decide +kernel
theorem dL_law_980 : decode cL_law 980 = .ok (.istore 18, 2) := by decide +kernel
theorem dL_law_982 : decode cL_law 982 = .ok (.iload 18, 2) := by decide +kernel
theorem dL_law_984 : decode cL_law 984 = .ok (.bipush 6, 2) := by decide +kernel
theorem dL_law_986 : decode cL_law 986 = .ok (.if_icmp .ge 27, 3) := by decide +kernel
theorem dL_law_989 : decode cL_law 989 = .ok (.iload 17, 2) := by decide +kernel
theorem dL_law_991 : decode cL_law 991 = .ok (.ifCond .ne 22, 3) := by decide +kernel
theorem dL_law_994 : decode cL_law 994 = .ok (.aload_n 1, 1) := by decide +kernel
theorem dL_law_995 : decode cL_law 995 = .ok (.invokevirtual 75, 3) := by decide +kernel
theorem dL_law_998 : decode cL_law 998 = .ok (.istore 17, 2) := by decide +kernel
theorem dL_law_1000 : decode cL_law 1000 = .ok (.iload 17, 2) := by decide +kernel
theorem dL_law_1002 : decode cL_law 1002 = .ok (.ifCond .ge 5, 3) := by decide +kernel
theorem dL_law_1005 : decode cL_law 1005 = .ok (.iconst 0, 1) := by decide +kernel
theorem dL_law_1006 : decode cL_law 1006 = .ok (.ireturn, 1) := by decide +kernel
theorem dL_law_1007 : decode cL_law 1007 = .ok (.iinc 18 1, 3) := by decide +kernel
theorem dL_law_1010 : decode cL_law 1010 = .ok (.goto (-28), 3) := by decide +kernel
theorem dL_law_1013 : decode cL_law 1013 = .ok (.iload 17, 2) := by decide +kernel
theorem dL_law_1015 : decode cL_law 1015 = .ok (.iconst 1, 1) := by decide +kernel
theorem dL_law_1016 : decode cL_law 1016 = .ok (.if_icmp .ne 22, 3) := by decide +kernel
theorem dL_law_1019 : decode cL_law 1019 = .ok (.aload_n 1, 1) := by decide +kernel
theorem dL_law_1020 : decode cL_law 1020 = .ok (.iconst 1, 1) := by decide +kernel
theorem dL_law_1021 : decode cL_law 1021 = .ok (.invokevirtual 62, 3) := by decide +kernel
theorem dL_law_1024 : decode cL_law 1024 = .ok (.aload_n 2, 1) := by decide +kernel
theorem dL_law_1025 : decode cL_law 1025 = .ok (.bipush 8, 2) := by decide +kernel
theorem dL_law_1027 : decode cL_law 1027 = .ok (.iload 16, 2) := by decide +kernel
theorem dL_law_1029 : decode cL_law 1029 = .ok (.iadd, 1) := by decide +kernel
theorem dL_law_1030 : decode cL_law 1030 = .ok (.iaload, 1) := by decide +kernel
theorem dL_law_1031 : decode cL_law 1031 = .ok (.if_icmp .gt 7, 3) := by decide +kernel
theorem dL_law_1034 : decode cL_law 1034 = .ok (.iconst 1, 1) := by decide +kernel
theorem dL_law_1035 : decode cL_law 1035 = .ok (.goto 4, 3) := by decide +kernel
theorem dL_law_1038 : decode cL_law 1038 = .ok (.iconst 0, 1) := by decide +kernel
theorem dL_law_1039 : decode cL_law 1039 = .ok (.istore 14, 2) := by decide +kernel
theorem dL_law_1041 : decode cL_law 1041 = .ok (.iinc 15 1, 3) := by decide +kernel
theorem dL_law_1044 : decode cL_law 1044 = .ok (.goto (-120), 3) := by decide +kernel
theorem dL_law_1047 : decode cL_law 1047 = .ok (.iload 14, 2) := by decide +kernel
theorem dL_law_1049 : decode cL_law 1049 = .ok (.ifCond .eq 30, 3) := by decide +kernel
theorem dL_law_1052 : decode cL_law 1052 = .ok (.aload_n 1, 1) := by decide +kernel
theorem dL_law_1053 : decode cL_law 1053 = .ok (.iconst 1, 1) := by decide +kernel
theorem dL_law_1054 : decode cL_law 1054 = .ok (.invokevirtual 62, 3) := by decide +kernel
theorem dL_law_1057 : decode cL_law 1057 = .ok (.iload 12, 2) := by decide +kernel
theorem dL_law_1059 : decode cL_law 1059 = .ok (.isub, 1) := by decide +kernel
theorem dL_law_1060 : decode cL_law 1060 = .ok (.iload 11, 2) := by decide +kernel
theorem dL_law_1062 : decode cL_law 1062 = .ok (.if_icmp .ne 17, 3) := by decide +kernel
theorem dL_law_1065 : decode cL_law 1065 = .ok (.iload 9, 2) := by decide +kernel
theorem dL_law_1067 : decode cL_law 1067 = .ok (.aload_n 1, 1) := by decide +kernel
theorem dL_law_1068 : decode cL_law 1068 = .ok (.bipush 6, 2) := by decide +kernel
theorem dL_law_1070 : decode cL_law 1070 = .ok (.invokevirtual 62, 3) := by decide +kernel
theorem dL_law_1073 : decode cL_law 1073 = .ok (.iconst (-1), 1) := by decide +kernel
theorem dL_law_1074 : decode cL_law 1074 = .ok (.ixor, 1) := by decide +kernel
theorem dL_law_1075 : decode cL_law 1075 = .ok (.iand, 1) := by decide +kernel
theorem dL_law_1076 : decode cL_law 1076 = .ok (.ifCond .eq 5, 3) := by decide +kernel
theorem dL_law_1079 : decode cL_law 1079 = .ok (.iconst 0, 1) := by decide +kernel
theorem dL_law_1080 : decode cL_law 1080 = .ok (.ireturn, 1) := by decide +kernel
theorem dL_law_1081 : decode cL_law 1081 = .ok (.aload_n 1, 1) := by decide +kernel
theorem dL_law_1082 : decode cL_law 1082 = .ok (.iconst 1, 1) := by decide +kernel
theorem dL_law_1083 : decode cL_law 1083 = .ok (.invokevirtual 137, 3) := by decide +kernel
theorem dL_law_1086 : decode cL_law 1086 = .ok (.iload 5, 2) := by decide +kernel
theorem dL_law_1088 : decode cL_law 1088 = .ok (.if_icmp .eq 5, 3) := by decide +kernel
theorem dL_law_1091 : decode cL_law 1091 = .ok (.iconst 0, 1) := by decide +kernel
theorem dL_law_1092 : decode cL_law 1092 = .ok (.ireturn, 1) := by decide +kernel
theorem dL_law_1093 : decode cL_law 1093 = .ok (.aload_n 1, 1) := by decide +kernel
theorem dL_law_1094 : decode cL_law 1094 = .ok (.invokevirtual 140, 3) := by decide +kernel
theorem dL_law_1097 : decode cL_law 1097 = .ok (.istore 13, 2) := by decide +kernel
theorem dL_law_1099 : decode cL_law 1099 = .ok (.aload_n 1, 1) := by decide +kernel
theorem dL_law_1100 : decode cL_law 1100 = .ok (.invokevirtual 92, 3) := by decide +kernel
theorem dL_law_1103 : decode cL_law 1103 = .ok (.istore 14, 2) := by decide +kernel
theorem dL_law_1105 : decode cL_law 1105 = .ok (.iload 13, 2) := by decide +kernel
theorem dL_law_1107 : decode cL_law 1107 = .ok (.iload 8, 2) := by decide +kernel
theorem dL_law_1109 : decode cL_law 1109 = .ok (.if_icmp .lt 48, 3) := by decide +kernel
theorem dL_law_1112 : decode cL_law 1112 = .ok (.iload 13, 2) := by decide +kernel
theorem dL_law_1114 : decode cL_law 1114 = .ok (.iload 14, 2) := by decide +kernel
theorem dL_law_1116 : decode cL_law 1116 = .ok (.invokestatic 59, 3) := by decide +kernel
theorem dL_law_1119 : decode cL_law 1119 = .ok (.if_icmp .ne 38, 3) := by decide +kernel
theorem dL_law_1122 : decode cL_law 1122 = .ok (.iload 14, 2) := by decide +kernel
theorem dL_law_1124 : decode cL_law 1124 = .ok (.iload 7, 2) := by decide +kernel
theorem dL_law_1126 : decode cL_law 1126 = .ok (.iconst (-1), 1) := by decide +kernel
theorem dL_law_1127 : decode cL_law 1127 = .ok (.ixor, 1) := by decide +kernel
theorem dL_law_1128 : decode cL_law 1128 = .ok (.iand, 1) := by decide +kernel
theorem dL_law_1129 : decode cL_law 1129 = .ok (.ifCond .ne 28, 3) := by decide +kernel
theorem dL_law_1132 : decode cL_law 1132 = .ok (.aload_n 1, 1) := by decide +kernel
theorem dL_law_1133 : decode cL_law 1133 = .ok (.iload 14, 2) := by decide +kernel
theorem dL_law_1135 : decode cL_law 1135 = .ok (.iconst 2, 1) := by decide +kernel
theorem dL_law_1136 : decode cL_law 1136 = .ok (.invokevirtual 131, 3) := by decide +kernel
theorem dL_law_1139 : decode cL_law 1139 = .ok (.ifCond .lt 18, 3) := by decide +kernel
theorem dL_law_1142 : decode cL_law 1142 = .ok (.iload 13, 2) := by decide +kernel
theorem dL_law_1144 : decode cL_law 1144 = .ok (.iload 9, 2) := by decide +kernel
theorem dL_law_1146 : decode cL_law 1146 = .ok (.invokestatic 59, 3) := by decide +kernel
theorem dL_law_1149 : decode cL_law 1149 = .ok (.if_icmp .ge 10, 3) := by decide +kernel
theorem dL_law_1152 : decode cL_law 1152 = .ok (.iload 11, 2) := by decide +kernel
theorem dL_law_1154 : decode cL_law 1154 = .ok (.ifCond .lt 5, 3) := by decide +kernel
theorem dL_law_1157 : decode cL_law 1157 = .ok (.iconst 0, 1) := by decide +kernel
theorem dL_law_1158 : decode cL_law 1158 = .ok (.ireturn, 1) := by decide +kernel
theorem dL_law_1159 : decode cL_law 1159 = .ok (.iconst 0, 1) := by decide +kernel
theorem dL_law_1160 : decode cL_law 1160 = .ok (.istore 15, 2) := by decide +kernel
theorem dL_law_1162 : decode cL_law 1162 = .ok (.iconst 0, 1) := by decide +kernel
theorem dL_law_1163 : decode cL_law 1163 = .ok (.istore 16, 2) := by decide +kernel
theorem dL_law_1165 : decode cL_law 1165 = .ok (.iload 16, 2) := by decide +kernel
theorem dL_law_1167 : decode cL_law 1167 = .ok (.iconst 1, 1) := by decide +kernel
theorem dL_law_1168 : decode cL_law 1168 = .ok (.iadd, 1) := by decide +kernel
theorem dL_law_1169 : decode cL_law 1169 = .ok (.aload_n 2, 1) := by decide +kernel
theorem dL_law_1170 : decode cL_law 1170 = .ok (.iconst 1, 1) := by decide +kernel
theorem dL_law_1171 : decode cL_law 1171 = .ok (.iaload, 1) := by decide +kernel
theorem dL_law_1172 : decode cL_law 1172 = .ok (.if_icmp .ge 30, 3) := by decide +kernel
theorem dL_law_1175 : decode cL_law 1175 = .ok (.iload 15, 2) := by decide +kernel
theorem dL_law_1177 : decode cL_law 1177 = .ok (.aload_n 3, 1) := by decide +kernel
theorem dL_law_1178 : decode cL_law 1178 = .ok (.iconst 5, 1) := by decide +kernel
theorem dL_law_1179 : decode cL_law 1179 = .ok (.iload 16, 2) := by decide +kernel
theorem dL_law_1181 : decode cL_law 1181 = .ok (.iadd, 1) := by decide +kernel
theorem dL_law_1182 : decode cL_law 1182 = .ok (.iaload, 1) := by decide +kernel
theorem dL_law_1183 : decode cL_law 1183 = .ok (.aload_n 3, 1) := by decide +kernel
theorem dL_law_1184 : decode cL_law 1184 = .ok (.bipush 6, 2) := by decide +kernel
theorem dL_law_1186 : decode cL_law 1186 = .ok (.iload 16, 2) := by decide +kernel
theorem dL_law_1188 : decode cL_law 1188 = .ok (.iadd, 1) := by decide +kernel
theorem dL_law_1189 : decode cL_law 1189 = .ok (.iaload, 1) := by decide +kernel
theorem dL_law_1190 : decode cL_law 1190 = .ok (.invokestatic 45, 3) := by decide +kernel
theorem dL_law_1193 : decode cL_law 1193 = .ok (.iadd, 1) := by decide +kernel
theorem dL_law_1194 : decode cL_law 1194 = .ok (.istore 15, 2) := by decide +kernel
theorem dL_law_1196 : decode cL_law 1196 = .ok (.iinc 16 1, 3) := by decide +kernel
theorem dL_law_1199 : decode cL_law 1199 = .ok (.goto (-34), 3) := by decide +kernel
theorem dL_law_1202 : decode cL_law 1202 = .ok (.aload_n 1, 1) := by decide +kernel
theorem dL_law_1203 : decode cL_law 1203 = .ok (.iconst 3, 1) := by decide +kernel
theorem dL_law_1204 : decode cL_law 1204 = .ok (.invokevirtual 143, 3) := by decide +kernel
theorem dL_law_1207 : decode cL_law 1207 = .ok (.istore 16, 2) := by decide +kernel
theorem dL_law_1209 : decode cL_law 1209 = .ok (.iconst 0, 1) := by decide +kernel
theorem dL_law_1210 : decode cL_law 1210 = .ok (.istore 17, 2) := by decide +kernel
theorem dL_law_1212 : decode cL_law 1212 = .ok (.iconst 0, 1) := by decide +kernel
theorem dL_law_1213 : decode cL_law 1213 = .ok (.istore 18, 2) := by decide +kernel
theorem dL_law_1215 : decode cL_law 1215 = .ok (.iconst (-1), 1) := by decide +kernel
theorem dL_law_1216 : decode cL_law 1216 = .ok (.istore 19, 2) := by decide +kernel
theorem dL_law_1218 : decode cL_law 1218 = .ok (.iconst 0, 1) := by decide +kernel
theorem dL_law_1219 : decode cL_law 1219 = .ok (.istore 20, 2) := by decide +kernel
theorem dL_law_1221 : decode cL_law 1221 = .ok (.iload 20, 2) := by decide +kernel
theorem dL_law_1223 : decode cL_law 1223 = .ok (.aload_n 2, 1) := by decide +kernel
theorem dL_law_1224 : decode cL_law 1224 = .ok (.iconst 1, 1) := by decide +kernel
theorem dL_law_1225 : decode cL_law 1225 = .ok (.iaload, 1) := by decide +kernel
theorem dL_law_1226 : decode cL_law 1226 = .ok (.if_icmp .ge 70, 3) := by decide +kernel
theorem dL_law_1229 : decode cL_law 1229 = .ok (.aload_n 1, 1) := by decide +kernel
theorem dL_law_1230 : decode cL_law 1230 = .ok (.iconst 3, 1) := by decide +kernel
theorem dL_law_1231 : decode cL_law 1231 = .ok (.iload 20, 2) := by decide +kernel
theorem dL_law_1233 : decode cL_law 1233 = .ok (.invokevirtual 134, 3) := by decide +kernel
theorem dL_law_1236 : decode cL_law 1236 = .ok (.iconst 1, 1) := by decide +kernel
theorem dL_law_1237 : decode cL_law 1237 = .ok (.if_icmp .eq 5, 3) := by decide +kernel
theorem dL_law_1240 : decode cL_law 1240 = .ok (.iconst 0, 1) := by decide +kernel
theorem dL_law_1241 : decode cL_law 1241 = .ok (.ireturn, 1) := by decide +kernel
theorem dL_law_1242 : decode cL_law 1242 = .ok (.aload_n 1, 1) := by decide +kernel
theorem dL_law_1243 : decode cL_law 1243 = .ok (.invokevirtual 92, 3) := by decide +kernel
theorem dL_law_1246 : decode cL_law 1246 = .ok (.istore 21, 2) := by decide +kernel
theorem dL_law_1248 : decode cL_law 1248 = .ok (.iload 17, 2) := by decide +kernel
theorem dL_law_1250 : decode cL_law 1250 = .ok (.iload 19, 2) := by decide +kernel
theorem dL_law_1252 : decode cL_law 1252 = .ok (.ifCond .ge 7, 3) := by decide +kernel
theorem dL_law_1255 : decode cL_law 1255 = .ok (.iconst 0, 1) := by decide +kernel
theorem dL_law_1256 : decode cL_law 1256 = .ok (.goto 18, 3) := by decide +kernel
theorem dL_law_1259 : decode cL_law 1259 = .ok (.aload_n 3, 1) := by decide +kernel
theorem dL_law_1260 : decode cL_law 1260 = .ok (.iconst 5, 1) := by decide +kernel
theorem dL_law_1261 : decode cL_law 1261 = .ok (.iload 19, 2) := by decide +kernel
theorem dL_law_1263 : decode cL_law 1263 = .ok (.iadd, 1) := by decide +kernel
theorem dL_law_1264 : decode cL_law 1264 = .ok (.iaload, 1) := by decide +kernel
theorem dL_law_1265 : decode cL_law 1265 = .ok (.aload_n 3, 1) := by decide +kernel
theorem dL_law_1266 : decode cL_law 1266 = .ok (.iconst 5, 1) := by decide +kernel
theorem dL_law_1267 : decode cL_law 1267 = .ok (.iload 21, 2) := by decide +kernel
theorem dL_law_1269 : decode cL_law 1269 = .ok (.iadd, 1) := by decide +kernel
theorem dL_law_1270 : decode cL_law 1270 = .ok (.iaload, 1) := by decide +kernel
theorem dL_law_1271 : decode cL_law 1271 = .ok (.invokestatic 45, 3) := by decide +kernel
theorem dL_law_1274 : decode cL_law 1274 = .ok (.iadd, 1) := by decide +kernel
theorem dL_law_1275 : decode cL_law 1275 = .ok (.istore 17, 2) := by decide +kernel
theorem dL_law_1277 : decode cL_law 1277 = .ok (.iload 21, 2) := by decide +kernel
theorem dL_law_1279 : decode cL_law 1279 = .ok (.istore 19, 2) := by decide +kernel
theorem dL_law_1281 : decode cL_law 1281 = .ok (.iload 18, 2) := by decide +kernel
theorem dL_law_1283 : decode cL_law 1283 = .ok (.iconst 1, 1) := by decide +kernel
theorem dL_law_1284 : decode cL_law 1284 = .ok (.iload 21, 2) := by decide +kernel
theorem dL_law_1286 : decode cL_law 1286 = .ok (.ishl, 1) := by decide +kernel
theorem dL_law_1287 : decode cL_law 1287 = .ok (.ior, 1) := by decide +kernel
theorem dL_law_1288 : decode cL_law 1288 = .ok (.istore 18, 2) := by decide +kernel
theorem dL_law_1290 : decode cL_law 1290 = .ok (.iinc 20 1, 3) := by decide +kernel
theorem dL_law_1293 : decode cL_law 1293 = .ok (.goto (-72), 3) := by decide +kernel
theorem dL_law_1296 : decode cL_law 1296 = .ok (.iload 16, 2) := by decide +kernel
theorem dL_law_1298 : decode cL_law 1298 = .ok (.iload 15, 2) := by decide +kernel
theorem dL_law_1300 : decode cL_law 1300 = .ok (.if_icmp .gt 22, 3) := by decide +kernel
theorem dL_law_1303 : decode cL_law 1303 = .ok (.iload 17, 2) := by decide +kernel
theorem dL_law_1305 : decode cL_law 1305 = .ok (.iload 16, 2) := by decide +kernel
theorem dL_law_1307 : decode cL_law 1307 = .ok (.if_icmp .ne 15, 3) := by decide +kernel
theorem dL_law_1310 : decode cL_law 1310 = .ok (.iload 18, 2) := by decide +kernel
theorem dL_law_1312 : decode cL_law 1312 = .ok (.iconst 1, 1) := by decide +kernel
theorem dL_law_1313 : decode cL_law 1313 = .ok (.aload_n 2, 1) := by decide +kernel
theorem dL_law_1314 : decode cL_law 1314 = .ok (.iconst 1, 1) := by decide +kernel
theorem dL_law_1315 : decode cL_law 1315 = .ok (.iaload, 1) := by decide +kernel
theorem dL_law_1316 : decode cL_law 1316 = .ok (.ishl, 1) := by decide +kernel
theorem dL_law_1317 : decode cL_law 1317 = .ok (.iconst 1, 1) := by decide +kernel
theorem dL_law_1318 : decode cL_law 1318 = .ok (.isub, 1) := by decide +kernel
theorem dL_law_1319 : decode cL_law 1319 = .ok (.if_icmp .eq 5, 3) := by decide +kernel
theorem dL_law_1322 : decode cL_law 1322 = .ok (.iconst 0, 1) := by decide +kernel
theorem dL_law_1323 : decode cL_law 1323 = .ok (.ireturn, 1) := by decide +kernel
theorem dL_law_1324 : decode cL_law 1324 = .ok (.iconst 0, 1) := by decide +kernel
theorem dL_law_1325 : decode cL_law 1325 = .ok (.istore 20, 2) := by decide +kernel
theorem dL_law_1327 : decode cL_law 1327 = .ok (.aload_n 0, 1) := by decide +kernel
theorem dL_law_1328 : decode cL_law 1328 = .ok (.bipush 23, 2) := by decide +kernel
theorem dL_law_1330 : decode cL_law 1330 = .ok (.invokestatic 15, 3) := by decide +kernel
theorem dL_law_1333 : decode cL_law 1333 = .ok (.iconst 1, 1) := by decide +kernel
theorem dL_law_1334 : decode cL_law 1334 = .ok (.aload_n 2, 1) := by decide +kernel
theorem dL_law_1335 : decode cL_law 1335 = .ok (.iconst 1, 1) := by decide +kernel
theorem dL_law_1336 : decode cL_law 1336 = .ok (.iaload, 1) := by decide +kernel
theorem dL_law_1337 : decode cL_law 1337 = .ok (.ishl, 1) := by decide +kernel
theorem dL_law_1338 : decode cL_law 1338 = .ok (.invokestatic 21, 3) := by decide +kernel
theorem dL_law_1341 : decode cL_law 1341 = .ok (.istore 21, 2) := by decide +kernel
theorem dL_law_1343 : decode cL_law 1343 = .ok (.iconst 0, 1) := by decide +kernel
theorem dL_law_1344 : decode cL_law 1344 = .ok (.istore 22, 2) := by decide +kernel
theorem dL_law_1346 : decode cL_law 1346 = .ok (.iload 22, 2) := by decide +kernel
theorem dL_law_1348 : decode cL_law 1348 = .ok (.aload_n 2, 1) := by decide +kernel
theorem dL_law_1349 : decode cL_law 1349 = .ok (.iconst 1, 1) := by decide +kernel
theorem dL_law_1350 : decode cL_law 1350 = .ok (.iaload, 1) := by decide +kernel
theorem dL_law_1351 : decode cL_law 1351 = .ok (.if_icmp .ge 34, 3) := by decide +kernel
theorem dL_law_1354 : decode cL_law 1354 = .ok (.iload 20, 2) := by decide +kernel
theorem dL_law_1356 : decode cL_law 1356 = .ok (.iload 21, 2) := by decide +kernel
theorem dL_law_1358 : decode cL_law 1358 = .ok (.iload 22, 2) := by decide +kernel
theorem dL_law_1360 : decode cL_law 1360 = .ok (.invokestatic 108, 3) := by decide +kernel
theorem dL_law_1363 : decode cL_law 1363 = .ok (.ifCond .eq 12, 3) := by decide +kernel
theorem dL_law_1366 : decode cL_law 1366 = .ok (.aload_n 1, 1) := by decide +kernel
theorem dL_law_1367 : decode cL_law 1367 = .ok (.iload 22, 2) := by decide +kernel
theorem dL_law_1369 : decode cL_law 1369 = .ok (.invokevirtual 112, 3) := by decide +kernel
theorem dL_law_1372 : decode cL_law 1372 = .ok (.goto 4, 3) := by decide +kernel
theorem dL_law_1375 : decode cL_law 1375 = .ok (.iconst 0, 1) := by decide +kernel
theorem dL_law_1376 : decode cL_law 1376 = .ok (.iadd, 1) := by decide +kernel
theorem dL_law_1377 : decode cL_law 1377 = .ok (.istore 20, 2) := by decide +kernel
theorem dL_law_1379 : decode cL_law 1379 = .ok (.iinc 22 1, 3) := by decide +kernel
theorem dL_law_1382 : decode cL_law 1382 = .ok (.goto (-36), 3) := by decide +kernel
theorem dL_law_1385 : decode cL_law 1385 = .ok (.aload_n 1, 1) := by decide +kernel
theorem dL_law_1386 : decode cL_law 1386 = .ok (.iload 20, 2) := by decide +kernel
theorem dL_law_1388 : decode cL_law 1388 = .ok (.invokevirtual 146, 3) := by decide +kernel
theorem dL_law_1391 : decode cL_law 1391 = .ok (.iconst 1, 1) := by decide +kernel
theorem dL_law_1392 : decode cL_law 1392 = .ok (.if_icmp .ne 21, 3) := by decide +kernel
theorem dL_law_1395 : decode cL_law 1395 = .ok (.aload_n 1, 1) := by decide +kernel
theorem dL_law_1396 : decode cL_law 1396 = .ok (.invokevirtual 149, 3) := by decide +kernel
theorem dL_law_1399 : decode cL_law 1399 = .ok (.lconst 1, 1) := by decide +kernel
theorem dL_law_1400 : decode cL_law 1400 = .ok (.lcmp, 1) := by decide +kernel
theorem dL_law_1401 : decode cL_law 1401 = .ok (.ifCond .lt 12, 3) := by decide +kernel
theorem dL_law_1404 : decode cL_law 1404 = .ok (.aload_n 1, 1) := by decide +kernel
theorem dL_law_1405 : decode cL_law 1405 = .ok (.invokevirtual 92, 3) := by decide +kernel
theorem dL_law_1408 : decode cL_law 1408 = .ok (.iload 21, 2) := by decide +kernel
theorem dL_law_1410 : decode cL_law 1410 = .ok (.if_icmp .le 5, 3) := by decide +kernel
theorem dL_law_1413 : decode cL_law 1413 = .ok (.iconst 0, 1) := by decide +kernel
theorem dL_law_1414 : decode cL_law 1414 = .ok (.ireturn, 1) := by decide +kernel
theorem dL_law_1415 : decode cL_law 1415 = .ok (.aload_n 1, 1) := by decide +kernel
theorem dL_law_1416 : decode cL_law 1416 = .ok (.invokevirtual 92, 3) := by decide +kernel
theorem dL_law_1419 : decode cL_law 1419 = .ok (.istore 22, 2) := by decide +kernel
theorem dL_law_1421 : decode cL_law 1421 = .ok (.aload_n 1, 1) := by decide +kernel
theorem dL_law_1422 : decode cL_law 1422 = .ok (.iload 20, 2) := by decide +kernel
theorem dL_law_1424 : decode cL_law 1424 = .ok (.invokevirtual 153, 3) := by decide +kernel
theorem dL_law_1427 : decode cL_law 1427 = .ok (.istore 23, 2) := by decide +kernel
theorem dL_law_1429 : decode cL_law 1429 = .ok (.aload_n 1, 1) := by decide +kernel
theorem dL_law_1430 : decode cL_law 1430 = .ok (.invokevirtual 92, 3) := by decide +kernel
theorem dL_law_1433 : decode cL_law 1433 = .ok (.istore 24, 2) := by decide +kernel
theorem dL_law_1435 : decode cL_law 1435 = .ok (.iload 23, 2) := by decide +kernel
theorem dL_law_1437 : decode cL_law 1437 = .ok (.iload 21, 2) := by decide +kernel
theorem dL_law_1439 : decode cL_law 1439 = .ok (.iconst (-1), 1) := by decide +kernel
theorem dL_law_1440 : decode cL_law 1440 = .ok (.ixor, 1) := by decide +kernel
theorem dL_law_1441 : decode cL_law 1441 = .ok (.iand, 1) := by decide +kernel
theorem dL_law_1442 : decode cL_law 1442 = .ok (.ifCond .ne 29, 3) := by decide +kernel
theorem dL_law_1445 : decode cL_law 1445 = .ok (.iload 23, 2) := by decide +kernel
theorem dL_law_1447 : decode cL_law 1447 = .ok (.iload 22, 2) := by decide +kernel
theorem dL_law_1449 : decode cL_law 1449 = .ok (.iconst (-1), 1) := by decide +kernel
theorem dL_law_1450 : decode cL_law 1450 = .ok (.ixor, 1) := by decide +kernel
theorem dL_law_1451 : decode cL_law 1451 = .ok (.iand, 1) := by decide +kernel
theorem dL_law_1452 : decode cL_law 1452 = .ok (.ifCond .ne 19, 3) := by decide +kernel
theorem dL_law_1455 : decode cL_law 1455 = .ok (.iload 24, 2) := by decide +kernel
theorem dL_law_1457 : decode cL_law 1457 = .ok (.iload 21, 2) := by decide +kernel
theorem dL_law_1459 : decode cL_law 1459 = .ok (.iand, 1) := by decide +kernel
theorem dL_law_1460 : decode cL_law 1460 = .ok (.ifCond .ne 11, 3) := by decide +kernel
theorem dL_law_1463 : decode cL_law 1463 = .ok (.iload 24, 2) := by decide +kernel
theorem dL_law_1465 : decode cL_law 1465 = .ok (.iload 23, 2) := by decide +kernel
theorem dL_law_1467 : decode cL_law 1467 = .ok (.iand, 1) := by decide +kernel
theorem dL_law_1468 : decode cL_law 1468 = .ok (.ifCond .eq 5, 3) := by decide +kernel
theorem dL_law_1471 : decode cL_law 1471 = .ok (.iconst 0, 1) := by decide +kernel
theorem dL_law_1472 : decode cL_law 1472 = .ok (.ireturn, 1) := by decide +kernel
theorem dL_law_1473 : decode cL_law 1473 = .ok (.aload_n 1, 1) := by decide +kernel
theorem dL_law_1474 : decode cL_law 1474 = .ok (.iconst 2, 1) := by decide +kernel
theorem dL_law_1475 : decode cL_law 1475 = .ok (.invokevirtual 156, 3) := by decide +kernel
theorem dL_law_1478 : decode cL_law 1478 = .ok (.iconst 1, 1) := by decide +kernel
theorem dL_law_1479 : decode cL_law 1479 = .ok (.if_icmp .ne 29, 3) := by decide +kernel
theorem dL_law_1482 : decode cL_law 1482 = .ok (.aload_n 1, 1) := by decide +kernel
theorem dL_law_1483 : decode cL_law 1483 = .ok (.invokevirtual 92, 3) := by decide +kernel
theorem dL_law_1486 : decode cL_law 1486 = .ok (.iconst 3, 1) := by decide +kernel
theorem dL_law_1487 : decode cL_law 1487 = .ok (.if_icmp .gt 21, 3) := by decide +kernel
theorem dL_law_1490 : decode cL_law 1490 = .ok (.aload_n 1, 1) := by decide +kernel
theorem dL_law_1491 : decode cL_law 1491 = .ok (.invokevirtual 92, 3) := by decide +kernel
theorem dL_law_1494 : decode cL_law 1494 = .ok (.bipush (-3), 2) := by decide +kernel
theorem dL_law_1496 : decode cL_law 1496 = .ok (.if_icmp .lt 12, 3) := by decide +kernel
theorem dL_law_1499 : decode cL_law 1499 = .ok (.aload_n 1, 1) := by decide +kernel
theorem dL_law_1500 : decode cL_law 1500 = .ok (.iconst 0, 1) := by decide +kernel
theorem dL_law_1501 : decode cL_law 1501 = .ok (.invokevirtual 156, 3) := by decide +kernel
theorem dL_law_1504 : decode cL_law 1504 = .ok (.iconst 1, 1) := by decide +kernel
theorem dL_law_1505 : decode cL_law 1505 = .ok (.if_icmp .eq 5, 3) := by decide +kernel
theorem dL_law_1508 : decode cL_law 1508 = .ok (.iconst 0, 1) := by decide +kernel
theorem dL_law_1509 : decode cL_law 1509 = .ok (.ireturn, 1) := by decide +kernel
theorem dL_law_1510 : decode cL_law 1510 = .ok (.aload_n 0, 1) := by decide +kernel
theorem dL_law_1511 : decode cL_law 1511 = .ok (.bipush 24, 2) := by decide +kernel
theorem dL_law_1513 : decode cL_law 1513 = .ok (.invokestatic 15, 3) := by decide +kernel
theorem dL_law_1516 : decode cL_law 1516 = .ok (.aload_n 2, 1) := by decide +kernel
theorem dL_law_1517 : decode cL_law 1517 = .ok (.iconst 1, 1) := by decide +kernel
theorem dL_law_1518 : decode cL_law 1518 = .ok (.iaload, 1) := by decide +kernel
theorem dL_law_1519 : decode cL_law 1519 = .ok (.invokestatic 21, 3) := by decide +kernel
theorem dL_law_1522 : decode cL_law 1522 = .ok (.istore 25, 2) := by decide +kernel
theorem dL_law_1524 : decode cL_law 1524 = .ok (.aload_n 0, 1) := by decide +kernel
theorem dL_law_1525 : decode cL_law 1525 = .ok (.bipush 25, 2) := by decide +kernel
theorem dL_law_1527 : decode cL_law 1527 = .ok (.invokestatic 15, 3) := by decide +kernel
theorem dL_law_1530 : decode cL_law 1530 = .ok (.bipush 13, 2) := by decide +kernel
theorem dL_law_1532 : decode cL_law 1532 = .ok (.invokestatic 21, 3) := by decide +kernel
theorem dL_law_1535 : decode cL_law 1535 = .ok (.istore 26, 2) := by decide +kernel
theorem dL_law_1537 : decode cL_law 1537 = .ok (.lconst 0, 1) := by decide +kernel
theorem dL_law_1538 : decode cL_law 1538 = .ok (.lstore 27, 2) := by decide +kernel
theorem dL_law_1540 : decode cL_law 1540 = .ok (.lconst 1, 1) := by decide +kernel
theorem dL_law_1541 : decode cL_law 1541 = .ok (.lstore 29, 2) := by decide +kernel
theorem dL_law_1543 : decode cL_law 1543 = .ok (.iconst 0, 1) := by decide +kernel
theorem dL_law_1544 : decode cL_law 1544 = .ok (.istore 31, 2) := by decide +kernel
theorem dL_law_1546 : decode cL_law 1546 = .ok (.iload 31, 2) := by decide +kernel
theorem dL_law_1548 : decode cL_law 1548 = .ok (.bipush 9, 2) := by decide +kernel
theorem dL_law_1550 : decode cL_law 1550 = .ok (.if_icmp .ge 150, 3) := by decide +kernel
theorem dL_law_1553 : decode cL_law 1553 = .ok (.aload_n 1, 1) := by decide +kernel
theorem dL_law_1554 : decode cL_law 1554 = .ok (.iload 25, 2) := by decide +kernel
theorem dL_law_1556 : decode cL_law 1556 = .ok (.iload 31, 2) := by decide +kernel
theorem dL_law_1558 : decode cL_law 1558 = .ok (.iload 26, 2) := by decide +kernel
theorem dL_law_1560 : decode cL_law 1560 = .ok (.invokevirtual 159, 3) := by decide +kernel
theorem dL_law_1563 : decode cL_law 1563 = .ok (.iconst 1, 1) := by decide +kernel
theorem dL_law_1564 : decode cL_law 1564 = .ok (.if_icmp .ne 51, 3) := by decide +kernel
theorem dL_law_1567 : decode cL_law 1567 = .ok (.aload_n 1, 1) := by decide +kernel
theorem dL_law_1568 : decode cL_law 1568 = .ok (.invokevirtual 149, 3) := by decide +kernel
theorem dL_law_1571 : decode cL_law 1571 = .ok (.lconst 0, 1) := by decide +kernel
theorem dL_law_1572 : decode cL_law 1572 = .ok (.lcmp, 1) := by decide +kernel
theorem dL_law_1573 : decode cL_law 1573 = .ok (.ifCond .lt 42, 3) := by decide +kernel
theorem dL_law_1576 : decode cL_law 1576 = .ok (.aload_n 1, 1) := by decide +kernel
theorem dL_law_1577 : decode cL_law 1577 = .ok (.invokevirtual 162, 3) := by decide +kernel
theorem dL_law_1580 : decode cL_law 1580 = .ok (.lconst 1, 1) := by decide +kernel
theorem dL_law_1581 : decode cL_law 1581 = .ok (.lcmp, 1) := by decide +kernel
theorem dL_law_1582 : decode cL_law 1582 = .ok (.ifCond .lt 33, 3) := by decide +kernel
theorem dL_law_1585 : decode cL_law 1585 = .ok (.aload_n 1, 1) := by decide +kernel
theorem dL_law_1586 : decode cL_law 1586 = .ok (.invokevirtual 149, 3) := by decide +kernel
theorem dL_law_1589 : decode cL_law 1589 = .ok (.aload_n 1, 1) := by decide +kernel
theorem dL_law_1590 : decode cL_law 1590 = .ok (.invokevirtual 162, 3) := by decide +kernel
theorem dL_law_1593 : decode cL_law 1593 = .ok (.lcmp, 1) := by decide +kernel
theorem dL_law_1594 : decode cL_law 1594 = .ok (.ifCond .gt 21, 3) := by decide +kernel
theorem dL_law_1597 : decode cL_law 1597 = .ok (.aload_n 1, 1) := by decide +kernel
theorem dL_law_1598 : decode cL_law 1598 = .ok (.invokevirtual 149, 3) := by decide +kernel
theorem dL_law_1601 : decode cL_law 1601 = .ok (.lload 29, 2) := by decide +kernel
theorem dL_law_1603 : decode cL_law 1603 = .ok (.lmul, 1) := by decide +kernel
theorem dL_law_1604 : decode cL_law 1604 = .ok (.lload 27, 2) := by decide +kernel
theorem dL_law_1606 : decode cL_law 1606 = .ok (.aload_n 1, 1) := by decide +kernel
theorem dL_law_1607 : decode cL_law 1607 = .ok (.invokevirtual 162, 3) := by decide +kernel
theorem dL_law_1610 : decode cL_law 1610 = .ok (.lmul, 1) := by decide +kernel
theorem dL_law_1611 : decode cL_law 1611 = .ok (.lcmp, 1) := by decide +kernel
theorem dL_law_1612 : decode cL_law 1612 = .ok (.ifCond .ge 5, 3) := by decide +kernel
theorem dL_law_1615 : decode cL_law 1615 = .ok (.iconst 0, 1) := by decide +kernel
theorem dL_law_1616 : decode cL_law 1616 = .ok (.ireturn, 1) := by decide +kernel
theorem dL_law_1617 : decode cL_law 1617 = .ok (.aload_n 1, 1) := by decide +kernel
theorem dL_law_1618 : decode cL_law 1618 = .ok (.invokevirtual 149, 3) := by decide +kernel
theorem dL_law_1621 : decode cL_law 1621 = .ok (.lstore 27, 2) := by decide +kernel
theorem dL_law_1623 : decode cL_law 1623 = .ok (.aload_n 1, 1) := by decide +kernel
theorem dL_law_1624 : decode cL_law 1624 = .ok (.invokevirtual 162, 3) := by decide +kernel
theorem dL_law_1627 : decode cL_law 1627 = .ok (.lstore 29, 2) := by decide +kernel
theorem dL_law_1629 : decode cL_law 1629 = .ok (.aload_n 1, 1) := by decide +kernel
theorem dL_law_1630 : decode cL_law 1630 = .ok (.iload 25, 2) := by decide +kernel
theorem dL_law_1632 : decode cL_law 1632 = .ok (.iload 31, 2) := by decide +kernel
theorem dL_law_1634 : decode cL_law 1634 = .ok (.iload 26, 2) := by decide +kernel
theorem dL_law_1636 : decode cL_law 1636 = .ok (.invokevirtual 165, 3) := by decide +kernel
theorem dL_law_1639 : decode cL_law 1639 = .ok (.istore 32, 2) := by decide +kernel
theorem dL_law_1641 : decode cL_law 1641 = .ok (.iload 32, 2) := by decide +kernel
theorem dL_law_1643 : decode cL_law 1643 = .ok (.iconst 1, 1) := by decide +kernel
theorem dL_law_1644 : decode cL_law 1644 = .ok (.if_icmp .ne 28, 3) := by decide +kernel
theorem dL_law_1647 : decode cL_law 1647 = .ok (.aload_n 1, 1) := by decide +kernel
theorem dL_law_1648 : decode cL_law 1648 = .ok (.invokevirtual 149, 3) := by decide +kernel
theorem dL_law_1651 : decode cL_law 1651 = .ok (.lconst 0, 1) := by decide +kernel
theorem dL_law_1652 : decode cL_law 1652 = .ok (.lcmp, 1) := by decide +kernel
theorem dL_law_1653 : decode cL_law 1653 = .ok (.ifCond .lt 39, 3) := by decide +kernel
theorem dL_law_1656 : decode cL_law 1656 = .ok (.aload_n 1, 1) := by decide +kernel
theorem dL_law_1657 : decode cL_law 1657 = .ok (.invokevirtual 149, 3) := by decide +kernel
theorem dL_law_1660 : decode cL_law 1660 = .ok (.ldc2_w 168, 3) := by decide +kernel
theorem dL_law_1663 : decode cL_law 1663 = .ok (.aload_n 1, 1) := by decide +kernel
theorem dL_law_1664 : decode cL_law 1664 = .ok (.invokevirtual 162, 3) := by decide +kernel
theorem dL_law_1667 : decode cL_law 1667 = .ok (.lmul, 1) := by decide +kernel
theorem dL_law_1668 : decode cL_law 1668 = .ok (.lcmp, 1) := by decide +kernel
theorem dL_law_1669 : decode cL_law 1669 = .ok (.ifCond .gt 23, 3) := by decide +kernel
theorem dL_law_1672 : decode cL_law 1672 = .ok (.iload 32, 2) := by decide +kernel
theorem dL_law_1674 : decode cL_law 1674 = .ok (.iconst 1, 1) := by decide +kernel
theorem dL_law_1675 : decode cL_law 1675 = .ok (.if_icmp .eq 19, 3) := by decide +kernel
theorem dL_law_1678 : decode cL_law 1678 = .ok (.iload 32, 2) := by decide +kernel
theorem dL_law_1680 : decode cL_law 1680 = .ok (.bipush (-3), 2) := by decide +kernel
theorem dL_law_1682 : decode cL_law 1682 = .ok (.if_icmp .ne 10, 3) := by decide +kernel
theorem dL_law_1685 : decode cL_law 1685 = .ok (.lload 27, 2) := by decide +kernel
theorem dL_law_1687 : decode cL_law 1687 = .ok (.lconst 0, 1) := by decide +kernel
theorem dL_law_1688 : decode cL_law 1688 = .ok (.lcmp, 1) := by decide +kernel
theorem dL_law_1689 : decode cL_law 1689 = .ok (.ifCond .eq 5, 3) := by decide +kernel
theorem dL_law_1692 : decode cL_law 1692 = .ok (.iconst 0, 1) := by decide +kernel
theorem dL_law_1693 : decode cL_law 1693 = .ok (.ireturn, 1) := by decide +kernel
theorem dL_law_1694 : decode cL_law 1694 = .ok (.iinc 31 1, 3) := by decide +kernel
theorem dL_law_1697 : decode cL_law 1697 = .ok (.goto (-151), 3) := by decide +kernel
theorem dL_law_1700 : decode cL_law 1700 = .ok (.aload_n 1, 1) := by decide +kernel
theorem dL_law_1701 : decode cL_law 1701 = .ok (.iconst 5, 1) := by decide +kernel
theorem dL_law_1702 : decode cL_law 1702 = .ok (.bipush 8, 2) := by decide +kernel
theorem dL_law_1704 : decode cL_law 1704 = .ok (.invokevirtual 170, 3) := by decide +kernel
theorem dL_law_1707 : decode cL_law 1707 = .ok (.bipush 8, 2) := by decide +kernel
theorem dL_law_1709 : decode cL_law 1709 = .ok (.if_icmp .eq 5, 3) := by decide +kernel
theorem dL_law_1712 : decode cL_law 1712 = .ok (.iconst 0, 1) := by decide +kernel
theorem dL_law_1713 : decode cL_law 1713 = .ok (.ireturn, 1) := by decide +kernel
theorem dL_law_1714 : decode cL_law 1714 = .ok (.iconst 0, 1) := by decide +kernel
theorem dL_law_1715 : decode cL_law 1715 = .ok (.istore 31, 2) := by decide +kernel
theorem dL_law_1717 : decode cL_law 1717 = .ok (.iload 31, 2) := by decide +kernel
theorem dL_law_1719 : decode cL_law 1719 = .ok (.iconst 4, 1) := by decide +kernel
theorem dL_law_1720 : decode cL_law 1720 = .ok (.if_icmp .ge 78, 3) := by decide +kernel
theorem dL_law_1723 : decode cL_law 1723 = .ok (.aload_n 0, 1) := by decide +kernel
theorem dL_law_1724 : decode cL_law 1724 = .ok (.bipush 26, 2) := by decide +kernel
theorem dL_law_1726 : decode cL_law 1726 = .ok (.iload 31, 2) := by decide +kernel
theorem dL_law_1728 : decode cL_law 1728 = .ok (.iadd, 1) := by decide +kernel
theorem dL_law_1729 : decode cL_law 1729 = .ok (.invokestatic 15, 3) := by decide +kernel
theorem dL_law_1732 : decode cL_law 1732 = .ok (.bipush 100, 2) := by decide +kernel
theorem dL_law_1734 : decode cL_law 1734 = .ok (.invokestatic 21, 3) := by decide +kernel
theorem dL_law_1737 : decode cL_law 1737 = .ok (.istore 32, 2) := by decide +kernel
theorem dL_law_1739 : decode cL_law 1739 = .ok (.aload_n 1, 1) := by decide +kernel
theorem dL_law_1740 : decode cL_law 1740 = .ok (.iload 25, 2) := by decide +kernel
theorem dL_law_1742 : decode cL_law 1742 = .ok (.iload 32, 2) := by decide +kernel
theorem dL_law_1744 : decode cL_law 1744 = .ok (.invokevirtual 123, 3) := by decide +kernel
theorem dL_law_1747 : decode cL_law 1747 = .ok (.istore 33, 2) := by decide +kernel
theorem dL_law_1749 : decode cL_law 1749 = .ok (.aload_n 1, 1) := by decide +kernel
theorem dL_law_1750 : decode cL_law 1750 = .ok (.iconst 5, 1) := by decide +kernel
theorem dL_law_1751 : decode cL_law 1751 = .ok (.iconst 2, 1) := by decide +kernel
theorem dL_law_1752 : decode cL_law 1752 = .ok (.iload 31, 2) := by decide +kernel
theorem dL_law_1754 : decode cL_law 1754 = .ok (.imul, 1) := by decide +kernel
theorem dL_law_1755 : decode cL_law 1755 = .ok (.iload 32, 2) := by decide +kernel
theorem dL_law_1757 : decode cL_law 1757 = .ok (.invokevirtual 173, 3) := by decide +kernel
theorem dL_law_1760 : decode cL_law 1760 = .ok (.iconst 1, 1) := by decide +kernel
theorem dL_law_1761 : decode cL_law 1761 = .ok (.if_icmp .ne 29, 3) := by decide +kernel
theorem dL_law_1764 : decode cL_law 1764 = .ok (.aload_n 1, 1) := by decide +kernel
theorem dL_law_1765 : decode cL_law 1765 = .ok (.iconst 5, 1) := by decide +kernel
theorem dL_law_1766 : decode cL_law 1766 = .ok (.iconst 2, 1) := by decide +kernel
theorem dL_law_1767 : decode cL_law 1767 = .ok (.iload 31, 2) := by decide +kernel
theorem dL_law_1769 : decode cL_law 1769 = .ok (.imul, 1) := by decide +kernel
theorem dL_law_1770 : decode cL_law 1770 = .ok (.iconst 1, 1) := by decide +kernel
theorem dL_law_1771 : decode cL_law 1771 = .ok (.iadd, 1) := by decide +kernel
theorem dL_law_1772 : decode cL_law 1772 = .ok (.iload 33, 2) := by decide +kernel
theorem dL_law_1774 : decode cL_law 1774 = .ok (.ifCond .ge 7, 3) := by decide +kernel
theorem dL_law_1777 : decode cL_law 1777 = .ok (.iconst 0, 1) := by decide +kernel
theorem dL_law_1778 : decode cL_law 1778 = .ok (.goto 5, 3) := by decide +kernel
theorem dL_law_1781 : decode cL_law 1781 = .ok (.iload 33, 2) := by decide +kernel
theorem dL_law_1783 : decode cL_law 1783 = .ok (.invokevirtual 173, 3) := by decide +kernel
theorem dL_law_1786 : decode cL_law 1786 = .ok (.iconst 1, 1) := by decide +kernel
theorem dL_law_1787 : decode cL_law 1787 = .ok (.if_icmp .eq 5, 3) := by decide +kernel
theorem dL_law_1790 : decode cL_law 1790 = .ok (.iconst 0, 1) := by decide +kernel
theorem dL_law_1791 : decode cL_law 1791 = .ok (.ireturn, 1) := by decide +kernel
theorem dL_law_1792 : decode cL_law 1792 = .ok (.iinc 31 1, 3) := by decide +kernel
theorem dL_law_1795 : decode cL_law 1795 = .ok (.goto (-78), 3) := by decide +kernel
theorem dL_law_1798 : decode cL_law 1798 = .ok (.aload_n 1, 1) := by decide +kernel
theorem dL_law_1799 : decode cL_law 1799 = .ok (.iconst 5, 1) := by decide +kernel
theorem dL_law_1800 : decode cL_law 1800 = .ok (.invokevirtual 176, 3) := by decide +kernel
theorem dL_law_1803 : decode cL_law 1803 = .ok (.iload 25, 2) := by decide +kernel
theorem dL_law_1805 : decode cL_law 1805 = .ok (.invokestatic 108, 3) := by decide +kernel
theorem dL_law_1808 : decode cL_law 1808 = .ok (.ifCond .eq 67, 3) := by decide +kernel
theorem dL_law_1811 : decode cL_law 1811 = .ok (.aload_n 1, 1) := by decide +kernel
theorem dL_law_1812 : decode cL_law 1812 = .ok (.iconst 5, 1) := by decide +kernel
theorem dL_law_1813 : decode cL_law 1813 = .ok (.invokevirtual 179, 3) := by decide +kernel
theorem dL_law_1816 : decode cL_law 1816 = .ok (.aload_n 2, 1) := by decide +kernel
theorem dL_law_1817 : decode cL_law 1817 = .ok (.iconst 2, 1) := by decide +kernel
theorem dL_law_1818 : decode cL_law 1818 = .ok (.iload 25, 2) := by decide +kernel
theorem dL_law_1820 : decode cL_law 1820 = .ok (.iadd, 1) := by decide +kernel
theorem dL_law_1821 : decode cL_law 1821 = .ok (.iaload, 1) := by decide +kernel
theorem dL_law_1822 : decode cL_law 1822 = .ok (.invokestatic 108, 3) := by decide +kernel
theorem dL_law_1825 : decode cL_law 1825 = .ok (.ifCond .eq 50, 3) := by decide +kernel
theorem dL_law_1828 : decode cL_law 1828 = .ok (.aload_n 1, 1) := by decide +kernel
theorem dL_law_1829 : decode cL_law 1829 = .ok (.iconst 5, 1) := by decide +kernel
theorem dL_law_1830 : decode cL_law 1830 = .ok (.invokevirtual 182, 3) := by decide +kernel
theorem dL_law_1833 : decode cL_law 1833 = .ok (.ifCond .lt 42, 3) := by decide +kernel
theorem dL_law_1836 : decode cL_law 1836 = .ok (.aload_n 1, 1) := by decide +kernel
theorem dL_law_1837 : decode cL_law 1837 = .ok (.invokevirtual 92, 3) := by decide +kernel
theorem dL_law_1840 : decode cL_law 1840 = .ok (.ifCond .le 35, 3) := by decide +kernel
theorem dL_law_1843 : decode cL_law 1843 = .ok (.aload_n 1, 1) := by decide +kernel
theorem dL_law_1844 : decode cL_law 1844 = .ok (.invokevirtual 92, 3) := by decide +kernel
theorem dL_law_1847 : decode cL_law 1847 = .ok (.bipush 7, 2) := by decide +kernel
theorem dL_law_1849 : decode cL_law 1849 = .ok (.if_icmp .ge 26, 3) := by decide +kernel
theorem dL_law_1852 : decode cL_law 1852 = .ok (.aload_n 1, 1) := by decide +kernel
theorem dL_law_1853 : decode cL_law 1853 = .ok (.iconst 1, 1) := by decide +kernel
theorem dL_law_1854 : decode cL_law 1854 = .ok (.invokevirtual 137, 3) := by decide +kernel
theorem dL_law_1857 : decode cL_law 1857 = .ok (.iload 5, 2) := by decide +kernel
theorem dL_law_1859 : decode cL_law 1859 = .ok (.if_icmp .ne 16, 3) := by decide +kernel
theorem dL_law_1862 : decode cL_law 1862 = .ok (.aload_n 1, 1) := by decide +kernel
theorem dL_law_1863 : decode cL_law 1863 = .ok (.aload_n 2, 1) := by decide +kernel
theorem dL_law_1864 : decode cL_law 1864 = .ok (.aload_n 3, 1) := by decide +kernel
theorem dL_law_1865 : decode cL_law 1865 = .ok (.invokestatic 116, 3) := by decide +kernel
theorem dL_law_1868 : decode cL_law 1868 = .ok (.ifCond .eq 7, 3) := by decide +kernel
theorem dL_law_1871 : decode cL_law 1871 = .ok (.iconst 1, 1) := by decide +kernel
theorem dL_law_1872 : decode cL_law 1872 = .ok (.goto 4, 3) := by decide +kernel
theorem dL_law_1875 : decode cL_law 1875 = .ok (.iconst 0, 1) := by decide +kernel
theorem dL_law_1876 : decode cL_law 1876 = .ok (.ireturn, 1) := by decide +kernel
end
section
/-- the tables' words that go with a call -/
def WA : List Cond := lw_tbl.filter goodWord
theorem mW (i : Nat) {w : Cond} (h : lw_tbl[i]? = some w) (g : goodWord w = true) : w ∈ WA := List.mem_filter.mpr ⟨List.mem_of_getElem? h, g⟩
theorem mWt {w : Cond} (h : w ∈ WA) : w ∈ lw_tbl := (List.mem_filter.mp h).1
theorem mWs {ws : List Cond} (ps : List Nat) (hp : ws = ps.filterMap (fun i => lw_tbl[i]?)) (g : ws.all goodWord = true) : ∀ w ∈ ws, w ∈ WA := by
  intro w hw
  refine List.mem_filter.mpr ⟨?_, List.all_eq_true.mp g w hw⟩
  rw [hp] at hw
  obtain ⟨i, -, hi⟩ := List.mem_filterMap.mp hw
  exact List.mem_of_getElem? hi
theorem gWA (w0 : Cond) {c : Cond} (h : c ∈ WA) : GoodIn (w0 :: WA) (c :: WA) := fun w hw => (List.mem_cons.mp hw).elim (fun e => ⟨by rw [e]; exact List.mem_cons_of_mem _ h, by rw [e]; exact good_of_word (List.mem_filter.mp h).2⟩) (fun k => ⟨List.mem_cons_of_mem _ k, good_of_word (List.mem_filter.mp k).2⟩)
theorem gWB {c : Cond} (h : c ∈ WA) : GoodIn WA (c :: WA) := fun w hw => (List.mem_cons.mp hw).elim (fun e => ⟨by rw [e]; exact h, by rw [e]; exact good_of_word (List.mem_filter.mp h).2⟩) (fun k => ⟨k, good_of_word (List.mem_filter.mp k).2⟩)
theorem kZ_RL : Cond.initialized "WokenYearsLaw" ∈ WA := mW 22 (by decide +kernel) rfl
theorem kZ_RX5 : Cond.initialized "WokenYears" ∈ WA := mW 23 (by decide +kernel) rfl
theorem kZ_RJ9 : Cond.initialized "java/lang/Math" ∈ WA := mW 24 (by decide +kernel) rfl
theorem kZ_RX0 : Cond.initialized "WokenYears$Ints" ∈ WA := mW 25 (by decide +kernel) rfl
theorem kZ_RX2 : Cond.initialized "WokenYears$Reader" ∈ WA := mW 26 (by decide +kernel) rfl
theorem kZ_RX3 : Cond.initialized "WokenYears$Rounds" ∈ WA := mW 27 (by decide +kernel) rfl
theorem kZ_RX4 : Cond.initialized "WokenYears$Street" ∈ WA := mW 28 (by decide +kernel) rfl
theorem kZ_RX1 : Cond.initialized "WokenYears$Kinds" ∈ WA := mW 29 (by decide +kernel) rfl
theorem kZ_RJ10 : Cond.initialized "java/lang/System" ∈ WA := mW 30 (by decide +kernel) rfl
theorem kZ_RJ6 : Cond.initialized "java/lang/Integer" ∈ WA := mW 31 (by decide +kernel) rfl
theorem kC_L_10 : Cond.classLink "WokenYearsLaw" 10 "WokenYears" ∈ WA := mW 32 (by decide +kernel) rfl
theorem kI_RX5 : Cond.instantiable "WokenYears" 12 ∈ WA := mW 33 (by decide +kernel) rfl
theorem kM_L_95 : Cond.methodLink "WokenYearsLaw" 95 yX5_init ∈ WA := mW 34 (by decide +kernel) rfl
theorem kM_X5_1 : Cond.methodLink "WokenYears" 1 ⟨"java/lang/Object", "<init>", "()V"⟩ ∈ WA := mW 37 (by decide +kernel) rfl
theorem kM_X5_9 : Cond.methodLink "WokenYears" 9 yX5_missing ∈ WA := mW 40 (by decide +kernel) rfl
theorem kM_X5_79 : Cond.methodLink "WokenYears" 79 yJ9_max_7cf53 ∈ WA := mW 43 (by decide +kernel) rfl
theorem kC_X5_37 : Cond.classLink "WokenYears" 37 "WokenYears$Ints" ∈ WA := mW 46 (by decide +kernel) rfl
theorem kA_over : Cond.arrayOver (Jvm.ClassFile.FieldType.object "WokenYears$Ints") ∈ lw_tbl := List.mem_of_getElem? (i := 47) (by decide +kernel)
theorem kI_RX0 : Cond.instantiable "WokenYears$Ints" 2 ∈ WA := mW 48 (by decide +kernel) rfl
theorem kM_X5_39 : Cond.methodLink "WokenYears" 39 yX0_init ∈ WA := mW 49 (by decide +kernel) rfl
theorem kM_X0_1 : Cond.methodLink "WokenYears$Ints" 1 ⟨"java/lang/Object", "<init>", "()V"⟩ ∈ WA := mW 52 (by decide +kernel) rfl
theorem kM_X0_13 : Cond.methodLink "WokenYears$Ints" 13 yJ9_max_7cf53 ∈ WA := mW 53 (by decide +kernel) rfl
theorem kF_X0_19 : Cond.fieldLink "WokenYears$Ints" 19 "WokenYears$Ints" "cells" "[I" ∈ WA := mW 54 (by decide +kernel) rfl
theorem kF_X0_7 : Cond.fieldLink "WokenYears$Ints" 7 "WokenYears$Ints" "size" "I" ∈ WA := mW 55 (by decide +kernel) rfl
theorem kF_X2_44 : Cond.fieldLink "WokenYears$Reader" 44 "WokenYears$Ints" "size" "I" ∈ WA := mW 56 (by decide +kernel) rfl
theorem kF_X4_55 : Cond.fieldLink "WokenYears$Street" 55 "WokenYears$Ints" "size" "I" ∈ WA := mW 57 (by decide +kernel) rfl
theorem kF_X5_85 : Cond.fieldLink "WokenYears" 85 "WokenYears$Ints" "size" "I" ∈ WA := mW 58 (by decide +kernel) rfl
theorem kA_int : Cond.arrayClass Jvm.ClassFile.FieldType.int ∈ WA := mW 64 (by decide +kernel) rfl
theorem kC_X5_23 : Cond.classLink "WokenYears" 23 "WokenYears$Reader" ∈ WA := mW 65 (by decide +kernel) rfl
theorem kI_RX2 : Cond.instantiable "WokenYears$Reader" 3 ∈ WA := mW 66 (by decide +kernel) rfl
theorem kN_X5_25 : Cond.methodLinkNest "WokenYears" 25 yX2_init "WokenYears" ∈ lw_tbl := List.mem_of_getElem? (i := 67) (by decide +kernel)
theorem kM_X2_3 : Cond.methodLink "WokenYears$Reader" 3 ⟨"java/lang/Object", "<init>", "()V"⟩ ∈ WA := mW 70 (by decide +kernel) rfl
theorem kF_X2_9 : Cond.fieldLink "WokenYears$Reader" 9 "WokenYears$Reader" "text" "LWokenYears$Ints;" ∈ WA := mW 71 (by decide +kernel) rfl
theorem kF_X2_15 : Cond.fieldLink "WokenYears$Reader" 15 "WokenYears$Reader" "place" "I" ∈ WA := mW 72 (by decide +kernel) rfl
theorem kF_X2_19 : Cond.fieldLink "WokenYears$Reader" 19 "WokenYears$Reader" "good" "Z" ∈ WA := mW 73 (by decide +kernel) rfl
theorem kC_X5_30 : Cond.classLink "WokenYears" 30 "WokenYears$Rounds" ∈ WA := mW 81 (by decide +kernel) rfl
theorem kI_RX3 : Cond.instantiable "WokenYears$Rounds" 6 ∈ WA := mW 82 (by decide +kernel) rfl
theorem kN_X5_32 : Cond.methodLinkNest "WokenYears" 32 yX3_init "WokenYears" ∈ lw_tbl := List.mem_of_getElem? (i := 83) (by decide +kernel)
theorem kM_X3_3 : Cond.methodLink "WokenYears$Rounds" 3 ⟨"java/lang/Object", "<init>", "()V"⟩ ∈ WA := mW 86 (by decide +kernel) rfl
theorem kC_X3_9 : Cond.classLink "WokenYears$Rounds" 9 "WokenYears$Ints" ∈ WA := mW 87 (by decide +kernel) rfl
theorem kM_X3_11 : Cond.methodLink "WokenYears$Rounds" 11 yX0_init ∈ WA := mW 88 (by decide +kernel) rfl
theorem kF_X3_14 : Cond.fieldLink "WokenYears$Rounds" 14 "WokenYears$Rounds" "ends" "LWokenYears$Ints;" ∈ WA := mW 89 (by decide +kernel) rfl
theorem kF_X3_20 : Cond.fieldLink "WokenYears$Rounds" 20 "WokenYears$Rounds" "order" "LWokenYears$Ints;" ∈ WA := mW 90 (by decide +kernel) rfl
theorem kF_X3_23 : Cond.fieldLink "WokenYears$Rounds" 23 "WokenYears$Rounds" "more" "LWokenYears$Ints;" ∈ WA := mW 91 (by decide +kernel) rfl
theorem kF_X3_26 : Cond.fieldLink "WokenYears$Rounds" 26 "WokenYears$Rounds" "spare" "LWokenYears$Ints;" ∈ WA := mW 92 (by decide +kernel) rfl
theorem kF_X3_29 : Cond.fieldLink "WokenYears$Rounds" 29 "WokenYears$Rounds" "best" "LWokenYears$Ints;" ∈ WA := mW 93 (by decide +kernel) rfl
theorem kF_X5_223 : Cond.fieldLink "WokenYears" 223 "WokenYears$Rounds" "best" "LWokenYears$Ints;" ∈ WA := mW 94 (by decide +kernel) rfl
theorem kF_X3_77 : Cond.fieldLink "WokenYears$Rounds" 77 "WokenYears$Rounds" "bestWalked" "I" ∈ WA := mW 95 (by decide +kernel) rfl
theorem kC_X5_46 : Cond.classLink "WokenYears" 46 "WokenYears$Street" ∈ WA := mW 109 (by decide +kernel) rfl
theorem kI_RX4 : Cond.instantiable "WokenYears$Street" 15 ∈ WA := mW 110 (by decide +kernel) rfl
theorem kM_X5_48 : Cond.methodLink "WokenYears" 48 yX4_init ∈ WA := mW 111 (by decide +kernel) rfl
theorem kM_X4_3 : Cond.methodLink "WokenYears$Street" 3 ⟨"java/lang/Object", "<init>", "()V"⟩ ∈ WA := mW 114 (by decide +kernel) rfl
theorem kC_X4_9 : Cond.classLink "WokenYears$Street" 9 "WokenYears$Ints" ∈ WA := mW 115 (by decide +kernel) rfl
theorem kM_X4_11 : Cond.methodLink "WokenYears$Street" 11 yX0_init ∈ WA := mW 116 (by decide +kernel) rfl
theorem kM_X4_38 : Cond.methodLink "WokenYears$Street" 38 yX0_fill ∈ WA := mW 117 (by decide +kernel) rfl
theorem kM_X0_23 : Cond.methodLink "WokenYears$Ints" 23 yJ9_min_7cf53 ∈ WA := mW 121 (by decide +kernel) rfl
theorem kF_X4_14 : Cond.fieldLink "WokenYears$Street" 14 "WokenYears$Street" "kinds" "LWokenYears$Ints;" ∈ WA := mW 124 (by decide +kernel) rfl
theorem kF_X5_138 : Cond.fieldLink "WokenYears" 138 "WokenYears$Street" "kinds" "LWokenYears$Ints;" ∈ WA := mW 125 (by decide +kernel) rfl
theorem kF_X4_20 : Cond.fieldLink "WokenYears$Street" 20 "WokenYears$Street" "wants" "LWokenYears$Ints;" ∈ WA := mW 126 (by decide +kernel) rfl
theorem kF_X3_48 : Cond.fieldLink "WokenYears$Rounds" 48 "WokenYears$Street" "wants" "LWokenYears$Ints;" ∈ WA := mW 127 (by decide +kernel) rfl
theorem kF_X4_23 : Cond.fieldLink "WokenYears$Street" 23 "WokenYears$Street" "firstDates" "LWokenYears$Ints;" ∈ WA := mW 128 (by decide +kernel) rfl
theorem kF_X4_26 : Cond.fieldLink "WokenYears$Street" 26 "WokenYears$Street" "dates" "LWokenYears$Ints;" ∈ WA := mW 129 (by decide +kernel) rfl
theorem kF_X5_146 : Cond.fieldLink "WokenYears" 146 "WokenYears$Street" "dates" "LWokenYears$Ints;" ∈ WA := mW 130 (by decide +kernel) rfl
theorem kF_X4_29 : Cond.fieldLink "WokenYears$Street" 29 "WokenYears$Street" "tapped" "LWokenYears$Ints;" ∈ WA := mW 131 (by decide +kernel) rfl
theorem kF_X4_32 : Cond.fieldLink "WokenYears$Street" 32 "WokenYears$Street" "years" "LWokenYears$Ints;" ∈ WA := mW 132 (by decide +kernel) rfl
theorem kF_X4_35 : Cond.fieldLink "WokenYears$Street" 35 "WokenYears$Street" "deeds" "LWokenYears$Ints;" ∈ WA := mW 133 (by decide +kernel) rfl
theorem kF_X5_125 : Cond.fieldLink "WokenYears" 125 "WokenYears$Street" "deeds" "LWokenYears$Ints;" ∈ WA := mW 134 (by decide +kernel) rfl
theorem kF_X4_42 : Cond.fieldLink "WokenYears$Street" 42 "WokenYears$Street" "size" "I" ∈ WA := mW 135 (by decide +kernel) rfl
theorem kF_X3_32 : Cond.fieldLink "WokenYears$Rounds" 32 "WokenYears$Street" "size" "I" ∈ WA := mW 136 (by decide +kernel) rfl
theorem kF_X5_131 : Cond.fieldLink "WokenYears" 131 "WokenYears$Street" "size" "I" ∈ WA := mW 137 (by decide +kernel) rfl
theorem kF_X4_49 : Cond.fieldLink "WokenYears$Street" 49 "WokenYears$Street" "quarrel" "I" ∈ WA := mW 138 (by decide +kernel) rfl
theorem kF_X5_312 : Cond.fieldLink "WokenYears" 312 "WokenYears$Street" "quarrel" "I" ∈ WA := mW 139 (by decide +kernel) rfl
theorem kF_X4_46 : Cond.fieldLink "WokenYears$Street" 46 "WokenYears$Street" "firstFrost" "I" ∈ WA := mW 140 (by decide +kernel) rfl
theorem kF_X4_66 : Cond.fieldLink "WokenYears$Street" 66 "WokenYears$Street" "frost" "I" ∈ WA := mW 141 (by decide +kernel) rfl
theorem kF_X5_152 : Cond.fieldLink "WokenYears" 152 "WokenYears$Street" "frost" "I" ∈ WA := mW 142 (by decide +kernel) rfl
theorem kF_X3_54 : Cond.fieldLink "WokenYears$Rounds" 54 "WokenYears$Street" "minute" "I" ∈ WA := mW 143 (by decide +kernel) rfl
theorem kF_X4_56 : Cond.fieldLink "WokenYears$Street" 56 "WokenYears$Street" "minute" "I" ∈ WA := mW 144 (by decide +kernel) rfl
theorem kF_X5_179 : Cond.fieldLink "WokenYears" 179 "WokenYears$Street" "minute" "I" ∈ WA := mW 145 (by decide +kernel) rfl
theorem kF_X4_69 : Cond.fieldLink "WokenYears$Street" 69 "WokenYears$Street" "night" "I" ∈ WA := mW 146 (by decide +kernel) rfl
theorem kF_X5_299 : Cond.fieldLink "WokenYears" 299 "WokenYears$Street" "night" "I" ∈ WA := mW 147 (by decide +kernel) rfl
theorem kF_X4_59 : Cond.fieldLink "WokenYears$Street" 59 "WokenYears$Street" "place" "I" ∈ WA := mW 148 (by decide +kernel) rfl
theorem kF_X3_85 : Cond.fieldLink "WokenYears$Rounds" 85 "WokenYears$Street" "place" "I" ∈ WA := mW 149 (by decide +kernel) rfl
theorem kF_X5_169 : Cond.fieldLink "WokenYears" 169 "WokenYears$Street" "place" "I" ∈ WA := mW 150 (by decide +kernel) rfl
theorem kF_X4_72 : Cond.fieldLink "WokenYears$Street" 72 "WokenYears$Street" "purse" "I" ∈ WA := mW 151 (by decide +kernel) rfl
theorem kF_X5_302 : Cond.fieldLink "WokenYears" 302 "WokenYears$Street" "purse" "I" ∈ WA := mW 152 (by decide +kernel) rfl
theorem kM_X5_60 : Cond.methodLink "WokenYears" 60 yX0_fill ∈ WA := mW 184 (by decide +kernel) rfl
theorem kF_X5_13 : Cond.fieldLink "WokenYears" 13 "WokenYears" "rows" "[LWokenYears$Ints;" ∈ WA := mW 185 (by decide +kernel) rfl
theorem kF_X5_17 : Cond.fieldLink "WokenYears" 17 "WokenYears" "texts" "[LWokenYears$Ints;" ∈ WA := mW 186 (by decide +kernel) rfl
theorem kF_X5_20 : Cond.fieldLink "WokenYears" 20 "WokenYears" "kept" "[LWokenYears$Ints;" ∈ WA := mW 187 (by decide +kernel) rfl
theorem kF_X5_26 : Cond.fieldLink "WokenYears" 26 "WokenYears" "reader" "LWokenYears$Reader;" ∈ WA := mW 188 (by decide +kernel) rfl
theorem kF_X5_33 : Cond.fieldLink "WokenYears" 33 "WokenYears" "rounds" "LWokenYears$Rounds;" ∈ WA := mW 189 (by decide +kernel) rfl
theorem kF_X5_42 : Cond.fieldLink "WokenYears" 42 "WokenYears" "findings" "LWokenYears$Ints;" ∈ WA := mW 190 (by decide +kernel) rfl
theorem kF_X5_49 : Cond.fieldLink "WokenYears" 49 "WokenYears" "street" "LWokenYears$Street;" ∈ WA := mW 191 (by decide +kernel) rfl
theorem kF_X5_53 : Cond.fieldLink "WokenYears" 53 "WokenYears" "draft" "LWokenYears$Street;" ∈ WA := mW 192 (by decide +kernel) rfl
theorem kF_X5_64 : Cond.fieldLink "WokenYears" 64 "WokenYears" "finding" "I" ∈ WA := mW 193 (by decide +kernel) rfl
theorem kF_X5_107 : Cond.fieldLink "WokenYears" 107 "WokenYears" "asked" "I" ∈ WA := mW 194 (by decide +kernel) rfl
theorem kF_X5_277 : Cond.fieldLink "WokenYears" 277 "WokenYears" "upper" "J" ∈ WA := mW 195 (by decide +kernel) rfl
theorem kF_X5_56 : Cond.fieldLink "WokenYears" 56 "WokenYears" "lower" "J" ∈ WA := mW 196 (by decide +kernel) rfl
theorem kM_L_170 : Cond.methodLink "WokenYearsLaw" 170 yX5_row ∈ WA := mW 222 (by decide +kernel) rfl
theorem kM_X5_99 : Cond.methodLink "WokenYears" 99 yX5_pick ∈ WA := mW 226 (by decide +kernel) rfl
theorem kM_X5_88 : Cond.methodLink "WokenYears" 88 yX5_found ∈ WA := mW 229 (by decide +kernel) rfl
theorem kM_X5_68 : Cond.methodLink "WokenYears" 68 yX0_get ∈ WA := mW 233 (by decide +kernel) rfl
theorem kM_X5_72 : Cond.methodLink "WokenYears" 72 yX0_set ∈ WA := mW 237 (by decide +kernel) rfl
theorem kM_L_173 : Cond.methodLink "WokenYearsLaw" 173 yX5_lay ∈ WA := mW 241 (by decide +kernel) rfl
theorem kM_X5_103 : Cond.methodLink "WokenYears" 103 yX5_refusedAt ∈ WA := mW 245 (by decide +kernel) rfl
theorem kM_X5_91 : Cond.methodLink "WokenYears" 91 yX5_refused ∈ WA := mW 249 (by decide +kernel) rfl
theorem kM_X5_95 : Cond.methodLink "WokenYears" 95 yX0_has ∈ WA := mW 253 (by decide +kernel) rfl
theorem kM_L_134 : Cond.methodLink "WokenYearsLaw" 134 yX5_at ∈ WA := mW 257 (by decide +kernel) rfl
theorem kM_L_89 : Cond.methodLink "WokenYearsLaw" 89 yX5_house ∈ WA := mW 261 (by decide +kernel) rfl
theorem kM_X5_132 : Cond.methodLink "WokenYears" 132 yX4_isHouse ∈ WA := mW 265 (by decide +kernel) rfl
theorem kM_X5_75 : Cond.methodLink "WokenYears" 75 yX5_within ∈ WA := mW 269 (by decide +kernel) rfl
theorem kM_X5_135 : Cond.methodLink "WokenYears" 135 yX4_tell ∈ WA := mW 272 (by decide +kernel) rfl
theorem kM_X4_78 : Cond.methodLink "WokenYears$Street" 78 yX0_get ∈ WA := mW 276 (by decide +kernel) rfl
theorem kM_X4_127 : Cond.methodLink "WokenYears$Street" 127 yX4_more ∈ WA := mW 277 (by decide +kernel) rfl
theorem kM_X4_104 : Cond.methodLink "WokenYears$Street" 104 yX4_isAwake ∈ WA := mW 281 (by decide +kernel) rfl
theorem kM_X4_114 : Cond.methodLink "WokenYears$Street" 114 yX4_isHouse ∈ WA := mW 285 (by decide +kernel) rfl
theorem kM_X4_100 : Cond.methodLink "WokenYears$Street" 100 yX4_tapsFor ∈ WA := mW 286 (by decide +kernel) rfl
theorem kM_X4_117 : Cond.methodLink "WokenYears$Street" 117 yX1_taps ∈ WA := mW 290 (by decide +kernel) rfl
theorem kM_X4_124 : Cond.methodLink "WokenYears$Street" 124 yJ9_max_7cf53 ∈ WA := mW 293 (by decide +kernel) rfl
theorem kM_L_69 : Cond.methodLink "WokenYearsLaw" 69 yX5_walk ∈ WA := mW 294 (by decide +kernel) rfl
theorem kM_X5_172 : Cond.methodLink "WokenYears" 172 yX5_isFull ∈ WA := mW 298 (by decide +kernel) rfl
theorem kM_X5_175 : Cond.methodLink "WokenYears" 175 yX4_does ∈ WA := mW 302 (by decide +kernel) rfl
theorem kM_X4_52 : Cond.methodLink "WokenYears$Street" 52 yX0_add ∈ WA := mW 306 (by decide +kernel) rfl
theorem kM_X4_82 : Cond.methodLink "WokenYears$Street" 82 yX4_perform ∈ WA := mW 310 (by decide +kernel) rfl
theorem kM_X4_89 : Cond.methodLink "WokenYears$Street" 89 yJ9_abs_0f7a4 ∈ WA := mW 314 (by decide +kernel) rfl
theorem kM_X4_94 : Cond.methodLink "WokenYears$Street" 94 yX4_hear ∈ WA := mW 317 (by decide +kernel) rfl
theorem kM_X4_97 : Cond.methodLink "WokenYears$Street" 97 yX0_set ∈ WA := mW 321 (by decide +kernel) rfl
theorem kM_X4_108 : Cond.methodLink "WokenYears$Street" 108 yX4_fee ∈ WA := mW 322 (by decide +kernel) rfl
theorem kM_X4_123 : Cond.methodLink "WokenYears$Street" 123 yX1_fee ∈ WA := mW 326 (by decide +kernel) rfl
theorem kM_X4_111 : Cond.methodLink "WokenYears$Street" 111 yJ9_min_7cf53 ∈ WA := mW 329 (by decide +kernel) rfl
theorem kM_X4_75 : Cond.methodLink "WokenYears$Street" 75 yX4_sleep ∈ WA := mW 330 (by decide +kernel) rfl
theorem kM_L_75 : Cond.methodLink "WokenYearsLaw" 75 yX5_tap ∈ WA := mW 334 (by decide +kernel) rfl
theorem kM_X5_182 : Cond.methodLink "WokenYears" 182 yX4_isAwake ∈ WA := mW 338 (by decide +kernel) rfl
theorem kM_L_113 : Cond.methodLink "WokenYearsLaw" 113 yX5_undo ∈ WA := mW 339 (by decide +kernel) rfl
theorem kM_X5_197 : Cond.methodLink "WokenYears" 197 yX0_cut ∈ WA := mW 343 (by decide +kernel) rfl
theorem kM_X5_128 : Cond.methodLink "WokenYears" 128 yX4_replay ∈ WA := mW 347 (by decide +kernel) rfl
theorem kM_X4_62 : Cond.methodLink "WokenYears$Street" 62 yX0_takeFrom ∈ WA := mW 351 (by decide +kernel) rfl
theorem kM_X0_36 : Cond.methodLink "WokenYears$Ints" 36 yX0_fill ∈ WA := mW 355 (by decide +kernel) rfl
theorem kM_X0_40 : Cond.methodLink "WokenYears$Ints" 40 yX0_copyOut ∈ WA := mW 356 (by decide +kernel) rfl
theorem kM_X0_26 : Cond.methodLink "WokenYears$Ints" 26 yX0_spans ∈ WA := mW 360 (by decide +kernel) rfl
theorem kM_X0_30 : Cond.methodLink "WokenYears$Ints" 30 ⟨"java/lang/System", "arraycopy", "(Ljava/lang/Object;ILjava/lang/Object;II)V"⟩ ∈ WA := mW 364 (by decide +kernel) rfl
theorem kNat : Cond.native ⟨"java/lang/System", "arraycopy", "(Ljava/lang/Object;ILjava/lang/Object;II)V"⟩ ∈ WA := mW 366 (by decide +kernel) rfl
theorem kM_L_120 : Cond.methodLink "WokenYearsLaw" 120 yX5_keep ∈ WA := mW 367 (by decide +kernel) rfl
theorem kM_X5_200 : Cond.methodLink "WokenYears" 200 yX0_takeFrom ∈ WA := mW 371 (by decide +kernel) rfl
theorem kM_L_137 : Cond.methodLink "WokenYearsLaw" 137 yX5_on ∈ WA := mW 372 (by decide +kernel) rfl
theorem kM_L_123 : Cond.methodLink "WokenYearsLaw" 123 yX5_takes ∈ WA := mW 376 (by decide +kernel) rfl
theorem kM_X5_185 : Cond.methodLink "WokenYears" 185 yX5_isDate ∈ WA := mW 380 (by decide +kernel) rfl
theorem kM_X5_149 : Cond.methodLink "WokenYears" 149 yX4_tapsFor ∈ WA := mW 383 (by decide +kernel) rfl
theorem kM_L_112 : Cond.methodLink "WokenYearsLaw" 112 yX5_pays ∈ WA := mW 384 (by decide +kernel) rfl
theorem kM_X5_159 : Cond.methodLink "WokenYears" 159 yX4_fee ∈ WA := mW 388 (by decide +kernel) rfl
theorem kM_L_125 : Cond.methodLink "WokenYearsLaw" 125 yX5_who ∈ WA := mW 389 (by decide +kernel) rfl
theorem kM_L_128 : Cond.methodLink "WokenYearsLaw" 128 yX5_soonest ∈ WA := mW 393 (by decide +kernel) rfl
theorem kM_X5_207 : Cond.methodLink "WokenYears" 207 yX4_isSet ∈ WA := mW 397 (by decide +kernel) rfl
theorem kM_X5_210 : Cond.methodLink "WokenYears" 210 yX4_canWake ∈ WA := mW 401 (by decide +kernel) rfl
theorem kN_X4_130 : Cond.methodLinkNest "WokenYears$Street" 130 yX5_holds "WokenYears" ∈ lw_tbl := List.mem_of_getElem? (i := 405) (by decide +kernel)
theorem kM_X5_213 : Cond.methodLink "WokenYears" 213 yX4_tapsLeft ∈ WA := mW 408 (by decide +kernel) rfl
theorem kM_X5_216 : Cond.methodLink "WokenYears" 216 yX3_walkOver ∈ WA := mW 412 (by decide +kernel) rfl
theorem kN_X3_57 : Cond.methodLinkNest "WokenYears$Rounds" 57 yX5_holds "WokenYears" ∈ lw_tbl := List.mem_of_getElem? (i := 415) (by decide +kernel)
theorem kM_X3_61 : Cond.methodLink "WokenYears$Rounds" 61 yJ9_min_7cf53 ∈ WA := mW 416 (by decide +kernel) rfl
theorem kM_X3_67 : Cond.methodLink "WokenYears$Rounds" 67 yJ9_abs_0f7a4 ∈ WA := mW 417 (by decide +kernel) rfl
theorem kM_L_131 : Cond.methodLink "WokenYearsLaw" 131 yX5_intime ∈ WA := mW 418 (by decide +kernel) rfl
theorem kM_X5_219 : Cond.methodLink "WokenYears" 219 yX3_fewest ∈ WA := mW 422 (by decide +kernel) rfl
theorem kM_X3_70 : Cond.methodLink "WokenYears$Rounds" 70 yX3_start ∈ WA := mW 426 (by decide +kernel) rfl
theorem kM_X3_38 : Cond.methodLink "WokenYears$Rounds" 38 yX0_fill ∈ WA := mW 430 (by decide +kernel) rfl
theorem kM_X3_42 : Cond.methodLink "WokenYears$Rounds" 42 yX4_more ∈ WA := mW 431 (by decide +kernel) rfl
theorem kM_X3_45 : Cond.methodLink "WokenYears$Rounds" 45 yX0_set ∈ WA := mW 432 (by decide +kernel) rfl
theorem kM_X3_51 : Cond.methodLink "WokenYears$Rounds" 51 yX0_get ∈ WA := mW 433 (by decide +kernel) rfl
theorem kM_X3_74 : Cond.methodLink "WokenYears$Rounds" 74 yX4_tapsLeft ∈ WA := mW 434 (by decide +kernel) rfl
theorem kM_X3_80 : Cond.methodLink "WokenYears$Rounds" 80 yJ6_bitCount_0f7a4 ∈ WA := mW 435 (by decide +kernel) rfl
theorem kK_J6_265 : Cond.constant "java/lang/Integer" 265 (1431655765 : Int32) ∈ WA := mW 438 (by decide +kernel) rfl
theorem kK_J6_266 : Cond.constant "java/lang/Integer" 266 (858993459 : Int32) ∈ WA := mW 439 (by decide +kernel) rfl
theorem kK_J6_267 : Cond.constant "java/lang/Integer" 267 (252645135 : Int32) ∈ WA := mW 440 (by decide +kernel) rfl
theorem kM_X3_88 : Cond.methodLink "WokenYears$Rounds" 88 yX3_seek ∈ WA := mW 441 (by decide +kernel) rfl
theorem kM_X3_92 : Cond.methodLink "WokenYears$Rounds" 92 yX3_walkOver ∈ WA := mW 444 (by decide +kernel) rfl
theorem kM_X3_95 : Cond.methodLink "WokenYears$Rounds" 95 yX0_takeFrom ∈ WA := mW 445 (by decide +kernel) rfl
theorem kM_L_140 : Cond.methodLink "WokenYearsLaw" 140 yX5_many ∈ WA := mW 446 (by decide +kernel) rfl
theorem kM_X5_226 : Cond.methodLink "WokenYears" 226 yX3_greatest ∈ WA := mW 450 (by decide +kernel) rfl
theorem kM_X3_99 : Cond.methodLink "WokenYears$Rounds" 99 yX3_endAt ∈ WA := mW 454 (by decide +kernel) rfl
theorem kM_X5_192 : Cond.methodLink "WokenYears" 192 yJ6_bitCount_0f7a4 ∈ WA := mW 458 (by decide +kernel) rfl
theorem kM_L_143 : Cond.methodLink "WokenYearsLaw" 143 yX5_dates ∈ WA := mW 459 (by decide +kernel) rfl
theorem kM_X5_230 : Cond.methodLink "WokenYears" 230 yX4_nextByDate ∈ WA := mW 463 (by decide +kernel) rfl
theorem kM_L_176 : Cond.methodLink "WokenYearsLaw" 176 yX5_whose ∈ WA := mW 467 (by decide +kernel) rfl
theorem kM_X5_246 : Cond.methodLink "WokenYears" 246 yX5_refusedPairs ∈ WA := mW 471 (by decide +kernel) rfl
theorem kM_X5_236 : Cond.methodLink "WokenYears" 236 yX5_canBe ∈ WA := mW 475 (by decide +kernel) rfl
theorem kM_X5_233 : Cond.methodLink "WokenYears" 233 yX5_tookOf ∈ WA := mW 479 (by decide +kernel) rfl
theorem kM_X5_155 : Cond.methodLink "WokenYears" 155 yX1_taps ∈ WA := mW 482 (by decide +kernel) rfl
theorem kM_L_179 : Cond.methodLink "WokenYearsLaw" 179 yX5_kinds ∈ WA := mW 483 (by decide +kernel) rfl
theorem kM_X5_249 : Cond.methodLink "WokenYears" 249 yX5_kindsBy ∈ WA := mW 487 (by decide +kernel) rfl
theorem kM_L_182 : Cond.methodLink "WokenYearsLaw" 182 yX5_test ∈ WA := mW 491 (by decide +kernel) rfl
theorem kM_X5_252 : Cond.methodLink "WokenYears" 252 yX5_greatestPart ∈ WA := mW 495 (by decide +kernel) rfl
theorem kM_X5_240 : Cond.methodLink "WokenYears" 240 yX5_holds ∈ WA := mW 499 (by decide +kernel) rfl
theorem kM_X5_243 : Cond.methodLink "WokenYears" 243 yX5_partOf ∈ WA := mW 500 (by decide +kernel) rfl
theorem kM_L_146 : Cond.methodLink "WokenYearsLaw" 146 yX5_sets ∈ WA := mW 504 (by decide +kernel) rfl
theorem kM_X5_255 : Cond.methodLink "WokenYears" 255 yX4_fees ∈ WA := mW 508 (by decide +kernel) rfl
theorem kM_X5_258 : Cond.methodLink "WokenYears" 258 yX5_tellRatio ∈ WA := mW 512 (by decide +kernel) rfl
theorem kM_X5_273 : Cond.methodLink "WokenYears" 273 yX5_divisor ∈ WA := mW 516 (by decide +kernel) rfl
theorem kM_L_153 : Cond.methodLink "WokenYearsLaw" 153 yX5_sure ∈ WA := mW 519 (by decide +kernel) rfl
theorem kM_L_156 : Cond.methodLink "WokenYearsLaw" 156 yX5_duel ∈ WA := mW 523 (by decide +kernel) rfl
theorem kM_X5_262 : Cond.methodLink "WokenYears" 262 yX4_mostAwake ∈ WA := mW 527 (by decide +kernel) rfl
theorem kM_L_159 : Cond.methodLink "WokenYearsLaw" 159 yX5_odds ∈ WA := mW 531 (by decide +kernel) rfl
theorem kM_X5_280 : Cond.methodLink "WokenYears" 280 yX5_isTry ∈ WA := mW 535 (by decide +kernel) rfl
theorem kM_X5_283 : Cond.methodLink "WokenYears" 283 yX4_more ∈ WA := mW 539 (by decide +kernel) rfl
theorem kM_X5_286 : Cond.methodLink "WokenYears" 286 yX5_weight ∈ WA := mW 540 (by decide +kernel) rfl
theorem kM_X5_265 : Cond.methodLink "WokenYears" 265 yX5_ways ∈ WA := mW 543 (by decide +kernel) rfl
theorem kM_X5_269 : Cond.methodLink "WokenYears" 269 yX5_power ∈ WA := mW 546 (by decide +kernel) rfl
theorem kJ_X5_290 : Cond.constantLong "WokenYears" 290 (12 : Int64) ∈ WA := mW 549 (by decide +kernel) rfl
theorem kM_L_165 : Cond.methodLink "WokenYearsLaw" 165 yX5_mid ∈ WA := mW 550 (by decide +kernel) rfl
theorem kM_L_92 : Cond.methodLink "WokenYearsLaw" 92 yX5_asked ∈ WA := mW 554 (by decide +kernel) rfl
theorem kM_L_149 : Cond.methodLink "WokenYearsLaw" 149 yX5_upper ∈ WA := mW 558 (by decide +kernel) rfl
theorem kM_L_162 : Cond.methodLink "WokenYearsLaw" 162 yX5_lower ∈ WA := mW 562 (by decide +kernel) rfl
theorem kM_L_62 : Cond.methodLink "WokenYearsLaw" 62 yX5_count ∈ WA := mW 566 (by decide +kernel) rfl
theorem kM_X5_188 : Cond.methodLink "WokenYears" 188 yX4_awakeSet ∈ WA := mW 570 (by decide +kernel) rfl
theorem kM_X5_305 : Cond.methodLink "WokenYears" 305 yX4_manyOf ∈ WA := mW 574 (by decide +kernel) rfl
theorem kM_X4_134 : Cond.methodLink "WokenYears$Street" 134 yX1_isOf ∈ WA := mW 578 (by decide +kernel) rfl
theorem kM_X5_308 : Cond.methodLink "WokenYears" 308 yX5_present ∈ WA := mW 581 (by decide +kernel) rfl
theorem kM_L_15 : Cond.methodLink "WokenYearsLaw" 15 yL_cell ∈ WA := mW 584 (by decide +kernel) rfl
theorem kM_L_21 : Cond.methodLink "WokenYearsLaw" 21 yL_low ∈ WA := mW 587 (by decide +kernel) rfl
theorem kM_L_96 : Cond.methodLink "WokenYearsLaw" 96 yL_built ∈ WA := mW 590 (by decide +kernel) rfl
theorem kM_L_25 : Cond.methodLink "WokenYearsLaw" 25 yX5_text ∈ WA := mW 593 (by decide +kernel) rfl
theorem kM_L_9 : Cond.methodLink "WokenYearsLaw" 9 yX5_put ∈ WA := mW 597 (by decide +kernel) rfl
theorem kM_L_28 : Cond.methodLink "WokenYearsLaw" 28 yL_figures ∈ WA := mW 601 (by decide +kernel) rfl
theorem kM_L_32 : Cond.methodLink "WokenYearsLaw" 32 yL_letter ∈ WA := mW 604 (by decide +kernel) rfl
theorem kM_L_36 : Cond.methodLink "WokenYearsLaw" 36 yX5_fault ∈ WA := mW 607 (by decide +kernel) rfl
theorem kM_X5_121 : Cond.methodLink "WokenYears" 121 yX2_read ∈ WA := mW 611 (by decide +kernel) rfl
theorem kM_X2_23 : Cond.methodLink "WokenYears$Reader" 23 yX2_skipBlanks ∈ WA := mW 615 (by decide +kernel) rfl
theorem kM_X2_53 : Cond.methodLink "WokenYears$Reader" 53 yX2_sign ∈ WA := mW 619 (by decide +kernel) rfl
theorem kM_X2_65 : Cond.methodLink "WokenYears$Reader" 65 yX0_get ∈ WA := mW 623 (by decide +kernel) rfl
theorem kM_X2_26 : Cond.methodLink "WokenYears$Reader" 26 yX2_letter ∈ WA := mW 624 (by decide +kernel) rfl
theorem kM_X2_30 : Cond.methodLink "WokenYears$Reader" 30 yX2_figure ∈ WA := mW 628 (by decide +kernel) rfl
theorem kM_X2_34 : Cond.methodLink "WokenYears$Reader" 34 yX2_twoFigures ∈ WA := mW 632 (by decide +kernel) rfl
theorem kM_X2_38 : Cond.methodLink "WokenYears$Reader" 38 yX4_begin ∈ WA := mW 636 (by decide +kernel) rfl
theorem kM_X2_49 : Cond.methodLink "WokenYears$Reader" 49 yX2_readHouse ∈ WA := mW 640 (by decide +kernel) rfl
theorem kM_X2_56 : Cond.methodLink "WokenYears$Reader" 56 yX1_byLetter ∈ WA := mW 644 (by decide +kernel) rfl
theorem kM_X2_61 : Cond.methodLink "WokenYears$Reader" 61 yX4_build ∈ WA := mW 647 (by decide +kernel) rfl
theorem kM_L_39 : Cond.methodLink "WokenYearsLaw" 39 yX5_town ∈ WA := mW 651 (by decide +kernel) rfl
theorem kM_X5_110 : Cond.methodLink "WokenYears" 110 yX0_drop ∈ WA := mW 655 (by decide +kernel) rfl
theorem kM_L_108 : Cond.methodLink "WokenYearsLaw" 108 yL_has ∈ WA := mW 659 (by decide +kernel) rfl
theorem kM_L_59 : Cond.methodLink "WokenYearsLaw" 59 yL_bits ∈ WA := mW 662 (by decide +kernel) rfl
theorem kM_L_100 : Cond.methodLink "WokenYearsLaw" 100 yL_copy ∈ WA := mW 665 (by decide +kernel) rfl
theorem kM_L_55 : Cond.methodLink "WokenYearsLaw" 55 yL_awake ∈ WA := mW 668 (by decide +kernel) rfl
theorem kM_L_45 : Cond.methodLink "WokenYearsLaw" 45 yL_far ∈ WA := mW 671 (by decide +kernel) rfl
theorem kM_L_104 : Cond.methodLink "WokenYearsLaw" 104 yL_deed ∈ WA := mW 674 (by decide +kernel) rfl
theorem kM_L_65 : Cond.methodLink "WokenYearsLaw" 65 yL_walk ∈ WA := mW 677 (by decide +kernel) rfl
theorem kM_L_71 : Cond.methodLink "WokenYearsLaw" 71 yL_tap ∈ WA := mW 680 (by decide +kernel) rfl
theorem kM_L_48 : Cond.methodLink "WokenYearsLaw" 48 yL_more ∈ WA := mW 683 (by decide +kernel) rfl
theorem kM_L_42 : Cond.methodLink "WokenYearsLaw" 42 yL_takes ∈ WA := mW 686 (by decide +kernel) rfl
theorem kM_L_52 : Cond.methodLink "WokenYearsLaw" 52 yL_pays ∈ WA := mW 689 (by decide +kernel) rfl
theorem kM_L_78 : Cond.methodLink "WokenYearsLaw" 78 yX5_slate ∈ WA := mW 692 (by decide +kernel) rfl
theorem kM_L_81 : Cond.methodLink "WokenYearsLaw" 81 yX5_frost ∈ WA := mW 696 (by decide +kernel) rfl
theorem kM_L_84 : Cond.methodLink "WokenYearsLaw" 84 yL_night ∈ WA := mW 700 (by decide +kernel) rfl
theorem kM_L_87 : Cond.methodLink "WokenYearsLaw" 87 yX5_night ∈ WA := mW 703 (by decide +kernel) rfl
theorem kM_L_116 : Cond.methodLink "WokenYearsLaw" 116 yL_same ∈ WA := mW 707 (by decide +kernel) rfl
theorem kJ_L_168 : Cond.constantLong "WokenYearsLaw" 168 (5 : Int64) ∈ WA := mW 710 (by decide +kernel) rfl
theorem inX0 : ∀ w ∈ u_ws RX0 TX0 2, w ∈ WA := mWs [59, 61] (by decide +kernel) (by decide +kernel)
theorem inX2 : ∀ w ∈ u_ws RX2 TX2 3, w ∈ WA := mWs [74, 76, 78] (by decide +kernel) (by decide +kernel)
theorem inX3 : ∀ w ∈ u_ws RX3 TX3 6, w ∈ WA := mWs [96, 98, 100, 102, 104, 106] (by decide +kernel) (by decide +kernel)
theorem inX4 : ∀ w ∈ u_ws RX4 TX4 15, w ∈ WA := mWs [153, 155, 157, 159, 161, 163, 165, 167, 169, 171, 173, 175, 177, 179, 181] (by decide +kernel) (by decide +kernel)
theorem inX5 : ∀ w ∈ u_ws RX5 TX5 12, w ∈ WA := mWs [197, 199, 201, 203, 205, 207, 209, 211, 213, 215, 217, 219] (by decide +kernel) (by decide +kernel)
def okV (y : MethodName) (cc : ByteArray) (maxL : Nat) (ret : Option FieldType) (n : Nat) : Prop := Cond.code y cc maxL ret ∈ WA ∧ Cond.instanceMethod y ∈ WA ∧ Cond.selects y.cls y y ∈ WA ∧ Cond.initialized y.cls ∈ WA ∧ y.cls ≠ "java/lang/invoke/MethodHandle" ∧ y.cls ≠ "java/lang/invoke/VarHandle" ∧ (parseMethodDescriptor y.desc).map (fun d => d.parameters.length) = some n
def okI (y : MethodName) (cc : ByteArray) (maxL : Nat) (n : Nat) : Prop := Cond.code y cc maxL none ∈ WA ∧ Cond.instanceMethod y ∈ WA ∧ Cond.initialized y.cls ∈ WA ∧ y.name = "<init>" ∧ y.cls ≠ "java/lang/invoke/MethodHandle" ∧ y.cls ≠ "java/lang/invoke/VarHandle" ∧ (parseMethodDescriptor y.desc).map (fun d => d.parameters.length) = some n
def okS (y : MethodName) (cc : ByteArray) (maxL : Nat) (ret : Option FieldType) (n : Nat) : Prop := Cond.code y cc maxL ret ∈ WA ∧ Cond.static y ∈ WA ∧ Cond.initialized y.cls ∈ WA ∧ y.cls ≠ "java/lang/invoke/MethodHandle" ∧ y.cls ≠ "java/lang/invoke/VarHandle" ∧ (parseMethodDescriptor y.desc).map (fun d => d.parameters.length) = some n
theorem ok_X5_init : okI yX5_init cX5_init 1 0 := ⟨mW 36 (by decide +kernel) rfl, mW 35 (by decide +kernel) rfl, mW 23 (by decide +kernel) rfl, rfl, by decide +kernel, by decide +kernel, by decide +kernel⟩
theorem ok_X5_missing : okS yX5_missing cX5_missing 4 (Option.some (.array (.object "WokenYears$Ints"))) 2 := ⟨mW 42 (by decide +kernel) rfl, mW 41 (by decide +kernel) rfl, mW 23 (by decide +kernel) rfl, by decide +kernel, by decide +kernel, by decide +kernel⟩
theorem ok_J9_max_7cf53 : okS yJ9_max_7cf53 cJ9_max_7cf53 2 (some .int) 2 := ⟨mW 45 (by decide +kernel) rfl, mW 44 (by decide +kernel) rfl, mW 24 (by decide +kernel) rfl, by decide +kernel, by decide +kernel, by decide +kernel⟩
theorem ok_X0_init : okI yX0_init cX0_init 2 1 := ⟨mW 51 (by decide +kernel) rfl, mW 50 (by decide +kernel) rfl, mW 25 (by decide +kernel) rfl, rfl, by decide +kernel, by decide +kernel, by decide +kernel⟩
theorem ok_X2_init : okI yX2_init cX2_init 1 0 := ⟨mW 69 (by decide +kernel) rfl, mW 68 (by decide +kernel) rfl, mW 26 (by decide +kernel) rfl, rfl, by decide +kernel, by decide +kernel, by decide +kernel⟩
theorem ok_X3_init : okI yX3_init cX3_init 1 0 := ⟨mW 85 (by decide +kernel) rfl, mW 84 (by decide +kernel) rfl, mW 27 (by decide +kernel) rfl, rfl, by decide +kernel, by decide +kernel, by decide +kernel⟩
theorem ok_X4_init : okI yX4_init cX4_init 1 0 := ⟨mW 113 (by decide +kernel) rfl, mW 112 (by decide +kernel) rfl, mW 28 (by decide +kernel) rfl, rfl, by decide +kernel, by decide +kernel, by decide +kernel⟩
theorem ok_X0_fill : okV yX0_fill cX0_fill 4 (none) 2 := ⟨mW 120 (by decide +kernel) rfl, mW 118 (by decide +kernel) rfl, mW 119 (by decide +kernel) rfl, mW 25 (by decide +kernel) rfl, by decide +kernel, by decide +kernel, by decide +kernel⟩
theorem ok_J9_min_7cf53 : okS yJ9_min_7cf53 cJ9_min_7cf53 2 (some .int) 2 := ⟨mW 123 (by decide +kernel) rfl, mW 122 (by decide +kernel) rfl, mW 24 (by decide +kernel) rfl, by decide +kernel, by decide +kernel, by decide +kernel⟩
theorem ok_X5_row : okV yX5_row cX5_row 4 (some .int) 2 := ⟨mW 225 (by decide +kernel) rfl, mW 223 (by decide +kernel) rfl, mW 224 (by decide +kernel) rfl, mW 23 (by decide +kernel) rfl, by decide +kernel, by decide +kernel, by decide +kernel⟩
theorem ok_X5_pick : okS yX5_pick cX5_pick 2 (Option.some (.object "WokenYears$Ints")) 2 := ⟨mW 228 (by decide +kernel) rfl, mW 227 (by decide +kernel) rfl, mW 23 (by decide +kernel) rfl, by decide +kernel, by decide +kernel, by decide +kernel⟩
theorem ok_X5_found : okV yX5_found cX5_found 2 (some .int) 1 := ⟨mW 232 (by decide +kernel) rfl, mW 231 (by decide +kernel) rfl, mW 0 (by decide +kernel) rfl, mW 23 (by decide +kernel) rfl, by decide +kernel, by decide +kernel, by decide +kernel⟩
theorem ok_X0_get : okV yX0_get cX0_get 2 (some .int) 1 := ⟨mW 236 (by decide +kernel) rfl, mW 234 (by decide +kernel) rfl, mW 235 (by decide +kernel) rfl, mW 25 (by decide +kernel) rfl, by decide +kernel, by decide +kernel, by decide +kernel⟩
theorem ok_X0_set : okV yX0_set cX0_set 3 (none) 2 := ⟨mW 240 (by decide +kernel) rfl, mW 238 (by decide +kernel) rfl, mW 239 (by decide +kernel) rfl, mW 25 (by decide +kernel) rfl, by decide +kernel, by decide +kernel, by decide +kernel⟩
theorem ok_X5_lay : okV yX5_lay cX5_lay 6 (some .int) 3 := ⟨mW 244 (by decide +kernel) rfl, mW 242 (by decide +kernel) rfl, mW 243 (by decide +kernel) rfl, mW 23 (by decide +kernel) rfl, by decide +kernel, by decide +kernel, by decide +kernel⟩
theorem ok_X5_refusedAt : okV yX5_refusedAt cX5_refusedAt 4 (some .int) 2 := ⟨mW 248 (by decide +kernel) rfl, mW 247 (by decide +kernel) rfl, mW 1 (by decide +kernel) rfl, mW 23 (by decide +kernel) rfl, by decide +kernel, by decide +kernel, by decide +kernel⟩
theorem ok_X5_refused : okV yX5_refused cX5_refused 2 (some .int) 1 := ⟨mW 252 (by decide +kernel) rfl, mW 251 (by decide +kernel) rfl, mW 2 (by decide +kernel) rfl, mW 23 (by decide +kernel) rfl, by decide +kernel, by decide +kernel, by decide +kernel⟩
theorem ok_X0_has : okV yX0_has cX0_has 2 (some .boolean) 1 := ⟨mW 256 (by decide +kernel) rfl, mW 254 (by decide +kernel) rfl, mW 255 (by decide +kernel) rfl, mW 25 (by decide +kernel) rfl, by decide +kernel, by decide +kernel, by decide +kernel⟩
theorem ok_X5_at : okV yX5_at cX5_at 5 (some .int) 2 := ⟨mW 260 (by decide +kernel) rfl, mW 258 (by decide +kernel) rfl, mW 259 (by decide +kernel) rfl, mW 23 (by decide +kernel) rfl, by decide +kernel, by decide +kernel, by decide +kernel⟩
theorem ok_X5_house : okV yX5_house cX5_house 3 (some .int) 2 := ⟨mW 264 (by decide +kernel) rfl, mW 262 (by decide +kernel) rfl, mW 263 (by decide +kernel) rfl, mW 23 (by decide +kernel) rfl, by decide +kernel, by decide +kernel, by decide +kernel⟩
theorem ok_X4_isHouse : okV yX4_isHouse cX4_isHouse 2 (some .boolean) 1 := ⟨mW 268 (by decide +kernel) rfl, mW 266 (by decide +kernel) rfl, mW 267 (by decide +kernel) rfl, mW 28 (by decide +kernel) rfl, by decide +kernel, by decide +kernel, by decide +kernel⟩
theorem ok_X5_within : okS yX5_within cX5_within 3 (some .boolean) 3 := ⟨mW 271 (by decide +kernel) rfl, mW 270 (by decide +kernel) rfl, mW 23 (by decide +kernel) rfl, by decide +kernel, by decide +kernel, by decide +kernel⟩
theorem ok_X4_tell : okV yX4_tell cX4_tell 3 (some .int) 2 := ⟨mW 275 (by decide +kernel) rfl, mW 273 (by decide +kernel) rfl, mW 274 (by decide +kernel) rfl, mW 28 (by decide +kernel) rfl, by decide +kernel, by decide +kernel, by decide +kernel⟩
theorem ok_X4_more : okV yX4_more cX4_more 3 (some .int) 1 := ⟨mW 280 (by decide +kernel) rfl, mW 278 (by decide +kernel) rfl, mW 279 (by decide +kernel) rfl, mW 28 (by decide +kernel) rfl, by decide +kernel, by decide +kernel, by decide +kernel⟩
theorem ok_X4_isAwake : okV yX4_isAwake cX4_isAwake 2 (some .boolean) 1 := ⟨mW 284 (by decide +kernel) rfl, mW 282 (by decide +kernel) rfl, mW 283 (by decide +kernel) rfl, mW 28 (by decide +kernel) rfl, by decide +kernel, by decide +kernel, by decide +kernel⟩
theorem ok_X4_tapsFor : okV yX4_tapsFor cX4_tapsFor 3 (some .int) 2 := ⟨mW 289 (by decide +kernel) rfl, mW 287 (by decide +kernel) rfl, mW 288 (by decide +kernel) rfl, mW 28 (by decide +kernel) rfl, by decide +kernel, by decide +kernel, by decide +kernel⟩
theorem ok_X1_taps : okS yX1_taps cX1_taps 5 (some .int) 3 := ⟨mW 292 (by decide +kernel) rfl, mW 291 (by decide +kernel) rfl, mW 29 (by decide +kernel) rfl, by decide +kernel, by decide +kernel, by decide +kernel⟩
theorem ok_X5_walk : okV yX5_walk cX5_walk 2 (some .int) 1 := ⟨mW 297 (by decide +kernel) rfl, mW 295 (by decide +kernel) rfl, mW 296 (by decide +kernel) rfl, mW 23 (by decide +kernel) rfl, by decide +kernel, by decide +kernel, by decide +kernel⟩
theorem ok_X5_isFull : okV yX5_isFull cX5_isFull 2 (some .boolean) 1 := ⟨mW 301 (by decide +kernel) rfl, mW 300 (by decide +kernel) rfl, mW 3 (by decide +kernel) rfl, mW 23 (by decide +kernel) rfl, by decide +kernel, by decide +kernel, by decide +kernel⟩
theorem ok_X4_does : okV yX4_does cX4_does 5 (none) 3 := ⟨mW 305 (by decide +kernel) rfl, mW 303 (by decide +kernel) rfl, mW 304 (by decide +kernel) rfl, mW 28 (by decide +kernel) rfl, by decide +kernel, by decide +kernel, by decide +kernel⟩
theorem ok_X0_add : okV yX0_add cX0_add 2 (none) 1 := ⟨mW 309 (by decide +kernel) rfl, mW 307 (by decide +kernel) rfl, mW 308 (by decide +kernel) rfl, mW 25 (by decide +kernel) rfl, by decide +kernel, by decide +kernel, by decide +kernel⟩
theorem ok_X4_perform : okV yX4_perform cX4_perform 4 (none) 1 := ⟨mW 313 (by decide +kernel) rfl, mW 312 (by decide +kernel) rfl, mW 4 (by decide +kernel) rfl, mW 28 (by decide +kernel) rfl, by decide +kernel, by decide +kernel, by decide +kernel⟩
theorem ok_J9_abs_0f7a4 : okS yJ9_abs_0f7a4 cJ9_abs_0f7a4 1 (some .int) 1 := ⟨mW 316 (by decide +kernel) rfl, mW 315 (by decide +kernel) rfl, mW 24 (by decide +kernel) rfl, by decide +kernel, by decide +kernel, by decide +kernel⟩
theorem ok_X4_hear : okV yX4_hear cX4_hear 3 (none) 1 := ⟨mW 320 (by decide +kernel) rfl, mW 319 (by decide +kernel) rfl, mW 5 (by decide +kernel) rfl, mW 28 (by decide +kernel) rfl, by decide +kernel, by decide +kernel, by decide +kernel⟩
theorem ok_X4_fee : okV yX4_fee cX4_fee 2 (some .int) 1 := ⟨mW 325 (by decide +kernel) rfl, mW 323 (by decide +kernel) rfl, mW 324 (by decide +kernel) rfl, mW 28 (by decide +kernel) rfl, by decide +kernel, by decide +kernel, by decide +kernel⟩
theorem ok_X1_fee : okS yX1_fee cX1_fee 1 (some .int) 1 := ⟨mW 328 (by decide +kernel) rfl, mW 327 (by decide +kernel) rfl, mW 29 (by decide +kernel) rfl, by decide +kernel, by decide +kernel, by decide +kernel⟩
theorem ok_X4_sleep : okV yX4_sleep cX4_sleep 1 (none) 0 := ⟨mW 333 (by decide +kernel) rfl, mW 332 (by decide +kernel) rfl, mW 6 (by decide +kernel) rfl, mW 28 (by decide +kernel) rfl, by decide +kernel, by decide +kernel, by decide +kernel⟩
theorem ok_X5_tap : okV yX5_tap cX5_tap 1 (some .int) 0 := ⟨mW 337 (by decide +kernel) rfl, mW 335 (by decide +kernel) rfl, mW 336 (by decide +kernel) rfl, mW 23 (by decide +kernel) rfl, by decide +kernel, by decide +kernel, by decide +kernel⟩
theorem ok_X5_undo : okV yX5_undo cX5_undo 3 (some .int) 1 := ⟨mW 342 (by decide +kernel) rfl, mW 340 (by decide +kernel) rfl, mW 341 (by decide +kernel) rfl, mW 23 (by decide +kernel) rfl, by decide +kernel, by decide +kernel, by decide +kernel⟩
theorem ok_X0_cut : okV yX0_cut cX0_cut 2 (none) 1 := ⟨mW 346 (by decide +kernel) rfl, mW 344 (by decide +kernel) rfl, mW 345 (by decide +kernel) rfl, mW 25 (by decide +kernel) rfl, by decide +kernel, by decide +kernel, by decide +kernel⟩
theorem ok_X4_replay : okV yX4_replay cX4_replay 2 (none) 0 := ⟨mW 350 (by decide +kernel) rfl, mW 348 (by decide +kernel) rfl, mW 349 (by decide +kernel) rfl, mW 28 (by decide +kernel) rfl, by decide +kernel, by decide +kernel, by decide +kernel⟩
theorem ok_X0_takeFrom : okV yX0_takeFrom cX0_takeFrom 2 (none) 1 := ⟨mW 354 (by decide +kernel) rfl, mW 352 (by decide +kernel) rfl, mW 353 (by decide +kernel) rfl, mW 25 (by decide +kernel) rfl, by decide +kernel, by decide +kernel, by decide +kernel⟩
theorem ok_X0_copyOut : okV yX0_copyOut cX0_copyOut 5 (none) 4 := ⟨mW 359 (by decide +kernel) rfl, mW 357 (by decide +kernel) rfl, mW 358 (by decide +kernel) rfl, mW 25 (by decide +kernel) rfl, by decide +kernel, by decide +kernel, by decide +kernel⟩
theorem ok_X0_spans : okV yX0_spans cX0_spans 3 (some .boolean) 2 := ⟨mW 363 (by decide +kernel) rfl, mW 361 (by decide +kernel) rfl, mW 362 (by decide +kernel) rfl, mW 25 (by decide +kernel) rfl, by decide +kernel, by decide +kernel, by decide +kernel⟩
theorem ok_X5_keep : okV yX5_keep cX5_keep 3 (some .int) 1 := ⟨mW 370 (by decide +kernel) rfl, mW 368 (by decide +kernel) rfl, mW 369 (by decide +kernel) rfl, mW 23 (by decide +kernel) rfl, by decide +kernel, by decide +kernel, by decide +kernel⟩
theorem ok_X5_on : okV yX5_on cX5_on 4 (some .int) 1 := ⟨mW 375 (by decide +kernel) rfl, mW 373 (by decide +kernel) rfl, mW 374 (by decide +kernel) rfl, mW 23 (by decide +kernel) rfl, by decide +kernel, by decide +kernel, by decide +kernel⟩
theorem ok_X5_takes : okV yX5_takes cX5_takes 3 (some .int) 2 := ⟨mW 379 (by decide +kernel) rfl, mW 377 (by decide +kernel) rfl, mW 378 (by decide +kernel) rfl, mW 23 (by decide +kernel) rfl, by decide +kernel, by decide +kernel, by decide +kernel⟩
theorem ok_X5_isDate : okS yX5_isDate cX5_isDate 1 (some .boolean) 1 := ⟨mW 382 (by decide +kernel) rfl, mW 381 (by decide +kernel) rfl, mW 23 (by decide +kernel) rfl, by decide +kernel, by decide +kernel, by decide +kernel⟩
theorem ok_X5_pays : okV yX5_pays cX5_pays 2 (some .int) 1 := ⟨mW 387 (by decide +kernel) rfl, mW 385 (by decide +kernel) rfl, mW 386 (by decide +kernel) rfl, mW 23 (by decide +kernel) rfl, by decide +kernel, by decide +kernel, by decide +kernel⟩
theorem ok_X5_who : okV yX5_who cX5_who 5 (some .int) 2 := ⟨mW 392 (by decide +kernel) rfl, mW 390 (by decide +kernel) rfl, mW 391 (by decide +kernel) rfl, mW 23 (by decide +kernel) rfl, by decide +kernel, by decide +kernel, by decide +kernel⟩
theorem ok_X5_soonest : okV yX5_soonest cX5_soonest 2 (some .int) 1 := ⟨mW 396 (by decide +kernel) rfl, mW 394 (by decide +kernel) rfl, mW 395 (by decide +kernel) rfl, mW 23 (by decide +kernel) rfl, by decide +kernel, by decide +kernel, by decide +kernel⟩
theorem ok_X4_isSet : okV yX4_isSet cX4_isSet 2 (some .boolean) 1 := ⟨mW 400 (by decide +kernel) rfl, mW 398 (by decide +kernel) rfl, mW 399 (by decide +kernel) rfl, mW 28 (by decide +kernel) rfl, by decide +kernel, by decide +kernel, by decide +kernel⟩
theorem ok_X4_canWake : okV yX4_canWake cX4_canWake 3 (some .boolean) 1 := ⟨mW 404 (by decide +kernel) rfl, mW 402 (by decide +kernel) rfl, mW 403 (by decide +kernel) rfl, mW 28 (by decide +kernel) rfl, by decide +kernel, by decide +kernel, by decide +kernel⟩
theorem ok_X5_holds : okS yX5_holds cX5_holds 2 (some .boolean) 2 := ⟨mW 407 (by decide +kernel) rfl, mW 406 (by decide +kernel) rfl, mW 23 (by decide +kernel) rfl, by decide +kernel, by decide +kernel, by decide +kernel⟩
theorem ok_X4_tapsLeft : okV yX4_tapsLeft cX4_tapsLeft 4 (some .int) 1 := ⟨mW 411 (by decide +kernel) rfl, mW 409 (by decide +kernel) rfl, mW 410 (by decide +kernel) rfl, mW 28 (by decide +kernel) rfl, by decide +kernel, by decide +kernel, by decide +kernel⟩
theorem ok_X3_walkOver : okS yX3_walkOver cX3_walkOver 5 (some .int) 2 := ⟨mW 414 (by decide +kernel) rfl, mW 413 (by decide +kernel) rfl, mW 27 (by decide +kernel) rfl, by decide +kernel, by decide +kernel, by decide +kernel⟩
theorem ok_X5_intime : okV yX5_intime cX5_intime 5 (some .int) 2 := ⟨mW 421 (by decide +kernel) rfl, mW 419 (by decide +kernel) rfl, mW 420 (by decide +kernel) rfl, mW 23 (by decide +kernel) rfl, by decide +kernel, by decide +kernel, by decide +kernel⟩
theorem ok_X3_fewest : okV yX3_fewest cX3_fewest 5 (some .int) 2 := ⟨mW 425 (by decide +kernel) rfl, mW 423 (by decide +kernel) rfl, mW 424 (by decide +kernel) rfl, mW 27 (by decide +kernel) rfl, by decide +kernel, by decide +kernel, by decide +kernel⟩
theorem ok_X3_start : okV yX3_start cX3_start 3 (none) 1 := ⟨mW 429 (by decide +kernel) rfl, mW 428 (by decide +kernel) rfl, mW 7 (by decide +kernel) rfl, mW 27 (by decide +kernel) rfl, by decide +kernel, by decide +kernel, by decide +kernel⟩
theorem ok_J6_bitCount_0f7a4 : okS yJ6_bitCount_0f7a4 cJ6_bitCount_0f7a4 1 (some .int) 1 := ⟨mW 437 (by decide +kernel) rfl, mW 436 (by decide +kernel) rfl, mW 31 (by decide +kernel) rfl, by decide +kernel, by decide +kernel, by decide +kernel⟩
theorem ok_X3_seek : okS yX3_seek cX3_seek 9 (none) 6 := ⟨mW 443 (by decide +kernel) rfl, mW 442 (by decide +kernel) rfl, mW 27 (by decide +kernel) rfl, by decide +kernel, by decide +kernel, by decide +kernel⟩
theorem ok_X5_many : okV yX5_many cX5_many 1 (some .int) 0 := ⟨mW 449 (by decide +kernel) rfl, mW 447 (by decide +kernel) rfl, mW 448 (by decide +kernel) rfl, mW 23 (by decide +kernel) rfl, by decide +kernel, by decide +kernel, by decide +kernel⟩
theorem ok_X3_greatest : okV yX3_greatest cX3_greatest 7 (some .int) 1 := ⟨mW 453 (by decide +kernel) rfl, mW 451 (by decide +kernel) rfl, mW 452 (by decide +kernel) rfl, mW 27 (by decide +kernel) rfl, by decide +kernel, by decide +kernel, by decide +kernel⟩
theorem ok_X3_endAt : okV yX3_endAt cX3_endAt 9 (some .int) 3 := ⟨mW 457 (by decide +kernel) rfl, mW 456 (by decide +kernel) rfl, mW 8 (by decide +kernel) rfl, mW 27 (by decide +kernel) rfl, by decide +kernel, by decide +kernel, by decide +kernel⟩
theorem ok_X5_dates : okV yX5_dates cX5_dates 9 (some .int) 1 := ⟨mW 462 (by decide +kernel) rfl, mW 460 (by decide +kernel) rfl, mW 461 (by decide +kernel) rfl, mW 23 (by decide +kernel) rfl, by decide +kernel, by decide +kernel, by decide +kernel⟩
theorem ok_X4_nextByDate : okV yX4_nextByDate cX4_nextByDate 6 (some .int) 2 := ⟨mW 466 (by decide +kernel) rfl, mW 464 (by decide +kernel) rfl, mW 465 (by decide +kernel) rfl, mW 28 (by decide +kernel) rfl, by decide +kernel, by decide +kernel, by decide +kernel⟩
theorem ok_X5_whose : okV yX5_whose cX5_whose 6 (some .int) 1 := ⟨mW 470 (by decide +kernel) rfl, mW 468 (by decide +kernel) rfl, mW 469 (by decide +kernel) rfl, mW 23 (by decide +kernel) rfl, by decide +kernel, by decide +kernel, by decide +kernel⟩
theorem ok_X5_refusedPairs : okV yX5_refusedPairs cX5_refusedPairs 4 (some .int) 1 := ⟨mW 474 (by decide +kernel) rfl, mW 473 (by decide +kernel) rfl, mW 9 (by decide +kernel) rfl, mW 23 (by decide +kernel) rfl, by decide +kernel, by decide +kernel, by decide +kernel⟩
theorem ok_X5_canBe : okV yX5_canBe cX5_canBe 4 (some .boolean) 2 := ⟨mW 478 (by decide +kernel) rfl, mW 477 (by decide +kernel) rfl, mW 10 (by decide +kernel) rfl, mW 23 (by decide +kernel) rfl, by decide +kernel, by decide +kernel, by decide +kernel⟩
theorem ok_X5_tookOf : okS yX5_tookOf cX5_tookOf 4 (some .int) 3 := ⟨mW 481 (by decide +kernel) rfl, mW 480 (by decide +kernel) rfl, mW 23 (by decide +kernel) rfl, by decide +kernel, by decide +kernel, by decide +kernel⟩
theorem ok_X5_kinds : okV yX5_kinds cX5_kinds 4 (some .int) 1 := ⟨mW 486 (by decide +kernel) rfl, mW 484 (by decide +kernel) rfl, mW 485 (by decide +kernel) rfl, mW 23 (by decide +kernel) rfl, by decide +kernel, by decide +kernel, by decide +kernel⟩
theorem ok_X5_kindsBy : okV yX5_kindsBy cX5_kindsBy 4 (some .int) 1 := ⟨mW 490 (by decide +kernel) rfl, mW 489 (by decide +kernel) rfl, mW 11 (by decide +kernel) rfl, mW 23 (by decide +kernel) rfl, by decide +kernel, by decide +kernel, by decide +kernel⟩
theorem ok_X5_test : okV yX5_test cX5_test 9 (some .int) 1 := ⟨mW 494 (by decide +kernel) rfl, mW 492 (by decide +kernel) rfl, mW 493 (by decide +kernel) rfl, mW 23 (by decide +kernel) rfl, by decide +kernel, by decide +kernel, by decide +kernel⟩
theorem ok_X5_greatestPart : okV yX5_greatestPart cX5_greatestPart 6 (some .int) 2 := ⟨mW 498 (by decide +kernel) rfl, mW 497 (by decide +kernel) rfl, mW 12 (by decide +kernel) rfl, mW 23 (by decide +kernel) rfl, by decide +kernel, by decide +kernel, by decide +kernel⟩
theorem ok_X5_partOf : okV yX5_partOf cX5_partOf 6 (some .int) 3 := ⟨mW 503 (by decide +kernel) rfl, mW 502 (by decide +kernel) rfl, mW 13 (by decide +kernel) rfl, mW 23 (by decide +kernel) rfl, by decide +kernel, by decide +kernel, by decide +kernel⟩
theorem ok_X5_sets : okV yX5_sets cX5_sets 5 (some .int) 1 := ⟨mW 507 (by decide +kernel) rfl, mW 505 (by decide +kernel) rfl, mW 506 (by decide +kernel) rfl, mW 23 (by decide +kernel) rfl, by decide +kernel, by decide +kernel, by decide +kernel⟩
theorem ok_X4_fees : okV yX4_fees cX4_fees 4 (some .int) 1 := ⟨mW 511 (by decide +kernel) rfl, mW 509 (by decide +kernel) rfl, mW 510 (by decide +kernel) rfl, mW 28 (by decide +kernel) rfl, by decide +kernel, by decide +kernel, by decide +kernel⟩
theorem ok_X5_tellRatio : okV yX5_tellRatio cX5_tellRatio 7 (none) 2 := ⟨mW 515 (by decide +kernel) rfl, mW 514 (by decide +kernel) rfl, mW 14 (by decide +kernel) rfl, mW 23 (by decide +kernel) rfl, by decide +kernel, by decide +kernel, by decide +kernel⟩
theorem ok_X5_divisor : okS yX5_divisor cX5_divisor 7 (some .long) 2 := ⟨mW 518 (by decide +kernel) rfl, mW 517 (by decide +kernel) rfl, mW 23 (by decide +kernel) rfl, by decide +kernel, by decide +kernel, by decide +kernel⟩
theorem ok_X5_sure : okV yX5_sure cX5_sure 7 (some .int) 1 := ⟨mW 522 (by decide +kernel) rfl, mW 520 (by decide +kernel) rfl, mW 521 (by decide +kernel) rfl, mW 23 (by decide +kernel) rfl, by decide +kernel, by decide +kernel, by decide +kernel⟩
theorem ok_X5_duel : okV yX5_duel cX5_duel 2 (some .int) 1 := ⟨mW 526 (by decide +kernel) rfl, mW 524 (by decide +kernel) rfl, mW 525 (by decide +kernel) rfl, mW 23 (by decide +kernel) rfl, by decide +kernel, by decide +kernel, by decide +kernel⟩
theorem ok_X4_mostAwake : okV yX4_mostAwake cX4_mostAwake 7 (some .int) 2 := ⟨mW 530 (by decide +kernel) rfl, mW 528 (by decide +kernel) rfl, mW 529 (by decide +kernel) rfl, mW 28 (by decide +kernel) rfl, by decide +kernel, by decide +kernel, by decide +kernel⟩
theorem ok_X5_odds : okV yX5_odds cX5_odds 8 (some .int) 3 := ⟨mW 534 (by decide +kernel) rfl, mW 532 (by decide +kernel) rfl, mW 533 (by decide +kernel) rfl, mW 23 (by decide +kernel) rfl, by decide +kernel, by decide +kernel, by decide +kernel⟩
theorem ok_X5_isTry : okV yX5_isTry cX5_isTry 4 (some .boolean) 3 := ⟨mW 538 (by decide +kernel) rfl, mW 537 (by decide +kernel) rfl, mW 15 (by decide +kernel) rfl, mW 23 (by decide +kernel) rfl, by decide +kernel, by decide +kernel, by decide +kernel⟩
theorem ok_X5_weight : okS yX5_weight cX5_weight 3 (some .long) 3 := ⟨mW 542 (by decide +kernel) rfl, mW 541 (by decide +kernel) rfl, mW 23 (by decide +kernel) rfl, by decide +kernel, by decide +kernel, by decide +kernel⟩
theorem ok_X5_ways : okS yX5_ways cX5_ways 5 (some .long) 2 := ⟨mW 545 (by decide +kernel) rfl, mW 544 (by decide +kernel) rfl, mW 23 (by decide +kernel) rfl, by decide +kernel, by decide +kernel, by decide +kernel⟩
theorem ok_X5_power : okS yX5_power cX5_power 6 (some .long) 2 := ⟨mW 548 (by decide +kernel) rfl, mW 547 (by decide +kernel) rfl, mW 23 (by decide +kernel) rfl, by decide +kernel, by decide +kernel, by decide +kernel⟩
theorem ok_X5_mid : okV yX5_mid cX5_mid 8 (some .int) 3 := ⟨mW 553 (by decide +kernel) rfl, mW 551 (by decide +kernel) rfl, mW 552 (by decide +kernel) rfl, mW 23 (by decide +kernel) rfl, by decide +kernel, by decide +kernel, by decide +kernel⟩
theorem ok_X5_asked : okV yX5_asked cX5_asked 1 (some .int) 0 := ⟨mW 557 (by decide +kernel) rfl, mW 555 (by decide +kernel) rfl, mW 556 (by decide +kernel) rfl, mW 23 (by decide +kernel) rfl, by decide +kernel, by decide +kernel, by decide +kernel⟩
theorem ok_X5_upper : okV yX5_upper cX5_upper 1 (some .long) 0 := ⟨mW 561 (by decide +kernel) rfl, mW 559 (by decide +kernel) rfl, mW 560 (by decide +kernel) rfl, mW 23 (by decide +kernel) rfl, by decide +kernel, by decide +kernel, by decide +kernel⟩
theorem ok_X5_lower : okV yX5_lower cX5_lower 1 (some .long) 0 := ⟨mW 565 (by decide +kernel) rfl, mW 563 (by decide +kernel) rfl, mW 564 (by decide +kernel) rfl, mW 23 (by decide +kernel) rfl, by decide +kernel, by decide +kernel, by decide +kernel⟩
theorem ok_X5_count : okV yX5_count cX5_count 2 (some .int) 1 := ⟨mW 569 (by decide +kernel) rfl, mW 567 (by decide +kernel) rfl, mW 568 (by decide +kernel) rfl, mW 23 (by decide +kernel) rfl, by decide +kernel, by decide +kernel, by decide +kernel⟩
theorem ok_X4_awakeSet : okV yX4_awakeSet cX4_awakeSet 3 (some .int) 0 := ⟨mW 573 (by decide +kernel) rfl, mW 571 (by decide +kernel) rfl, mW 572 (by decide +kernel) rfl, mW 28 (by decide +kernel) rfl, by decide +kernel, by decide +kernel, by decide +kernel⟩
theorem ok_X4_manyOf : okV yX4_manyOf cX4_manyOf 4 (some .int) 1 := ⟨mW 577 (by decide +kernel) rfl, mW 575 (by decide +kernel) rfl, mW 576 (by decide +kernel) rfl, mW 28 (by decide +kernel) rfl, by decide +kernel, by decide +kernel, by decide +kernel⟩
theorem ok_X1_isOf : okS yX1_isOf cX1_isOf 2 (some .boolean) 2 := ⟨mW 580 (by decide +kernel) rfl, mW 579 (by decide +kernel) rfl, mW 29 (by decide +kernel) rfl, by decide +kernel, by decide +kernel, by decide +kernel⟩
theorem ok_X5_present : okS yX5_present cX5_present 4 (some .int) 1 := ⟨mW 583 (by decide +kernel) rfl, mW 582 (by decide +kernel) rfl, mW 23 (by decide +kernel) rfl, by decide +kernel, by decide +kernel, by decide +kernel⟩
theorem ok_L_cell : okS yL_cell cL_cell 2 (some .int) 2 := ⟨mW 586 (by decide +kernel) rfl, mW 585 (by decide +kernel) rfl, mW 22 (by decide +kernel) rfl, by decide +kernel, by decide +kernel, by decide +kernel⟩
theorem ok_L_low : okS yL_low cL_low 2 (some .int) 2 := ⟨mW 589 (by decide +kernel) rfl, mW 588 (by decide +kernel) rfl, mW 22 (by decide +kernel) rfl, by decide +kernel, by decide +kernel, by decide +kernel⟩
theorem ok_L_built : okS yL_built cL_built 11 (some .boolean) 6 := ⟨mW 592 (by decide +kernel) rfl, mW 591 (by decide +kernel) rfl, mW 22 (by decide +kernel) rfl, by decide +kernel, by decide +kernel, by decide +kernel⟩
theorem ok_X5_text : okV yX5_text cX5_text 4 (some .int) 2 := ⟨mW 596 (by decide +kernel) rfl, mW 594 (by decide +kernel) rfl, mW 595 (by decide +kernel) rfl, mW 23 (by decide +kernel) rfl, by decide +kernel, by decide +kernel, by decide +kernel⟩
theorem ok_X5_put : okV yX5_put cX5_put 7 (some .int) 3 := ⟨mW 600 (by decide +kernel) rfl, mW 598 (by decide +kernel) rfl, mW 599 (by decide +kernel) rfl, mW 23 (by decide +kernel) rfl, by decide +kernel, by decide +kernel, by decide +kernel⟩
theorem ok_L_figures : okS yL_figures cL_figures 4 (some .boolean) 4 := ⟨mW 603 (by decide +kernel) rfl, mW 602 (by decide +kernel) rfl, mW 22 (by decide +kernel) rfl, by decide +kernel, by decide +kernel, by decide +kernel⟩
theorem ok_L_letter : okS yL_letter cL_letter 1 (some .int) 1 := ⟨mW 606 (by decide +kernel) rfl, mW 605 (by decide +kernel) rfl, mW 22 (by decide +kernel) rfl, by decide +kernel, by decide +kernel, by decide +kernel⟩
theorem ok_X5_fault : okV yX5_fault cX5_fault 4 (some .int) 1 := ⟨mW 610 (by decide +kernel) rfl, mW 608 (by decide +kernel) rfl, mW 609 (by decide +kernel) rfl, mW 23 (by decide +kernel) rfl, by decide +kernel, by decide +kernel, by decide +kernel⟩
theorem ok_X2_read : okV yX2_read cX2_read 6 (some .int) 2 := ⟨mW 614 (by decide +kernel) rfl, mW 612 (by decide +kernel) rfl, mW 613 (by decide +kernel) rfl, mW 26 (by decide +kernel) rfl, by decide +kernel, by decide +kernel, by decide +kernel⟩
theorem ok_X2_skipBlanks : okV yX2_skipBlanks cX2_skipBlanks 2 (none) 0 := ⟨mW 618 (by decide +kernel) rfl, mW 617 (by decide +kernel) rfl, mW 16 (by decide +kernel) rfl, mW 26 (by decide +kernel) rfl, by decide +kernel, by decide +kernel, by decide +kernel⟩
theorem ok_X2_sign : okV yX2_sign cX2_sign 1 (some .int) 0 := ⟨mW 622 (by decide +kernel) rfl, mW 621 (by decide +kernel) rfl, mW 17 (by decide +kernel) rfl, mW 26 (by decide +kernel) rfl, by decide +kernel, by decide +kernel, by decide +kernel⟩
theorem ok_X2_letter : okV yX2_letter cX2_letter 2 (none) 1 := ⟨mW 627 (by decide +kernel) rfl, mW 626 (by decide +kernel) rfl, mW 18 (by decide +kernel) rfl, mW 26 (by decide +kernel) rfl, by decide +kernel, by decide +kernel, by decide +kernel⟩
theorem ok_X2_figure : okV yX2_figure cX2_figure 3 (some .int) 1 := ⟨mW 631 (by decide +kernel) rfl, mW 630 (by decide +kernel) rfl, mW 19 (by decide +kernel) rfl, mW 26 (by decide +kernel) rfl, by decide +kernel, by decide +kernel, by decide +kernel⟩
theorem ok_X2_twoFigures : okV yX2_twoFigures cX2_twoFigures 2 (some .int) 0 := ⟨mW 635 (by decide +kernel) rfl, mW 634 (by decide +kernel) rfl, mW 20 (by decide +kernel) rfl, mW 26 (by decide +kernel) rfl, by decide +kernel, by decide +kernel, by decide +kernel⟩
theorem ok_X4_begin : okV yX4_begin cX4_begin 3 (none) 2 := ⟨mW 639 (by decide +kernel) rfl, mW 637 (by decide +kernel) rfl, mW 638 (by decide +kernel) rfl, mW 28 (by decide +kernel) rfl, by decide +kernel, by decide +kernel, by decide +kernel⟩
theorem ok_X2_readHouse : okV yX2_readHouse cX2_readHouse 5 (none) 1 := ⟨mW 643 (by decide +kernel) rfl, mW 642 (by decide +kernel) rfl, mW 21 (by decide +kernel) rfl, mW 26 (by decide +kernel) rfl, by decide +kernel, by decide +kernel, by decide +kernel⟩
theorem ok_X1_byLetter : okS yX1_byLetter cX1_byLetter 1 (some .int) 1 := ⟨mW 646 (by decide +kernel) rfl, mW 645 (by decide +kernel) rfl, mW 29 (by decide +kernel) rfl, by decide +kernel, by decide +kernel, by decide +kernel⟩
theorem ok_X4_build : okV yX4_build cX4_build 4 (none) 3 := ⟨mW 650 (by decide +kernel) rfl, mW 648 (by decide +kernel) rfl, mW 649 (by decide +kernel) rfl, mW 28 (by decide +kernel) rfl, by decide +kernel, by decide +kernel, by decide +kernel⟩
theorem ok_X5_town : okV yX5_town cX5_town 7 (some .int) 1 := ⟨mW 654 (by decide +kernel) rfl, mW 652 (by decide +kernel) rfl, mW 653 (by decide +kernel) rfl, mW 23 (by decide +kernel) rfl, by decide +kernel, by decide +kernel, by decide +kernel⟩
theorem ok_X0_drop : okV yX0_drop cX0_drop 1 (none) 0 := ⟨mW 658 (by decide +kernel) rfl, mW 656 (by decide +kernel) rfl, mW 657 (by decide +kernel) rfl, mW 25 (by decide +kernel) rfl, by decide +kernel, by decide +kernel, by decide +kernel⟩
theorem ok_L_has : okS yL_has cL_has 2 (some .boolean) 2 := ⟨mW 661 (by decide +kernel) rfl, mW 660 (by decide +kernel) rfl, mW 22 (by decide +kernel) rfl, by decide +kernel, by decide +kernel, by decide +kernel⟩
theorem ok_L_bits : okS yL_bits cL_bits 3 (some .int) 1 := ⟨mW 664 (by decide +kernel) rfl, mW 663 (by decide +kernel) rfl, mW 22 (by decide +kernel) rfl, by decide +kernel, by decide +kernel, by decide +kernel⟩
theorem ok_L_copy : okS yL_copy cL_copy 3 (none) 2 := ⟨mW 667 (by decide +kernel) rfl, mW 666 (by decide +kernel) rfl, mW 22 (by decide +kernel) rfl, by decide +kernel, by decide +kernel, by decide +kernel⟩
theorem ok_L_awake : okS yL_awake cL_awake 3 (some .int) 1 := ⟨mW 670 (by decide +kernel) rfl, mW 669 (by decide +kernel) rfl, mW 22 (by decide +kernel) rfl, by decide +kernel, by decide +kernel, by decide +kernel⟩
theorem ok_L_far : okS yL_far cL_far 2 (some .int) 2 := ⟨mW 673 (by decide +kernel) rfl, mW 672 (by decide +kernel) rfl, mW 22 (by decide +kernel) rfl, by decide +kernel, by decide +kernel, by decide +kernel⟩
theorem ok_L_deed : okS yL_deed cL_deed 10 (some .int) 4 := ⟨mW 676 (by decide +kernel) rfl, mW 675 (by decide +kernel) rfl, mW 22 (by decide +kernel) rfl, by decide +kernel, by decide +kernel, by decide +kernel⟩
theorem ok_L_walk : okS yL_walk cL_walk 2 (none) 2 := ⟨mW 679 (by decide +kernel) rfl, mW 678 (by decide +kernel) rfl, mW 22 (by decide +kernel) rfl, by decide +kernel, by decide +kernel, by decide +kernel⟩
theorem ok_L_tap : okS yL_tap cL_tap 4 (some .int) 2 := ⟨mW 682 (by decide +kernel) rfl, mW 681 (by decide +kernel) rfl, mW 22 (by decide +kernel) rfl, by decide +kernel, by decide +kernel, by decide +kernel⟩
theorem ok_L_more : okS yL_more cL_more 4 (some .int) 3 := ⟨mW 685 (by decide +kernel) rfl, mW 684 (by decide +kernel) rfl, mW 22 (by decide +kernel) rfl, by decide +kernel, by decide +kernel, by decide +kernel⟩
theorem ok_L_takes : okS yL_takes cL_takes 5 (some .int) 3 := ⟨mW 688 (by decide +kernel) rfl, mW 687 (by decide +kernel) rfl, mW 22 (by decide +kernel) rfl, by decide +kernel, by decide +kernel, by decide +kernel⟩
theorem ok_L_pays : okS yL_pays cL_pays 1 (some .int) 1 := ⟨mW 691 (by decide +kernel) rfl, mW 690 (by decide +kernel) rfl, mW 22 (by decide +kernel) rfl, by decide +kernel, by decide +kernel, by decide +kernel⟩
theorem ok_X5_slate : okV yX5_slate cX5_slate 4 (some .int) 2 := ⟨mW 695 (by decide +kernel) rfl, mW 693 (by decide +kernel) rfl, mW 694 (by decide +kernel) rfl, mW 23 (by decide +kernel) rfl, by decide +kernel, by decide +kernel, by decide +kernel⟩
theorem ok_X5_frost : okV yX5_frost cX5_frost 2 (some .int) 1 := ⟨mW 699 (by decide +kernel) rfl, mW 697 (by decide +kernel) rfl, mW 698 (by decide +kernel) rfl, mW 23 (by decide +kernel) rfl, by decide +kernel, by decide +kernel, by decide +kernel⟩
theorem ok_L_night : okS yL_night cL_night 3 (some .int) 1 := ⟨mW 702 (by decide +kernel) rfl, mW 701 (by decide +kernel) rfl, mW 22 (by decide +kernel) rfl, by decide +kernel, by decide +kernel, by decide +kernel⟩
theorem ok_X5_night : okV yX5_night cX5_night 2 (some .int) 0 := ⟨mW 706 (by decide +kernel) rfl, mW 704 (by decide +kernel) rfl, mW 705 (by decide +kernel) rfl, mW 23 (by decide +kernel) rfl, by decide +kernel, by decide +kernel, by decide +kernel⟩
theorem ok_L_same : okS yL_same cL_same 8 (some .boolean) 3 := ⟨mW 709 (by decide +kernel) rfl, mW 708 (by decide +kernel) rfl, mW 22 (by decide +kernel) rfl, by decide +kernel, by decide +kernel, by decide +kernel⟩
theorem kMath_max_s : Cond.static Lib.Math.max.name ∈ WA := mW 44 (by decide +kernel) rfl
theorem kMath_max_c : Cond.code Lib.Math.max.name Lib.Math.max.code 2 (some .int) ∈ WA := mW 45 (by decide +kernel) rfl
theorem kMath_min_s : Cond.static Lib.Math.min.name ∈ WA := mW 122 (by decide +kernel) rfl
theorem kMath_min_c : Cond.code Lib.Math.min.name Lib.Math.min.code 2 (some .int) ∈ WA := mW 123 (by decide +kernel) rfl
theorem kMath_abs_s : Cond.static Lib.Math.abs.name ∈ WA := mW 315 (by decide +kernel) rfl
theorem kMath_abs_c : Cond.code Lib.Math.abs.name Lib.Math.abs.code 1 (some .int) ∈ WA := mW 316 (by decide +kernel) rfl
theorem kArc_s : Cond.static arraycopyName ∈ WA := mW 365 (by decide +kernel) rfl
theorem kArc_n : Cond.native arraycopyName ∈ WA := mW 366 (by decide +kernel) rfl
def NW (U : State) : Prop := va_Nw (Cond.methodLinkNest "WokenYears" 25 yX2_init "WokenYears") U ∧ va_Nw (Cond.methodLinkNest "WokenYears" 32 yX3_init "WokenYears") U ∧ va_Nw (Cond.methodLinkNest "WokenYears$Street" 130 yX5_holds "WokenYears") U ∧ va_Nw (Cond.methodLinkNest "WokenYears$Rounds" 57 yX5_holds "WokenYears") U
theorem NW_warm {s U : State} (hW : s.WarmedH U.vm) (h : NW s) : NW U := ⟨va_Nw.warmM hW h.1, va_Nw.warmM hW h.2.1, va_Nw.warmM hW h.2.2.1, va_Nw.warmM hW h.2.2.2⟩
theorem NW_same {s U : State} (e : s.vm = U.vm) (h : NW s) : NW U := ⟨va_Nw.same rfl e h.1, va_Nw.same rfl e h.2.1, va_Nw.same rfl e h.2.2.1, va_Nw.same rfl e h.2.2.2⟩
theorem NW_tbl {args : Array Value} {s : State} (h : ∀ w ∈ lw_tbl, w.before args s = true) : NW s := ⟨va_Nw.of rfl (h _ kN_X5_25), va_Nw.of rfl (h _ kN_X5_32), va_Nw.of rfl (h _ kN_X4_130), va_Nw.of rfl (h _ kN_X3_57)⟩
end
section
/-! a state of the system: ints, longs, arrays, references, by numbers -/
abbrev Sg : Type := (Nat → Int32) × (Nat → Int64) × (Nat → Nat → Int32) × (Nat → Nat)
def gS (σ : Sg) (k : Nat) : Int32 := σ.1 k
def gL (σ : Sg) (k : Nat) : Int64 := σ.2.1 k
def gA (σ : Sg) (a : Nat) : Nat → Int32 := σ.2.2.1 a
def gR (σ : Sg) (k : Nat) : Nat := σ.2.2.2 k
def pS (σ : Sg) (k : Nat) (v : Int32) : Sg := (va_up σ.1 k v, σ.2)
def pL (σ : Sg) (k : Nat) (v : Int64) : Sg := (σ.1, va_up σ.2.1 k v, σ.2.2)
def pA (σ : Sg) (a : Nat) (f : Nat → Int32) : Sg := (σ.1, σ.2.1, va_up σ.2.2.1 a f, σ.2.2.2)
def pR (σ : Sg) (k : Nat) (v : Nat) : Sg := (σ.1, σ.2.1, σ.2.2.1, va_up σ.2.2.2 k v)
def b2i (b : Bool) : Int32 := match b with
  | true => 1
  | false => 0
def inB (i : Int32) (n : Nat) : Bool := !(decide (i < 0)) && decide (i.toNatClampNeg < n)
theorem inB_in {i : Int32} {n : Nat} (h : inB i n = true) : vp_in i n := by
  simp only [inB, Bool.and_eq_true, Bool.not_eq_true', decide_eq_false_iff_not, decide_eq_true_eq] at h
  intro q
  rcases q with q | q
  · exact h.1 q
  · omega
def ck {α : Type} (b : Bool) (x : Option α) : Option α := match b with
  | true => x
  | false => none
theorem ck_of {α : Type} {b : Bool} {x : Option α} {y : α} (h : ck b x = some y) : b = true ∧ x = some y := by
  cases b
  · cases h
  · exact ⟨rfl, h⟩
def nm {α β : Type} (e : α) (k : α → β) : β := k e
def bnd {α β : Type} (x : Option α) (k : α → Option β) : Option β := match x with
  | none => none
  | some a => k a
theorem bnd_of {α β : Type} {x : Option α} {k : α → Option β} {y : β} (h : bnd x k = some y) : ∃ a, x = some a ∧ k a = some y := by
  cases x with
  | none => cases h
  | some a => exact ⟨a, rfl, h⟩
theorem jn_elim {α β : Type} {K : α} {B : α → Option β} {out : β} {P : Prop} (h : nm K B = some out) (g : ∀ k, k = K → B k = some out → P) : P := g K rfl h
def bnd2 {α β γ : Type} (x : Option (α × β)) (k : α → β → Option γ) : Option γ := match x with
  | none => none
  | some a => k a.1 a.2
theorem bnd2_of {α β γ : Type} {x : Option (α × β)} {k : α → β → Option γ} {y : γ} (h : bnd2 x k = some y) : ∃ a b, x = some (a, b) ∧ k a b = some y := by
  cases x with
  | none => cases h
  | some a => exact ⟨a.1, a.2, rfl, h⟩
def oc {β : Type} (x : Option Nat) (A : β) (B : Nat → β) : β := match x with
  | none => A
  | some q => B q
theorem oc_none {β : Type} {A : Option β} {B : Nat → Option β} {y : β} (h : oc none A B = some y) : A = some y := h
theorem oc_some {β : Type} {q : Nat} {A : Option β} {B : Nat → Option β} {y : β} (h : oc (some q) A B = some y) : B q = some y := h
theorem ckn_of {α : Type} {P : Prop} [Decidable P] {x : Option α} {y : α} (h : ck (decide P) x = some y) : P ∧ x = some y := ⟨of_decide_eq_true (ck_of h).1, (ck_of h).2⟩
theorem itp {α : Type} {P : Prop} [Decidable P] {a b : Option α} {y : α} (h : (if P then a else b) = some y) (z : P) : a = some y := by rw [if_pos z] at h; exact h
theorem itn {α : Type} {P : Prop} [Decidable P] {a b : Option α} {y : α} (h : (if P then a else b) = some y) (z : ¬ P) : b = some y := by rw [if_neg z] at h; exact h
theorem oc_n {β : Type} {x : Option Nat} {A : Option β} {B : Nat → Option β} {y : β} (e : x = none) (h : oc x A B = some y) : A = some y := by rw [e] at h; exact h
theorem oc_s {β : Type} {x : Option Nat} {q : Nat} {A : Option β} {B : Nat → Option β} {y : β} (e : x = some q) (h : oc x A B = some y) : B q = some y := by rw [e] at h; exact h
def FU : Nat := 1000000000000
/-! the cells -/
def wd (N : Nat) (ad : Nat → Nat) (cel : Nat → va_E) : va_W := (List.range N).map (fun q => (ad q, cel q))
theorem wd_get {N : Nat} {ad : Nat → Nat} {cel : Nat → va_E} {q : Nat} {e : va_E} (ho : q < N) (he : cel q = e) : (wd N ad cel)[q]? = some (ad q, e) := by
  subst he; simp [wd, ho]
theorem wd_of {N : Nat} {ad : Nat → Nat} {cel : Nat → va_E} {q : Nat} {x : Nat × va_E} (h : (wd N ad cel)[q]? = some x) : q < N ∧ x = (ad q, cel q) := by
  by_cases hl : q < N
  · rw [wd_get hl rfl] at h
    exact ⟨hl, (Option.some.inj h).symm⟩
  · simp [wd, hl] at h
theorem wd_set {N : Nat} {ad : Nat → Nat} {cel cel' : Nat → va_E} {q : Nat} {e : va_E} (he : cel' q = e) (hne : ∀ x, x ≠ q → cel' x = cel x) : (wd N ad cel).set q (ad q, e) = wd N ad cel' := by
  apply List.ext_getElem?
  intro k
  rw [List.getElem?_set]
  by_cases h : q = k
  · subst h
    by_cases hl : q < N
    · simp [wd, hl, he]
    · simp [wd, hl]
  · by_cases hl : k < N
    · simp [wd, hl, h, hne k (fun z => h z.symm)]
    · simp [wd, hl, h]
def apN (N : Nat) (ad : Nat → Nat) : Prop := ∀ i j, i < N → j < N → ad i = ad j → i = j
def inA (N : Nat) (ad : Nat → Nat) : Nat → Prop := fun a => ∃ q, q < N ∧ a = ad q
theorem wd_D {N : Nat} {ad : Nat → Nat} {cel : Nat → va_E} (h : apN N ad) : va_D (inA N ad) (wd N ad cel) := by
  refine ⟨fun i j p q hi hj hpq => ?_, fun k q hk => ?_⟩
  · obtain ⟨h1, rfl⟩ := wd_of hi
    obtain ⟨h2, rfl⟩ := wd_of hj
    exact h i j h1 h2 hpq
  · obtain ⟨h1, rfl⟩ := wd_of hk
    exact ⟨k, h1, rfl⟩
/-- the world of a state -/
def WP (D : va_G) (tys : List (ClassId × FieldType)) (N : Nat) (ad : Nat → Nat) (cel : Sg → Nat → va_E) (ok : Sg → Prop) (σ : Sg) (U : State) : Prop := va_P D vwCl (wd N ad (cel σ)) U.heap ∧ (va_K D vwCl tys U ∧ NW U) ∧ ok σ
/-- the world behind a call -/
def WB (D : va_G) (N : Nat) (ad : Nat → Nat) (cel : Sg → Nat → va_E) (ok : Sg → Prop) (σ : Sg) (U : State) : Prop := va_P D vwCl (wd N ad (cel σ)) U.heap ∧ ok σ
theorem WP_call {D : va_G} {tys : List (ClassId × FieldType)} {N : Nat} {ad : Nat → Nat} {cel : Sg → Nat → va_E} {ok : Sg → Prop} {σ : Sg} {U : State} {g : JFrame} {mk : MethodId} {a : Array Value} (h : WP D tys N ad cel ok σ U) : WP D tys N ad cel ok σ (U.calling g mk a) :=
  ⟨h.1, ⟨va_K.moved (u := U) (U := U.calling g mk a) (Vm.Alike.refl U.vm) h.2.1.1, NW_same (U := U.calling g mk a) rfl h.2.1.2⟩, h.2.2⟩
def rmF (fr lo : Nat) : Room := { frames := fr, cells := 0, slots := 0, locals := lo }
theorem rmle {fr lo a : Nat} (h : a ≤ fr) : a ≤ (rmF fr lo).frames := h
theorem rmlf {fr lo a : Nat} (h : a ≤ lo) : a ≤ (rmF fr lo).locals := h
def QI (D : va_G) (tys : List (ClassId × FieldType)) (N : Nat) (ad : Nat → Nat) (cel : Sg → Nat → va_E) (ok : Sg → Prop) (r : Int32) (σ' : Sg) : Array Value → State → Outcome → State → Prop := va_Qi (fun (x : Int32) (_ : Unit) => x = r) (fun _ U => WB D N ad cel ok σ' U) (inA N ad)
def QL (D : va_G) (tys : List (ClassId × FieldType)) (N : Nat) (ad : Nat → Nat) (cel : Sg → Nat → va_E) (ok : Sg → Prop) (r : Int64) (σ' : Sg) : Array Value → State → Outcome → State → Prop := va_Ql (fun (x : Int64) (_ : Unit) => x = r) (fun _ U => WB D N ad cel ok σ' U) (inA N ad)
def QV (D : va_G) (tys : List (ClassId × FieldType)) (N : Nat) (ad : Nat → Nat) (cel : Sg → Nat → va_E) (ok : Sg → Prop) (σ' : Sg) : Array Value → State → Outcome → State → Prop := va_Qv (fun (_ : Unit) => True) (fun _ U => WB D N ad cel ok σ' U) (inA N ad)
def QR (D : va_G) (tys : List (ClassId × FieldType)) (N : Nat) (ad : Nat → Nat) (cel : Sg → Nat → va_E) (ok : Sg → Prop) (r : Option Nat) (σ' : Sg) : Array Value → State → Outcome → State → Prop := va_Qq (fun (x : Option Nat) (_ : Unit) => x = r.map ad) (fun _ U => WB D N ad cel ok σ' U) (inA N ad)
/-- contracts: an answer that is an int (r), a long, none, a reference -/
def MI (l : Launch) (D : va_G) (tys : List (ClassId × FieldType)) (N : Nat) (ad : Nat → Nat) (cel : Sg → Nat → va_E) (ok : Sg → Prop) (y : MethodName) (cc : ByteArray) (maxL : Nat) (ty : FieldType) (fr lo : Nat) (av : List Value) (σ : Sg) (r : Int32) (σ' : Sg) : Prop :=
  Met l y (.code y cc maxL (some ty) :: WA) (rmF fr lo) (va_Pc av (WP D tys N ad cel ok σ)) (QI D tys N ad cel ok r σ') 0 0 (inA N ad)
def ML (l : Launch) (D : va_G) (tys : List (ClassId × FieldType)) (N : Nat) (ad : Nat → Nat) (cel : Sg → Nat → va_E) (ok : Sg → Prop) (y : MethodName) (cc : ByteArray) (maxL : Nat) (fr lo : Nat) (av : List Value) (σ : Sg) (r : Int64) (σ' : Sg) : Prop :=
  Met l y (.code y cc maxL (some .long) :: WA) (rmF fr lo) (va_Pc av (WP D tys N ad cel ok σ)) (QL D tys N ad cel ok r σ') 0 0 (inA N ad)
def MV (l : Launch) (D : va_G) (tys : List (ClassId × FieldType)) (N : Nat) (ad : Nat → Nat) (cel : Sg → Nat → va_E) (ok : Sg → Prop) (y : MethodName) (cc : ByteArray) (maxL : Nat) (fr lo : Nat) (av : List Value) (σ : Sg) (σ' : Sg) : Prop :=
  Met l y (.code y cc maxL none :: WA) (rmF fr lo) (va_Pc av (WP D tys N ad cel ok σ)) (QV D tys N ad cel ok σ') 0 0 (inA N ad)
def MR (l : Launch) (D : va_G) (tys : List (ClassId × FieldType)) (N : Nat) (ad : Nat → Nat) (cel : Sg → Nat → va_E) (ok : Sg → Prop) (y : MethodName) (cc : ByteArray) (maxL : Nat) (ty : FieldType) (fr lo : Nat) (av : List Value) (σ : Sg) (r : Option Nat) (σ' : Sg) : Prop :=
  Met l y (.code y cc maxL (some ty) :: WA) (rmF fr lo) (va_Pc av (WP D tys N ad cel ok σ)) (QR D tys N ad cel ok r σ') 0 0 (inA N ad)
/-- what holds in a method's body -/
def Cx (p : Program) (s : State) (m : MethodId) (args : Array Value) (meth : Method) (c : Code) (cc : ByteArray) (nL : Nat) (own : String) (D : va_G) (tys : List (ClassId × FieldType)) (N : Nat) (ad : Nat → Nat) (ret : Option FieldType) : Prop :=
  p.tables.exec = Jvm.exec ∧ c.code = cc ∧ c.maxLocals = nL ∧ s.vm.findClass own = some m.cls ∧ (∀ w ∈ WA, w.before args s = true) ∧ va_K D vwCl tys s ∧ apN N ad ∧ meth.sig.returnType = ret ∧ meth.locks = false ∧ NW s
/-- the machine at a place of a method: its locals and stack as lists, its world by a state -/
def Jd (p : Program) (l : Launch) (e : Env) (R : Room) (s : State) (m : MethodId) (args : Array Value) (below : List Frame) (meth : Method) (c : Code) (D : va_G) (N : Nat) (ad : Nat → Nat) (cel : Sg → Nat → va_E) (ok : Sg → Prop) (nL : Nat) (Q : State → Prop) (pc : Nat) (lv : List (Nat × Value)) (st : List Value) (σ : Sg) : Prop :=
  ok σ → ∀ (ls : Array Slot) (H : Heap) (locs : List Loc), lv_has ls nL lv → va_P D vwCl (wd N ad (cel σ)) H → va_S (inA N ad) s.heap H locs → W p l e R s m args below meth c H locs 0 0 Q (F0 m pc ls st)
section JJ
variable {p : Program} {l : Launch} {e : Env} {R : Room} {s : State} {m : MethodId} {args : Array Value} {below : List Frame} {meth : Method} {c : Code} {D : va_G} {tys : List (ClassId × FieldType)} {N : Nat} {ad : Nat → Nat} {cel : Sg → Nat → va_E} {ok : Sg → Prop} {nL : Nat} {Q : State → Prop} {cc : ByteArray} {own : String} {ret : Option FieldType} {pc : Nat} {lv : List (Nat × Value)} {rest : List Value} {σ : Sg}
theorem J_iadd (C : Cx p s m args meth c cc nL own D tys N ad ret) {q : Nat} {x y : Int32} (hdg : decode cc pc = .ok (.iadd, 1)) (hq : pc + 1 = q)  (k : Jd p l e R s m args below meth c D N ad cel ok nL Q q lv (.int (x + y) :: rest) σ) : Jd p l e R s m args below meth c D N ad cel ok nL Q pc lv (.int y :: .int x :: rest) σ := by
  subst hq; intro hok ls H locs hl hP hS; exact lv_iadd C.1 C.2.1 hdg (k hok ls H locs hl hP hS)
theorem J_isub (C : Cx p s m args meth c cc nL own D tys N ad ret) {q : Nat} {x y : Int32} (hdg : decode cc pc = .ok (.isub, 1)) (hq : pc + 1 = q)  (k : Jd p l e R s m args below meth c D N ad cel ok nL Q q lv (.int (x - y) :: rest) σ) : Jd p l e R s m args below meth c D N ad cel ok nL Q pc lv (.int y :: .int x :: rest) σ := by
  subst hq; intro hok ls H locs hl hP hS; exact lv_isub C.1 C.2.1 hdg (k hok ls H locs hl hP hS)
theorem J_imul (C : Cx p s m args meth c cc nL own D tys N ad ret) {q : Nat} {x y : Int32} (hdg : decode cc pc = .ok (.imul, 1)) (hq : pc + 1 = q)  (k : Jd p l e R s m args below meth c D N ad cel ok nL Q q lv (.int (x * y) :: rest) σ) : Jd p l e R s m args below meth c D N ad cel ok nL Q pc lv (.int y :: .int x :: rest) σ := by
  subst hq; intro hok ls H locs hl hP hS; exact lv_imul C.1 C.2.1 hdg (k hok ls H locs hl hP hS)
theorem J_iand (C : Cx p s m args meth c cc nL own D tys N ad ret) {q : Nat} {x y : Int32} (hdg : decode cc pc = .ok (.iand, 1)) (hq : pc + 1 = q)  (k : Jd p l e R s m args below meth c D N ad cel ok nL Q q lv (.int (x &&& y) :: rest) σ) : Jd p l e R s m args below meth c D N ad cel ok nL Q pc lv (.int y :: .int x :: rest) σ := by
  subst hq; intro hok ls H locs hl hP hS; exact lv_iand C.1 C.2.1 hdg (k hok ls H locs hl hP hS)
theorem J_ior (C : Cx p s m args meth c cc nL own D tys N ad ret) {q : Nat} {x y : Int32} (hdg : decode cc pc = .ok (.ior, 1)) (hq : pc + 1 = q)  (k : Jd p l e R s m args below meth c D N ad cel ok nL Q q lv (.int (x ||| y) :: rest) σ) : Jd p l e R s m args below meth c D N ad cel ok nL Q pc lv (.int y :: .int x :: rest) σ := by
  subst hq; intro hok ls H locs hl hP hS; exact lv_ior C.1 C.2.1 hdg (k hok ls H locs hl hP hS)
theorem J_ixor (C : Cx p s m args meth c cc nL own D tys N ad ret) {q : Nat} {x y : Int32} (hdg : decode cc pc = .ok (.ixor, 1)) (hq : pc + 1 = q)  (k : Jd p l e R s m args below meth c D N ad cel ok nL Q q lv (.int (x ^^^ y) :: rest) σ) : Jd p l e R s m args below meth c D N ad cel ok nL Q pc lv (.int y :: .int x :: rest) σ := by
  subst hq; intro hok ls H locs hl hP hS; exact lv_ixor C.1 C.2.1 hdg (k hok ls H locs hl hP hS)
theorem J_ishl (C : Cx p s m args meth c cc nL own D tys N ad ret) {q : Nat} {x y : Int32} (hdg : decode cc pc = .ok (.ishl, 1)) (hq : pc + 1 = q)  (k : Jd p l e R s m args below meth c D N ad cel ok nL Q q lv (.int (x <<< (y &&& 31)) :: rest) σ) : Jd p l e R s m args below meth c D N ad cel ok nL Q pc lv (.int y :: .int x :: rest) σ := by
  subst hq; intro hok ls H locs hl hP hS; exact lv_ishl C.1 C.2.1 hdg (k hok ls H locs hl hP hS)
theorem J_ishr (C : Cx p s m args meth c cc nL own D tys N ad ret) {q : Nat} {x y : Int32} (hdg : decode cc pc = .ok (.ishr, 1)) (hq : pc + 1 = q)  (k : Jd p l e R s m args below meth c D N ad cel ok nL Q q lv (.int (x >>> (y &&& 31)) :: rest) σ) : Jd p l e R s m args below meth c D N ad cel ok nL Q pc lv (.int y :: .int x :: rest) σ := by
  subst hq; intro hok ls H locs hl hP hS; exact lv_ishr C.1 C.2.1 hdg (k hok ls H locs hl hP hS)
theorem J_ladd (C : Cx p s m args meth c cc nL own D tys N ad ret) {q : Nat} {x y : Int64} (hdg : decode cc pc = .ok (.ladd, 1)) (hq : pc + 1 = q)  (k : Jd p l e R s m args below meth c D N ad cel ok nL Q q lv (.long (x + y) :: rest) σ) : Jd p l e R s m args below meth c D N ad cel ok nL Q pc lv (.long y :: .long x :: rest) σ := by
  subst hq; intro hok ls H locs hl hP hS; exact lv_ladd C.1 C.2.1 hdg (k hok ls H locs hl hP hS)
theorem J_lsub (C : Cx p s m args meth c cc nL own D tys N ad ret) {q : Nat} {x y : Int64} (hdg : decode cc pc = .ok (.lsub, 1)) (hq : pc + 1 = q)  (k : Jd p l e R s m args below meth c D N ad cel ok nL Q q lv (.long (x - y) :: rest) σ) : Jd p l e R s m args below meth c D N ad cel ok nL Q pc lv (.long y :: .long x :: rest) σ := by
  subst hq; intro hok ls H locs hl hP hS; exact lv_lsub C.1 C.2.1 hdg (k hok ls H locs hl hP hS)
theorem J_lmul (C : Cx p s m args meth c cc nL own D tys N ad ret) {q : Nat} {x y : Int64} (hdg : decode cc pc = .ok (.lmul, 1)) (hq : pc + 1 = q)  (k : Jd p l e R s m args below meth c D N ad cel ok nL Q q lv (.long (x * y) :: rest) σ) : Jd p l e R s m args below meth c D N ad cel ok nL Q pc lv (.long y :: .long x :: rest) σ := by
  subst hq; intro hok ls H locs hl hP hS; exact lv_lmul C.1 C.2.1 hdg (k hok ls H locs hl hP hS)
theorem J_idiv (C : Cx p s m args meth c cc nL own D tys N ad ret) {q : Nat} {x y : Int32} (hdg : decode cc pc = .ok (.idiv, 1)) (hq : pc + 1 = q) (hne : ¬ y = 0) (k : Jd p l e R s m args below meth c D N ad cel ok nL Q q lv (.int (x / y) :: rest) σ) : Jd p l e R s m args below meth c D N ad cel ok nL Q pc lv (.int y :: .int x :: rest) σ := by
  subst hq; intro hok ls H locs hl hP hS; exact lv_idiv C.1 C.2.1 hdg hne (k hok ls H locs hl hP hS)
theorem J_irem (C : Cx p s m args meth c cc nL own D tys N ad ret) {q : Nat} {x y : Int32} (hdg : decode cc pc = .ok (.irem, 1)) (hq : pc + 1 = q) (hne : ¬ y = 0) (k : Jd p l e R s m args below meth c D N ad cel ok nL Q q lv (.int (x - x / y * y) :: rest) σ) : Jd p l e R s m args below meth c D N ad cel ok nL Q pc lv (.int y :: .int x :: rest) σ := by
  subst hq; intro hok ls H locs hl hP hS; exact lv_irem C.1 C.2.1 hdg hne (k hok ls H locs hl hP hS)
theorem J_ldiv (C : Cx p s m args meth c cc nL own D tys N ad ret) {q : Nat} {x y : Int64} (hdg : decode cc pc = .ok (.ldiv, 1)) (hq : pc + 1 = q) (hne : ¬ y = 0) (k : Jd p l e R s m args below meth c D N ad cel ok nL Q q lv (.long (x / y) :: rest) σ) : Jd p l e R s m args below meth c D N ad cel ok nL Q pc lv (.long y :: .long x :: rest) σ := by
  subst hq; intro hok ls H locs hl hP hS; exact lv_ldiv C.1 C.2.1 hdg hne (k hok ls H locs hl hP hS)
theorem J_lrem (C : Cx p s m args meth c cc nL own D tys N ad ret) {q : Nat} {x y : Int64} (hdg : decode cc pc = .ok (.lrem, 1)) (hq : pc + 1 = q) (hne : ¬ y = 0) (k : Jd p l e R s m args below meth c D N ad cel ok nL Q q lv (.long (x - x / y * y) :: rest) σ) : Jd p l e R s m args below meth c D N ad cel ok nL Q pc lv (.long y :: .long x :: rest) σ := by
  subst hq; intro hok ls H locs hl hP hS; exact lv_lrem C.1 C.2.1 hdg hne (k hok ls H locs hl hP hS)
theorem J_iushr (C : Cx p s m args meth c cc nL own D tys N ad ret) {q : Nat} {x y : Int32} (hdg : decode cc pc = .ok (.iushr, 1)) (hq : pc + 1 = q)  (k : Jd p l e R s m args below meth c D N ad cel ok nL Q q lv (.int ((x.toUInt32 >>> (y.toUInt32 &&& Int32.toUInt32 31)).toInt32) :: rest) σ) : Jd p l e R s m args below meth c D N ad cel ok nL Q pc lv (.int y :: .int x :: rest) σ := by
  subst hq; intro hok ls H locs hl hP hS; exact lv_iushr C.1 C.2.1 hdg rfl (k hok ls H locs hl hP hS)
theorem J_i2l (C : Cx p s m args meth c cc nL own D tys N ad ret) {q : Nat} {x : Int32} (hdg : decode cc pc = .ok (.i2l, 1)) (hq : pc + 1 = q)  (k : Jd p l e R s m args below meth c D N ad cel ok nL Q q lv (.long x.toInt64 :: rest) σ) : Jd p l e R s m args below meth c D N ad cel ok nL Q pc lv (.int x :: rest) σ := by
  subst hq; intro hok ls H locs hl hP hS; exact lv_i2l C.1 C.2.1 hdg rfl (k hok ls H locs hl hP hS)
theorem J_l2i (C : Cx p s m args meth c cc nL own D tys N ad ret) {q : Nat} {x : Int64} (hdg : decode cc pc = .ok (.l2i, 1)) (hq : pc + 1 = q)  (k : Jd p l e R s m args below meth c D N ad cel ok nL Q q lv (.int x.toInt32 :: rest) σ) : Jd p l e R s m args below meth c D N ad cel ok nL Q pc lv (.long x :: rest) σ := by
  subst hq; intro hok ls H locs hl hP hS; exact lv_l2i C.1 C.2.1 hdg rfl (k hok ls H locs hl hP hS)
theorem J_i2b (C : Cx p s m args meth c cc nL own D tys N ad ret) {q : Nat} {x : Int32} (hdg : decode cc pc = .ok (.i2b, 1)) (hq : pc + 1 = q)  (k : Jd p l e R s m args below meth c D N ad cel ok nL Q q lv (.int x.toInt8.toInt32 :: rest) σ) : Jd p l e R s m args below meth c D N ad cel ok nL Q pc lv (.int x :: rest) σ := by
  subst hq; intro hok ls H locs hl hP hS; exact lv_i2b C.1 C.2.1 hdg rfl (k hok ls H locs hl hP hS)
theorem J_iconst (C : Cx p s m args meth c cc nL own D tys N ad ret) {q : Nat} {n : Int} {v : Int32} (hdg : decode cc pc = .ok (.iconst n, 1)) (hq : pc + 1 = q) (hv : Int32.ofInt n = v) (k : Jd p l e R s m args below meth c D N ad cel ok nL Q q lv (.int v :: rest) σ) : Jd p l e R s m args below meth c D N ad cel ok nL Q pc lv (rest) σ := by
  subst hq; intro hok ls H locs hl hP hS; exact lv_iconst C.1 C.2.1 hdg hv (k hok ls H locs hl hP hS)
theorem J_bipush (C : Cx p s m args meth c cc nL own D tys N ad ret) {q : Nat} {n : Int} {v : Int32} (hdg : decode cc pc = .ok (.bipush n, 2)) (hq : pc + 2 = q) (hv : (Int8.ofInt n).toInt32 = v) (k : Jd p l e R s m args below meth c D N ad cel ok nL Q q lv (.int v :: rest) σ) : Jd p l e R s m args below meth c D N ad cel ok nL Q pc lv (rest) σ := by
  subst hq; intro hok ls H locs hl hP hS; exact lv_bipush C.1 C.2.1 hdg hv (k hok ls H locs hl hP hS)
theorem J_sipush (C : Cx p s m args meth c cc nL own D tys N ad ret) {q : Nat} {n : Int} {v : Int32} (hdg : decode cc pc = .ok (.sipush n, 3)) (hq : pc + 3 = q) (hv : (Int16.ofInt n).toInt32 = v) (k : Jd p l e R s m args below meth c D N ad cel ok nL Q q lv (.int v :: rest) σ) : Jd p l e R s m args below meth c D N ad cel ok nL Q pc lv (rest) σ := by
  subst hq; intro hok ls H locs hl hP hS; exact lv_sipush C.1 C.2.1 hdg hv (k hok ls H locs hl hP hS)
theorem J_lconst (C : Cx p s m args meth c cc nL own D tys N ad ret) {q : Nat} {n : Fin 2} {v : Int64} (hdg : decode cc pc = .ok (.lconst n, 1)) (hq : pc + 1 = q) (hv : Int64.ofNat (n : Nat) = v) (k : Jd p l e R s m args below meth c D N ad cel ok nL Q q lv (.long v :: rest) σ) : Jd p l e R s m args below meth c D N ad cel ok nL Q pc lv (rest) σ := by
  subst hq; intro hok ls H locs hl hP hS; exact lv_lconst C.1 C.2.1 hdg hv (k hok ls H locs hl hP hS)
theorem J_null (C : Cx p s m args meth c cc nL own D tys N ad ret) {q : Nat}  (hdg : decode cc pc = .ok (.aconst_null, 1)) (hq : pc + 1 = q)  (k : Jd p l e R s m args below meth c D N ad cel ok nL Q q lv (.null :: rest) σ) : Jd p l e R s m args below meth c D N ad cel ok nL Q pc lv (rest) σ := by
  subst hq; intro hok ls H locs hl hP hS; exact lv_null C.1 C.2.1 hdg (k hok ls H locs hl hP hS)
theorem J_dup (C : Cx p s m args meth c cc nL own D tys N ad ret) {q : Nat} {va : Value} (hdg : decode cc pc = .ok (.dup, 1)) (hq : pc + 1 = q) (hva : va.category = 1) (k : Jd p l e R s m args below meth c D N ad cel ok nL Q q lv (va :: va :: rest) σ) : Jd p l e R s m args below meth c D N ad cel ok nL Q pc lv (va :: rest) σ := by
  subst hq; intro hok ls H locs hl hP hS; exact lv_dup C.1 C.2.1 hdg hva (k hok ls H locs hl hP hS)
theorem J_pop (C : Cx p s m args meth c cc nL own D tys N ad ret) {q : Nat} {va : Value} (hdg : decode cc pc = .ok (.pop, 1)) (hq : pc + 1 = q) (hva : va.category = 1) (k : Jd p l e R s m args below meth c D N ad cel ok nL Q q lv (rest) σ) : Jd p l e R s m args below meth c D N ad cel ok nL Q pc lv (va :: rest) σ := by
  subst hq; intro hok ls H locs hl hP hS; exact lv_pop C.1 C.2.1 hdg hva (k hok ls H locs hl hP hS)
theorem J_dup2 (C : Cx p s m args meth c cc nL own D tys N ad ret) {q : Nat} {va vb : Value} (hdg : decode cc pc = .ok (.dup2, 1)) (hq : pc + 1 = q) (hva : va.category = 1) (hvb : vb.category = 1) (k : Jd p l e R s m args below meth c D N ad cel ok nL Q q lv (va :: vb :: va :: vb :: rest) σ) : Jd p l e R s m args below meth c D N ad cel ok nL Q pc lv (va :: vb :: rest) σ := by
  subst hq; intro hok ls H locs hl hP hS; exact lv_dup2_11 C.1 C.2.1 hdg hva hvb (k hok ls H locs hl hP hS)
theorem J_lcmp (C : Cx p s m args meth c cc nL own D tys N ad ret) {q : Nat} {x y : Int64} (hdg : decode cc pc = .ok (.lcmp, 1)) (hq : pc + 1 = q) (k : Jd p l e R s m args below meth c D N ad cel ok nL Q q lv (.int (lg_cmp x y) :: rest) σ) : Jd p l e R s m args below meth c D N ad cel ok nL Q pc lv (.long y :: .long x :: rest) σ := by
  subst hq; intro hok ls H locs hl hP hS; exact W.lcmp C.1 C.2.1 hdg (k hok ls H locs hl hP hS)
theorem J_iload_n (C : Cx p s m args meth c cc nL own D tys N ad ret) {q : Nat} {k0 : Fin 4} {i : Nat} {x : Int32} (hdg : decode cc pc = .ok (.iload_n k0, 1)) (hq : pc + 1 = q) (hi : (k0 : Nat) = i) (pl : Nat) (hpl : lv[pl]? = some (i, .int x)) (k : Jd p l e R s m args below meth c D N ad cel ok nL Q q lv (.int x :: rest) σ) : Jd p l e R s m args below meth c D N ad cel ok nL Q pc lv rest σ := by
  subst hq; intro hok ls H locs hl hP hS; exact lv_iload_n C.1 C.2.1 hdg hi (lv_at hl pl hpl) (k hok ls H locs hl hP hS)
theorem J_iload (C : Cx p s m args meth c cc nL own D tys N ad ret) {q : Nat} {i : Nat} {x : Int32} (hdg : decode cc pc = .ok (.iload i, 2)) (hq : pc + 2 = q) (pl : Nat) (hpl : lv[pl]? = some (i, .int x)) (k : Jd p l e R s m args below meth c D N ad cel ok nL Q q lv (.int x :: rest) σ) : Jd p l e R s m args below meth c D N ad cel ok nL Q pc lv rest σ := by
  subst hq; intro hok ls H locs hl hP hS; exact lv_iload C.1 C.2.1 hdg (lv_at hl pl hpl) (k hok ls H locs hl hP hS)
theorem J_lload_n (C : Cx p s m args meth c cc nL own D tys N ad ret) {q : Nat} {k0 : Fin 4} {i : Nat} {x : Int64} (hdg : decode cc pc = .ok (.lload_n k0, 1)) (hq : pc + 1 = q) (hi : (k0 : Nat) = i) (pl : Nat) (hpl : lv[pl]? = some (i, .long x)) (k : Jd p l e R s m args below meth c D N ad cel ok nL Q q lv (.long x :: rest) σ) : Jd p l e R s m args below meth c D N ad cel ok nL Q pc lv rest σ := by
  subst hq; intro hok ls H locs hl hP hS; exact lv_lload_n C.1 C.2.1 hdg hi (lv_at hl pl hpl) (k hok ls H locs hl hP hS)
theorem J_lload (C : Cx p s m args meth c cc nL own D tys N ad ret) {q : Nat} {i : Nat} {x : Int64} (hdg : decode cc pc = .ok (.lload i, 2)) (hq : pc + 2 = q) (pl : Nat) (hpl : lv[pl]? = some (i, .long x)) (k : Jd p l e R s m args below meth c D N ad cel ok nL Q q lv (.long x :: rest) σ) : Jd p l e R s m args below meth c D N ad cel ok nL Q pc lv rest σ := by
  subst hq; intro hok ls H locs hl hP hS; exact lv_lload C.1 C.2.1 hdg (lv_at hl pl hpl) (k hok ls H locs hl hP hS)
theorem J_aload_n (C : Cx p s m args meth c cc nL own D tys N ad ret) {q : Nat} {k0 : Fin 4} {i : Nat} {x : Nat} (hdg : decode cc pc = .ok (.aload_n k0, 1)) (hq : pc + 1 = q) (hi : (k0 : Nat) = i) (pl : Nat) (hpl : lv[pl]? = some (i, .ref x)) (k : Jd p l e R s m args below meth c D N ad cel ok nL Q q lv (.ref x :: rest) σ) : Jd p l e R s m args below meth c D N ad cel ok nL Q pc lv rest σ := by
  subst hq; intro hok ls H locs hl hP hS; exact lv_aload_n C.1 C.2.1 hdg hi (lv_at hl pl hpl) (k hok ls H locs hl hP hS)
theorem J_aload (C : Cx p s m args meth c cc nL own D tys N ad ret) {q : Nat} {i : Nat} {x : Nat} (hdg : decode cc pc = .ok (.aload i, 2)) (hq : pc + 2 = q) (pl : Nat) (hpl : lv[pl]? = some (i, .ref x)) (k : Jd p l e R s m args below meth c D N ad cel ok nL Q q lv (.ref x :: rest) σ) : Jd p l e R s m args below meth c D N ad cel ok nL Q pc lv rest σ := by
  subst hq; intro hok ls H locs hl hP hS; exact lv_aload C.1 C.2.1 hdg (lv_at hl pl hpl) (k hok ls H locs hl hP hS)
theorem J_aload_nN (C : Cx p s m args meth c cc nL own D tys N ad ret) {q : Nat} {k0 : Fin 4} {i : Nat} (hdg : decode cc pc = .ok (.aload_n k0, 1)) (hq : pc + 1 = q) (hi : (k0 : Nat) = i) (pl : Nat) (hpl : lv[pl]? = some (i, .null)) (k : Jd p l e R s m args below meth c D N ad cel ok nL Q q lv (.null :: rest) σ) : Jd p l e R s m args below meth c D N ad cel ok nL Q pc lv rest σ := by
  subst hq; intro hok ls H locs hl hP hS; exact lv_aload_nN C.1 C.2.1 hdg hi (lv_at hl pl hpl) (k hok ls H locs hl hP hS)
theorem J_aloadN (C : Cx p s m args meth c cc nL own D tys N ad ret) {q : Nat} {i : Nat} (hdg : decode cc pc = .ok (.aload i, 2)) (hq : pc + 2 = q) (pl : Nat) (hpl : lv[pl]? = some (i, .null)) (k : Jd p l e R s m args below meth c D N ad cel ok nL Q q lv (.null :: rest) σ) : Jd p l e R s m args below meth c D N ad cel ok nL Q pc lv rest σ := by
  subst hq; intro hok ls H locs hl hP hS; exact lv_aloadN C.1 C.2.1 hdg (lv_at hl pl hpl) (k hok ls H locs hl hP hS)
theorem J_istore_n (C : Cx p s m args meth c cc nL own D tys N ad ret) {q : Nat} {k0 : Fin 4} {i : Nat} {x : Int32} {lv' : List (Nat × Value)} (hdg : decode cc pc = .ok (.istore_n k0, 1)) (hq : pc + 1 = q) (hi : (k0 : Nat) = i) (hn : i < nL) (hlv : (i, Value.int x) :: lv.filter (fun z => !(z.1 == i) && !(z.1 + 1 == i && z.2.category == 2)) = lv') (k : Jd p l e R s m args below meth c D N ad cel ok nL Q q lv' rest σ) : Jd p l e R s m args below meth c D N ad cel ok nL Q pc lv (.int x :: rest) σ := by
  subst hq; intro hok ls H locs hl hP hS; exact lv_istore_n C.1 C.2.1 hdg hi hl hn hlv (fun ls' hl' => k hok ls' H locs hl' hP hS)
theorem J_istore (C : Cx p s m args meth c cc nL own D tys N ad ret) {q : Nat} {i : Nat} {x : Int32} {lv' : List (Nat × Value)} (hdg : decode cc pc = .ok (.istore i, 2)) (hq : pc + 2 = q) (hn : i < nL) (hlv : (i, Value.int x) :: lv.filter (fun z => !(z.1 == i) && !(z.1 + 1 == i && z.2.category == 2)) = lv') (k : Jd p l e R s m args below meth c D N ad cel ok nL Q q lv' rest σ) : Jd p l e R s m args below meth c D N ad cel ok nL Q pc lv (.int x :: rest) σ := by
  subst hq; intro hok ls H locs hl hP hS; exact lv_istore C.1 C.2.1 hdg hl hn hlv (fun ls' hl' => k hok ls' H locs hl' hP hS)
theorem J_lstore_n (C : Cx p s m args meth c cc nL own D tys N ad ret) {q : Nat} {k0 : Fin 4} {i : Nat} {x : Int64} {lv' : List (Nat × Value)} (hdg : decode cc pc = .ok (.lstore_n k0, 1)) (hq : pc + 1 = q) (hi : (k0 : Nat) = i) (hn : i + 1 < nL) (hlv : (i, Value.long x) :: lv.filter (fun z => !(z.1 == i) && (!(z.1 == i + 1) && !(z.1 + 1 == i && z.2.category == 2))) = lv') (k : Jd p l e R s m args below meth c D N ad cel ok nL Q q lv' rest σ) : Jd p l e R s m args below meth c D N ad cel ok nL Q pc lv (.long x :: rest) σ := by
  subst hq; intro hok ls H locs hl hP hS; exact lv_lstore_n C.1 C.2.1 hdg hi hl hn hlv (fun ls' hl' => k hok ls' H locs hl' hP hS)
theorem J_lstore (C : Cx p s m args meth c cc nL own D tys N ad ret) {q : Nat} {i : Nat} {x : Int64} {lv' : List (Nat × Value)} (hdg : decode cc pc = .ok (.lstore i, 2)) (hq : pc + 2 = q) (hn : i + 1 < nL) (hlv : (i, Value.long x) :: lv.filter (fun z => !(z.1 == i) && (!(z.1 == i + 1) && !(z.1 + 1 == i && z.2.category == 2))) = lv') (k : Jd p l e R s m args below meth c D N ad cel ok nL Q q lv' rest σ) : Jd p l e R s m args below meth c D N ad cel ok nL Q pc lv (.long x :: rest) σ := by
  subst hq; intro hok ls H locs hl hP hS; exact lv_lstore C.1 C.2.1 hdg hl hn hlv (fun ls' hl' => k hok ls' H locs hl' hP hS)
theorem J_astore_n (C : Cx p s m args meth c cc nL own D tys N ad ret) {q : Nat} {k0 : Fin 4} {i : Nat} {x : Nat} {lv' : List (Nat × Value)} (hdg : decode cc pc = .ok (.astore_n k0, 1)) (hq : pc + 1 = q) (hi : (k0 : Nat) = i) (hn : i < nL) (hlv : (i, Value.ref x) :: lv.filter (fun z => !(z.1 == i) && !(z.1 + 1 == i && z.2.category == 2)) = lv') (k : Jd p l e R s m args below meth c D N ad cel ok nL Q q lv' rest σ) : Jd p l e R s m args below meth c D N ad cel ok nL Q pc lv (.ref x :: rest) σ := by
  subst hq; intro hok ls H locs hl hP hS; exact lv_astore_n C.1 C.2.1 hdg hi hl hn hlv (fun ls' hl' => k hok ls' H locs hl' hP hS)
theorem J_astore (C : Cx p s m args meth c cc nL own D tys N ad ret) {q : Nat} {i : Nat} {x : Nat} {lv' : List (Nat × Value)} (hdg : decode cc pc = .ok (.astore i, 2)) (hq : pc + 2 = q) (hn : i < nL) (hlv : (i, Value.ref x) :: lv.filter (fun z => !(z.1 == i) && !(z.1 + 1 == i && z.2.category == 2)) = lv') (k : Jd p l e R s m args below meth c D N ad cel ok nL Q q lv' rest σ) : Jd p l e R s m args below meth c D N ad cel ok nL Q pc lv (.ref x :: rest) σ := by
  subst hq; intro hok ls H locs hl hP hS; exact lv_astore C.1 C.2.1 hdg hl hn hlv (fun ls' hl' => k hok ls' H locs hl' hP hS)
theorem J_astore_nN (C : Cx p s m args meth c cc nL own D tys N ad ret) {q : Nat} {k0 : Fin 4} {i : Nat} {lv' : List (Nat × Value)} (hdg : decode cc pc = .ok (.astore_n k0, 1)) (hq : pc + 1 = q) (hi : (k0 : Nat) = i) (hn : i < nL) (hlv : (i, Value.null) :: lv.filter (fun z => !(z.1 == i) && !(z.1 + 1 == i && z.2.category == 2)) = lv') (k : Jd p l e R s m args below meth c D N ad cel ok nL Q q lv' rest σ) : Jd p l e R s m args below meth c D N ad cel ok nL Q pc lv (.null :: rest) σ := by
  subst hq; intro hok ls H locs hl hP hS; exact lv_astore_nN C.1 C.2.1 hdg hi hl hn hlv (fun ls' hl' => k hok ls' H locs hl' hP hS)
theorem J_astoreN (C : Cx p s m args meth c cc nL own D tys N ad ret) {q : Nat} {i : Nat} {lv' : List (Nat × Value)} (hdg : decode cc pc = .ok (.astore i, 2)) (hq : pc + 2 = q) (hn : i < nL) (hlv : (i, Value.null) :: lv.filter (fun z => !(z.1 == i) && !(z.1 + 1 == i && z.2.category == 2)) = lv') (k : Jd p l e R s m args below meth c D N ad cel ok nL Q q lv' rest σ) : Jd p l e R s m args below meth c D N ad cel ok nL Q pc lv (.null :: rest) σ := by
  subst hq; intro hok ls H locs hl hP hS; exact lv_astoreN C.1 C.2.1 hdg hl hn hlv (fun ls' hl' => k hok ls' H locs hl' hP hS)
theorem J_iinc (C : Cx p s m args meth c cc nL own D tys N ad ret) {q : Nat} {i : Nat} {n : Int} {x v : Int32} {lv' : List (Nat × Value)} (hdg : decode cc pc = .ok (.iinc i n, 3)) (hq : pc + 3 = q) (pl : Nat) (hpl : lv[pl]? = some (i, .int x)) (hv : x + Int32.ofInt n = v) (hn : i < nL) (hlv : (i, Value.int v) :: lv.filter (fun z => !(z.1 == i) && !(z.1 + 1 == i && z.2.category == 2)) = lv') (k : Jd p l e R s m args below meth c D N ad cel ok nL Q q lv' rest σ) : Jd p l e R s m args below meth c D N ad cel ok nL Q pc lv rest σ := by
  subst hq; intro hok ls H locs hl hP hS; exact lv_iinc C.1 C.2.1 hdg hl hpl hv hn hlv (fun ls' hl' => k hok ls' H locs hl' hP hS)
theorem J_goto (C : Cx p s m args meth c cc nL own D tys N ad ret) {off : Int} {tgt : Nat} (hdg : decode cc pc = .ok (.goto off, 3)) (ht : (pc : Int) + off = (tgt : Int)) (k : Jd p l e R s m args below meth c D N ad cel ok nL Q tgt lv rest σ) : Jd p l e R s m args below meth c D N ad cel ok nL Q pc lv rest σ := by
  intro hok ls H locs hl hP hS; exact lv_goto C.1 C.2.1 hdg ht (k hok ls H locs hl hP hS)
theorem J_if_eq (C : Cx p s m args meth c cc nL own D tys N ad ret) {off : Int} {tgt q : Nat} {x : Int32} {O : Type} {a b : Option O} {out : O} (hdg : decode cc pc = .ok (.ifCond .eq off, 3)) (hq : pc + 3 = q) (ht : (pc : Int) + off = (tgt : Int)) (h : (if x = 0 then a else b) = some out) (kt : x = 0 → a = some out → Jd p l e R s m args below meth c D N ad cel ok nL Q tgt lv rest σ) (kf : ¬ (x = 0) → b = some out → Jd p l e R s m args below meth c D N ad cel ok nL Q q lv rest σ) : Jd p l e R s m args below meth c D N ad cel ok nL Q pc lv (.int x :: rest) σ := by
  subst hq; intro hok ls H locs hl hP hS
  exact lv_if_eq C.1 C.2.1 hdg ht (fun z => kt z (by rw [if_pos z] at h; exact h) hok ls H locs hl hP hS) (fun z => kf z (by rw [if_neg z] at h; exact h) hok ls H locs hl hP hS)
theorem J_if_lt (C : Cx p s m args meth c cc nL own D tys N ad ret) {off : Int} {tgt q : Nat} {x : Int32} {O : Type} {a b : Option O} {out : O} (hdg : decode cc pc = .ok (.ifCond .lt off, 3)) (hq : pc + 3 = q) (ht : (pc : Int) + off = (tgt : Int)) (h : (if x < 0 then a else b) = some out) (kt : x < 0 → a = some out → Jd p l e R s m args below meth c D N ad cel ok nL Q tgt lv rest σ) (kf : ¬ (x < 0) → b = some out → Jd p l e R s m args below meth c D N ad cel ok nL Q q lv rest σ) : Jd p l e R s m args below meth c D N ad cel ok nL Q pc lv (.int x :: rest) σ := by
  subst hq; intro hok ls H locs hl hP hS
  exact lv_if_lt C.1 C.2.1 hdg ht (fun z => kt z (by rw [if_pos z] at h; exact h) hok ls H locs hl hP hS) (fun z => kf z (by rw [if_neg z] at h; exact h) hok ls H locs hl hP hS)
theorem J_if_ge (C : Cx p s m args meth c cc nL own D tys N ad ret) {off : Int} {tgt q : Nat} {x : Int32} {O : Type} {a b : Option O} {out : O} (hdg : decode cc pc = .ok (.ifCond .ge off, 3)) (hq : pc + 3 = q) (ht : (pc : Int) + off = (tgt : Int)) (h : (if 0 ≤ x then a else b) = some out) (kt : 0 ≤ x → a = some out → Jd p l e R s m args below meth c D N ad cel ok nL Q tgt lv rest σ) (kf : ¬ (0 ≤ x) → b = some out → Jd p l e R s m args below meth c D N ad cel ok nL Q q lv rest σ) : Jd p l e R s m args below meth c D N ad cel ok nL Q pc lv (.int x :: rest) σ := by
  subst hq; intro hok ls H locs hl hP hS
  exact lv_if_ge C.1 C.2.1 hdg ht (fun z => kt z (by rw [if_pos z] at h; exact h) hok ls H locs hl hP hS) (fun z => kf z (by rw [if_neg z] at h; exact h) hok ls H locs hl hP hS)
theorem J_if_gt (C : Cx p s m args meth c cc nL own D tys N ad ret) {off : Int} {tgt q : Nat} {x : Int32} {O : Type} {a b : Option O} {out : O} (hdg : decode cc pc = .ok (.ifCond .gt off, 3)) (hq : pc + 3 = q) (ht : (pc : Int) + off = (tgt : Int)) (h : (if 0 < x then a else b) = some out) (kt : 0 < x → a = some out → Jd p l e R s m args below meth c D N ad cel ok nL Q tgt lv rest σ) (kf : ¬ (0 < x) → b = some out → Jd p l e R s m args below meth c D N ad cel ok nL Q q lv rest σ) : Jd p l e R s m args below meth c D N ad cel ok nL Q pc lv (.int x :: rest) σ := by
  subst hq; intro hok ls H locs hl hP hS
  exact lv_if_gt C.1 C.2.1 hdg ht (fun z => kt z (by rw [if_pos z] at h; exact h) hok ls H locs hl hP hS) (fun z => kf z (by rw [if_neg z] at h; exact h) hok ls H locs hl hP hS)
theorem J_if_le (C : Cx p s m args meth c cc nL own D tys N ad ret) {off : Int} {tgt q : Nat} {x : Int32} {O : Type} {a b : Option O} {out : O} (hdg : decode cc pc = .ok (.ifCond .le off, 3)) (hq : pc + 3 = q) (ht : (pc : Int) + off = (tgt : Int)) (h : (if x ≤ 0 then a else b) = some out) (kt : x ≤ 0 → a = some out → Jd p l e R s m args below meth c D N ad cel ok nL Q tgt lv rest σ) (kf : ¬ (x ≤ 0) → b = some out → Jd p l e R s m args below meth c D N ad cel ok nL Q q lv rest σ) : Jd p l e R s m args below meth c D N ad cel ok nL Q pc lv (.int x :: rest) σ := by
  subst hq; intro hok ls H locs hl hP hS
  exact lv_if_le C.1 C.2.1 hdg ht (fun z => kt z (by rw [if_pos z] at h; exact h) hok ls H locs hl hP hS) (fun z => kf z (by rw [if_neg z] at h; exact h) hok ls H locs hl hP hS)
theorem J_icmp_eq (C : Cx p s m args meth c cc nL own D tys N ad ret) {off : Int} {tgt q : Nat} {x y : Int32} {O : Type} {a b : Option O} {out : O} (hdg : decode cc pc = .ok (.if_icmp .eq off, 3)) (hq : pc + 3 = q) (ht : (pc : Int) + off = (tgt : Int)) (h : (if x = y then a else b) = some out) (kt : x = y → a = some out → Jd p l e R s m args below meth c D N ad cel ok nL Q tgt lv rest σ) (kf : ¬ (x = y) → b = some out → Jd p l e R s m args below meth c D N ad cel ok nL Q q lv rest σ) : Jd p l e R s m args below meth c D N ad cel ok nL Q pc lv (.int y :: .int x :: rest) σ := by
  subst hq; intro hok ls H locs hl hP hS
  exact lv_icmp_eq C.1 C.2.1 hdg ht (fun z => kt z (by rw [if_pos z] at h; exact h) hok ls H locs hl hP hS) (fun z => kf z (by rw [if_neg z] at h; exact h) hok ls H locs hl hP hS)
theorem J_icmp_lt (C : Cx p s m args meth c cc nL own D tys N ad ret) {off : Int} {tgt q : Nat} {x y : Int32} {O : Type} {a b : Option O} {out : O} (hdg : decode cc pc = .ok (.if_icmp .lt off, 3)) (hq : pc + 3 = q) (ht : (pc : Int) + off = (tgt : Int)) (h : (if x < y then a else b) = some out) (kt : x < y → a = some out → Jd p l e R s m args below meth c D N ad cel ok nL Q tgt lv rest σ) (kf : ¬ (x < y) → b = some out → Jd p l e R s m args below meth c D N ad cel ok nL Q q lv rest σ) : Jd p l e R s m args below meth c D N ad cel ok nL Q pc lv (.int y :: .int x :: rest) σ := by
  subst hq; intro hok ls H locs hl hP hS
  exact lv_icmp_lt C.1 C.2.1 hdg ht (fun z => kt z (by rw [if_pos z] at h; exact h) hok ls H locs hl hP hS) (fun z => kf z (by rw [if_neg z] at h; exact h) hok ls H locs hl hP hS)
theorem J_icmp_ge (C : Cx p s m args meth c cc nL own D tys N ad ret) {off : Int} {tgt q : Nat} {x y : Int32} {O : Type} {a b : Option O} {out : O} (hdg : decode cc pc = .ok (.if_icmp .ge off, 3)) (hq : pc + 3 = q) (ht : (pc : Int) + off = (tgt : Int)) (h : (if y ≤ x then a else b) = some out) (kt : y ≤ x → a = some out → Jd p l e R s m args below meth c D N ad cel ok nL Q tgt lv rest σ) (kf : ¬ (y ≤ x) → b = some out → Jd p l e R s m args below meth c D N ad cel ok nL Q q lv rest σ) : Jd p l e R s m args below meth c D N ad cel ok nL Q pc lv (.int y :: .int x :: rest) σ := by
  subst hq; intro hok ls H locs hl hP hS
  exact lv_icmp_ge C.1 C.2.1 hdg ht (fun z => kt z (by rw [if_pos z] at h; exact h) hok ls H locs hl hP hS) (fun z => kf z (by rw [if_neg z] at h; exact h) hok ls H locs hl hP hS)
theorem J_icmp_gt (C : Cx p s m args meth c cc nL own D tys N ad ret) {off : Int} {tgt q : Nat} {x y : Int32} {O : Type} {a b : Option O} {out : O} (hdg : decode cc pc = .ok (.if_icmp .gt off, 3)) (hq : pc + 3 = q) (ht : (pc : Int) + off = (tgt : Int)) (h : (if y < x then a else b) = some out) (kt : y < x → a = some out → Jd p l e R s m args below meth c D N ad cel ok nL Q tgt lv rest σ) (kf : ¬ (y < x) → b = some out → Jd p l e R s m args below meth c D N ad cel ok nL Q q lv rest σ) : Jd p l e R s m args below meth c D N ad cel ok nL Q pc lv (.int y :: .int x :: rest) σ := by
  subst hq; intro hok ls H locs hl hP hS
  exact lv_icmp_gt C.1 C.2.1 hdg ht (fun z => kt z (by rw [if_pos z] at h; exact h) hok ls H locs hl hP hS) (fun z => kf z (by rw [if_neg z] at h; exact h) hok ls H locs hl hP hS)
theorem J_icmp_le (C : Cx p s m args meth c cc nL own D tys N ad ret) {off : Int} {tgt q : Nat} {x y : Int32} {O : Type} {a b : Option O} {out : O} (hdg : decode cc pc = .ok (.if_icmp .le off, 3)) (hq : pc + 3 = q) (ht : (pc : Int) + off = (tgt : Int)) (h : (if x ≤ y then a else b) = some out) (kt : x ≤ y → a = some out → Jd p l e R s m args below meth c D N ad cel ok nL Q tgt lv rest σ) (kf : ¬ (x ≤ y) → b = some out → Jd p l e R s m args below meth c D N ad cel ok nL Q q lv rest σ) : Jd p l e R s m args below meth c D N ad cel ok nL Q pc lv (.int y :: .int x :: rest) σ := by
  subst hq; intro hok ls H locs hl hP hS
  exact lv_icmp_le C.1 C.2.1 hdg ht (fun z => kt z (by rw [if_pos z] at h; exact h) hok ls H locs hl hP hS) (fun z => kf z (by rw [if_neg z] at h; exact h) hok ls H locs hl hP hS)
theorem J_if_ne (C : Cx p s m args meth c cc nL own D tys N ad ret) {off : Int} {tgt q : Nat} {x : Int32} {O : Type} {a b : Option O} {out : O} (hdg : decode cc pc = .ok (.ifCond .ne off, 3)) (hq : pc + 3 = q) (ht : (pc : Int) + off = (tgt : Int)) (h : (if x = 0 then a else b) = some out) (kt : x = 0 → a = some out → Jd p l e R s m args below meth c D N ad cel ok nL Q q lv rest σ) (kf : ¬ (x = 0) → b = some out → Jd p l e R s m args below meth c D N ad cel ok nL Q tgt lv rest σ) : Jd p l e R s m args below meth c D N ad cel ok nL Q pc lv (.int x :: rest) σ := by
  subst hq; intro hok ls H locs hl hP hS
  exact lv_if_ne C.1 C.2.1 hdg ht (fun z => kf z (by rw [if_neg z] at h; exact h) hok ls H locs hl hP hS) (fun z => kt z (by rw [if_pos z] at h; exact h) hok ls H locs hl hP hS)
theorem J_icmp_ne (C : Cx p s m args meth c cc nL own D tys N ad ret) {off : Int} {tgt q : Nat} {x y : Int32} {O : Type} {a b : Option O} {out : O} (hdg : decode cc pc = .ok (.if_icmp .ne off, 3)) (hq : pc + 3 = q) (ht : (pc : Int) + off = (tgt : Int)) (h : (if x = y then a else b) = some out) (kt : x = y → a = some out → Jd p l e R s m args below meth c D N ad cel ok nL Q q lv rest σ) (kf : ¬ (x = y) → b = some out → Jd p l e R s m args below meth c D N ad cel ok nL Q tgt lv rest σ) : Jd p l e R s m args below meth c D N ad cel ok nL Q pc lv (.int y :: .int x :: rest) σ := by
  subst hq; intro hok ls H locs hl hP hS
  exact lv_icmp_ne C.1 C.2.1 hdg ht (fun z => kf z (by rw [if_neg z] at h; exact h) hok ls H locs hl hP hS) (fun z => kt z (by rw [if_pos z] at h; exact h) hok ls H locs hl hP hS)
def bf {α : Type} (b : Bool) (x y : α) : α := match b with
  | true => x
  | false => y
theorem J_ifeq_b (C : Cx p s m args meth c cc nL own D tys N ad ret) {off : Int} {tgt q : Nat} {x : Bool} {O : Type} {a b : Option O} {out : O} (hdg : decode cc pc = .ok (.ifCond .eq off, 3)) (hq : pc + 3 = q) (ht : (pc : Int) + off = (tgt : Int)) (h : bf x a b = some out) (kt : x = true → a = some out → Jd p l e R s m args below meth c D N ad cel ok nL Q q lv rest σ) (kf : x = false → b = some out → Jd p l e R s m args below meth c D N ad cel ok nL Q tgt lv rest σ) : Jd p l e R s m args below meth c D N ad cel ok nL Q pc lv (.int (b2i x) :: rest) σ := by
  subst hq; intro hok ls H locs hl hP hS
  refine lv_if_eq C.1 C.2.1 hdg ht (fun z => ?_) (fun z => ?_)
  · cases x
    · exact kf rfl h hok ls H locs hl hP hS
    · cases z
  · cases x
    · exact absurd rfl z
    · exact kt rfl h hok ls H locs hl hP hS
theorem J_ifne_b (C : Cx p s m args meth c cc nL own D tys N ad ret) {off : Int} {tgt q : Nat} {x : Bool} {O : Type} {a b : Option O} {out : O} (hdg : decode cc pc = .ok (.ifCond .ne off, 3)) (hq : pc + 3 = q) (ht : (pc : Int) + off = (tgt : Int)) (h : bf x a b = some out) (kt : x = true → a = some out → Jd p l e R s m args below meth c D N ad cel ok nL Q tgt lv rest σ) (kf : x = false → b = some out → Jd p l e R s m args below meth c D N ad cel ok nL Q q lv rest σ) : Jd p l e R s m args below meth c D N ad cel ok nL Q pc lv (.int (b2i x) :: rest) σ := by
  subst hq; intro hok ls H locs hl hP hS
  refine lv_if_ne C.1 C.2.1 hdg ht (fun z => ?_) (fun z => ?_)
  · cases x
    · exact absurd rfl z
    · exact kt rfl h hok ls H locs hl hP hS
  · cases x
    · exact kf rfl h hok ls H locs hl hP hS
    · cases z
theorem J_ifnonnull (C : Cx p s m args meth c cc nL own D tys N ad ret) {off : Int} {tgt : Nat} {x : Nat} (hdg : decode cc pc = .ok (.ifnonnull off, 3)) (ht : (pc : Int) + off = (tgt : Int)) (k : Jd p l e R s m args below meth c D N ad cel ok nL Q tgt lv rest σ) : Jd p l e R s m args below meth c D N ad cel ok nL Q pc lv (.ref x :: rest) σ := by
  intro hok ls H locs hl hP hS; exact lv_ifnonnull C.1 C.2.1 hdg ht (k hok ls H locs hl hP hS)
theorem J_ifnull (C : Cx p s m args meth c cc nL own D tys N ad ret) {off : Int} {q : Nat} {x : Nat} (hdg : decode cc pc = .ok (.ifnull off, 3)) (hq : pc + 3 = q) (k : Jd p l e R s m args below meth c D N ad cel ok nL Q q lv rest σ) : Jd p l e R s m args below meth c D N ad cel ok nL Q pc lv (.ref x :: rest) σ := by
  subst hq; intro hok ls H locs hl hP hS; exact lv_ifnull C.1 C.2.1 hdg (k hok ls H locs hl hP hS)
theorem J_ifnullN (C : Cx p s m args meth c cc nL own D tys N ad ret) {off : Int} {tgt : Nat} (hdg : decode cc pc = .ok (.ifnull off, 3)) (ht : (pc : Int) + off = (tgt : Int)) (k : Jd p l e R s m args below meth c D N ad cel ok nL Q tgt lv rest σ) : Jd p l e R s m args below meth c D N ad cel ok nL Q pc lv (.null :: rest) σ := by
  intro hok ls H locs hl hP hS; exact lv_ifnullN C.1 C.2.1 hdg ht (k hok ls H locs hl hP hS)
theorem J_ifnonnullN (C : Cx p s m args meth c cc nL own D tys N ad ret) {off : Int} {q : Nat} (hdg : decode cc pc = .ok (.ifnonnull off, 3)) (hq : pc + 3 = q) (k : Jd p l e R s m args below meth c D N ad cel ok nL Q q lv rest σ) : Jd p l e R s m args below meth c D N ad cel ok nL Q pc lv (.null :: rest) σ := by
  subst hq; intro hok ls H locs hl hP hS; exact lv_ifnonnullN C.1 C.2.1 hdg (k hok ls H locs hl hP hS)
theorem J_ldc (C : Cx p s m args meth c cc nL own D tys N ad ret) {q index : Nat} {v : Int32} (hw : Cond.constant own index v ∈ WA) (hdg : decode cc pc = .ok (.ldc index, 2)) (hq : pc + 2 = q) (k : Jd p l e R s m args below meth c D N ad cel ok nL Q q lv (.int v :: rest) σ) : Jd p l e R s m args below meth c D N ad cel ok nL Q pc lv rest σ := by
  subst hq; intro hok ls H locs hl hP hS; exact lv_ldc C.1 C.2.1 C.2.2.2.1 (C.2.2.2.2.1 _ hw) hdg (k hok ls H locs hl hP hS)
theorem J_ldc2 (C : Cx p s m args meth c cc nL own D tys N ad ret) {q index : Nat} {v : Int64} (hw : Cond.constantLong own index v ∈ WA) (hdg : decode cc pc = .ok (.ldc2_w index, 3)) (hq : pc + 3 = q) (k : Jd p l e R s m args below meth c D N ad cel ok nL Q q lv (.long v :: rest) σ) : Jd p l e R s m args below meth c D N ad cel ok nL Q pc lv rest σ := by
  subst hq; intro hok ls H locs hl hP hS; exact lv_ldc2 C.1 C.2.1 C.2.2.2.1 (C.2.2.2.2.1 _ hw) hdg (k hok ls H locs hl hP hS)
theorem J_ldcw (C : Cx p s m args meth c cc nL own D tys N ad ret) {q index : Nat} {v : Int32} (hw : Cond.constant own index v ∈ WA) (hdg : decode cc pc = .ok (.ldc_w index, 3)) (hq : pc + 3 = q) (k : Jd p l e R s m args below meth c D N ad cel ok nL Q q lv (.int v :: rest) σ) : Jd p l e R s m args below meth c D N ad cel ok nL Q pc lv rest σ := by
  subst hq; intro hok ls H locs hl hP hS; exact lv_ldcw C.1 C.2.1 C.2.2.2.1 (C.2.2.2.2.1 _ hw) hdg (k hok ls H locs hl hP hS)
theorem J_sub {lv' : List (Nat × Value)} {st : List Value} (ks : List Nat) (hk : lv_pick lv ks = lv') (k : Jd p l e R s m args below meth c D N ad cel ok nL Q pc lv' st σ) : Jd p l e R s m args below meth c D N ad cel ok nL Q pc lv st σ := fun hok ls H locs hl hP hS => k hok ls H locs (lv_sub hl ks hk) hP hS
theorem J_nmi {O : Type} {x : Int32} {K : Int32 → Option O} {out : O} (h : nm x K = some out) (k : ∀ y : Int32, y = x → K y = some out → Jd p l e R s m args below meth c D N ad cel ok nL Q pc lv (.int y :: rest) σ) : Jd p l e R s m args below meth c D N ad cel ok nL Q pc lv (.int x :: rest) σ := k x rfl h
theorem J_nml {O : Type} {x : Int64} {K : Int64 → Option O} {out : O} (h : nm x K = some out) (k : ∀ y : Int64, y = x → K y = some out → Jd p l e R s m args below meth c D N ad cel ok nL Q pc lv (.long y :: rest) σ) : Jd p l e R s m args below meth c D N ad cel ok nL Q pc lv (.long x :: rest) σ := k x rfl h
theorem J_tsIn (C : Cx p s m args meth c cc nL own D tys N ad ret) {dflt lo hi : Int} {offs : Array Int} {len : Nat} {x : Int32} {off : Int} {tgt : Nat} (v : Int32) (hx : x = v) (hdg : decode cc pc = .ok (.tableswitch dflt lo hi offs, len)) (h1 : ¬ v.toInt < lo) (h2 : ¬ hi < v.toInt) (ho : offs[(v.toInt - lo).toNat]? = some off) (ht : (pc : Int) + off = (tgt : Int)) (k : Jd p l e R s m args below meth c D N ad cel ok nL Q tgt lv rest σ) : Jd p l e R s m args below meth c D N ad cel ok nL Q pc lv (.int x :: rest) σ := by
  subst hx; intro hok ls H locs hl hP hS; exact lv_tableIn C.1 C.2.1 hdg h1 h2 ho ht (k hok ls H locs hl hP hS)
theorem J_tsOut (C : Cx p s m args meth c cc nL own D tys N ad ret) {dflt lo hi : Int} {offs : Array Int} {len : Nat} {x : Int32} {tgt : Nat} (hdg : decode cc pc = .ok (.tableswitch dflt lo hi offs, len)) (hx : x.toInt < lo ∨ hi < x.toInt) (ht : (pc : Int) + dflt = (tgt : Int)) (k : Jd p l e R s m args below meth c D N ad cel ok nL Q tgt lv rest σ) : Jd p l e R s m args below meth c D N ad cel ok nL Q pc lv (.int x :: rest) σ := by
  intro hok ls H locs hl hP hS; exact lv_tableOut C.1 C.2.1 hdg hx ht (k hok ls H locs hl hP hS)
theorem J_ls (C : Cx p s m args meth c cc nL own D tys N ad ret) {dflt : Int} {ps : Array (Int × Int)} {len : Nat} {x : Int32} {off : Int} {tgt : Nat} (hdg : decode cc pc = .ok (.lookupswitch dflt ps, len)) (hp : (ps.toList.zip (ps.toList.drop 1)).all (fun (a, next) => a.1 < next.1) = true) (ho : Op.lookupswitch.offset ps.toList dflt x.toInt = off) (ht : (pc : Int) + off = (tgt : Int)) (k : Jd p l e R s m args below meth c D N ad cel ok nL Q tgt lv rest σ) : Jd p l e R s m args below meth c D N ad cel ok nL Q pc lv (.int x :: rest) σ := by
  intro hok ls H locs hl hP hS; exact lv_lookup C.1 C.2.1 hdg hp ho ht (k hok ls H locs hl hP hS)
def mmax (x y : Int32) : Int32 := if x < y then y else x
theorem J_mmax (C : Cx p s m args meth c cc nL own D tys N ad ret) {q index : Nat} {x y : Int32} (hl0 : Cond.methodLink own index Lib.Math.max.name ∈ WA) (hst : Cond.static Lib.Math.max.name ∈ WA) (hcd : Cond.code Lib.Math.max.name Lib.Math.max.code 2 (some .int) ∈ WA) (hf : 1 ≤ R.frames) (hlo : (rest.map fun v => v.category).sum + 13 ≤ R.locals) (hdg : decode cc pc = .ok (.invokestatic index, 3)) (hq : pc + 3 = q) (k : Jd p l e R s m args below meth c D N ad cel ok nL Q q lv (.int (mmax x y) :: rest) σ) : Jd p l e R s m args below meth c D N ad cel ok nL Q pc lv (.int y :: .int x :: rest) σ := by
  subst hq; intro hok ls H locs hl hP hS
  exact va_mmax C.1 C.2.1 (C.2.2.1.trans hl.1.symm) C.2.2.2.1 (C.2.2.2.2.1 _ hl0) (C.2.2.2.2.1 _ hst) (C.2.2.2.2.1 _ kZ_RJ9) (C.2.2.2.2.1 _ hcd) hf hlo (Nat.zero_le _) (Nat.zero_le _) hdg (k hok ls H locs hl hP hS)
def mmin (x y : Int32) : Int32 := if y < x then y else x
theorem J_mmin (C : Cx p s m args meth c cc nL own D tys N ad ret) {q index : Nat} {x y : Int32} (hl0 : Cond.methodLink own index Lib.Math.min.name ∈ WA) (hst : Cond.static Lib.Math.min.name ∈ WA) (hcd : Cond.code Lib.Math.min.name Lib.Math.min.code 2 (some .int) ∈ WA) (hf : 1 ≤ R.frames) (hlo : (rest.map fun v => v.category).sum + 13 ≤ R.locals) (hdg : decode cc pc = .ok (.invokestatic index, 3)) (hq : pc + 3 = q) (k : Jd p l e R s m args below meth c D N ad cel ok nL Q q lv (.int (mmin x y) :: rest) σ) : Jd p l e R s m args below meth c D N ad cel ok nL Q pc lv (.int y :: .int x :: rest) σ := by
  subst hq; intro hok ls H locs hl hP hS
  exact va_mmin C.1 C.2.1 (C.2.2.1.trans hl.1.symm) C.2.2.2.1 (C.2.2.2.2.1 _ hl0) (C.2.2.2.2.1 _ hst) (C.2.2.2.2.1 _ kZ_RJ9) (C.2.2.2.2.1 _ hcd) hf hlo (Nat.zero_le _) (Nat.zero_le _) hdg (k hok ls H locs hl hP hS)
def mabs (x : Int32) : Int32 := if 0 ≤ x then x else 0 - x
theorem J_mabs (C : Cx p s m args meth c cc nL own D tys N ad ret) {q index : Nat} {x : Int32} (hl0 : Cond.methodLink own index Lib.Math.abs.name ∈ WA) (hst : Cond.static Lib.Math.abs.name ∈ WA) (hcd : Cond.code Lib.Math.abs.name Lib.Math.abs.code 1 (some .int) ∈ WA) (hf : 1 ≤ R.frames) (hlo : (rest.map fun v => v.category).sum + 13 ≤ R.locals) (hdg : decode cc pc = .ok (.invokestatic index, 3)) (hq : pc + 3 = q) (k : Jd p l e R s m args below meth c D N ad cel ok nL Q q lv (.int (mabs x) :: rest) σ) : Jd p l e R s m args below meth c D N ad cel ok nL Q pc lv (.int x :: rest) σ := by
  subst hq; intro hok ls H locs hl hP hS
  exact va_mabs C.1 C.2.1 (C.2.2.1.trans hl.1.symm) C.2.2.2.1 (C.2.2.2.2.1 _ hl0) (C.2.2.2.2.1 _ hst) (C.2.2.2.2.1 _ kZ_RJ9) (C.2.2.2.2.1 _ hcd) hf hlo (Nat.zero_le _) (Nat.zero_le _) hdg (k hok ls H locs hl hP hS)
theorem J_get (C : Cx p s m args meth c cc nL own D tys N ad ret) {Cn : String} {T : u_T} {Nf ci index q g : Nat} {fs : List Value} (hin : ∀ w ∈ u_ws Cn T Nf, w ∈ WA) (hg : g < N) (hc : cel σ g = .inr (ci, fs)) (hcl : vwCl[ci]? = some (Cn, T, Nf)) (j : Nat) (hj : j < Nf) (hw : Cond.fieldLink own index (T j).1 (T j).2.1 (T j).2.2.1 ∈ WA) {v : Value} (hv : fs[j]? = some v) (hdg : decode cc pc = .ok (.getfield index, 3)) (hq : pc + 3 = q) (k : ok σ → Jd p l e R s m args below meth c D N ad cel ok nL Q q lv (v :: rest) σ) : Jd p l e R s m args below meth c D N ad cel ok nL Q pc lv (.ref (ad g) :: rest) σ := by
  subst hq; intro hok ls H locs hl hP hS
  exact va_get (D := D) C.1 C.2.1 C.2.2.2.2.1 hin C.2.2.2.1 C.2.2.2.2.2.1 hP g (wd_get hg hc) hcl j hj (C.2.2.2.2.1 _ hw) (fun _ h9 => h9) hv hdg (k hok hok ls H locs hl hP hS)
theorem J_put (C : Cx p s m args meth c cc nL own D tys N ad ret) {Cn : String} {T : u_T} {Nf ci index q g : Nat} {fs fs' : List Value} {σ' : Sg} (hin : ∀ w ∈ u_ws Cn T Nf, w ∈ WA) (ty0 : Nat → FieldType) (hty : ∀ k, k < Nf → parseFieldDescriptor (T k).2.2.1 = some (ty0 k)) (hnm : ∀ a, a < Nf → ∀ b, b < Nf → a ≠ b → (T a).2.1 ≠ (T b).2.1) (hg : g < N) (hc : cel σ g = .inr (ci, fs)) (hcl : vwCl[ci]? = some (Cn, T, Nf)) (j : Nat) (hj : j < Nf) (hw : Cond.fieldLink own index (T j).1 (T j).2.1 (T j).2.2.1 ∈ WA) (hfin : (T j).2.2.2 = false) {ty : FieldType} {v : Value} (hd : parseFieldDescriptor (T j).2.2.1 = some ty) (hn : narrow ty v = v) (hfit : fits ty v = true) (hlf : j < fs.length) (hs : fs.set j v = fs') (hc' : cel σ' g = .inr (ci, fs')) (hne : ∀ x, x ≠ g → cel σ' x = cel σ x) (hok' : ok σ → ok σ') (hdg : decode cc pc = .ok (.putfield index, 3)) (hq : pc + 3 = q) (k : Jd p l e R s m args below meth c D N ad cel ok nL Q q lv rest σ') : Jd p l e R s m args below meth c D N ad cel ok nL Q pc lv (v :: .ref (ad g) :: rest) σ := by
  subst hq; subst hs; intro hok ls H locs hl hP hS
  refine va_put (D := D) C.1 C.2.1 C.2.2.2.2.1 hin ty0 hty hnm C.2.2.2.1 C.2.2.2.2.2.1 hP (wd_D C.2.2.2.2.2.2.1) hS g (wd_get hg hc) hcl j hj (C.2.2.2.2.1 _ hw) (fun _ h9 => h9) hfin hd hn hfit hlf hdg (fun H1 locs1 hP1 hD1 hS1 => ?_)
  rw [wd_set hc' hne] at hP1
  exact k (hok' hok) ls H1 locs1 hl hP1 hS1
theorem J_iald (C : Cx p s m args meth c cc nL own D tys N ad ret) {q g t0 n : Nat} {cA : ClassId} {f : Nat → Int32} {i : Int32} {O : Type} {X : Option O} {out : O} (hg : g < N) (hc : cel σ g = .inl (cA, n, .inl f)) (ht : tys[t0]? = some (cA, .int)) (h : ck (inB i n) X = some out) (hdg : decode cc pc = .ok (.iaload, 1)) (hq : pc + 1 = q) (k : X = some out → Jd p l e R s m args below meth c D N ad cel ok nL Q q lv (.int (f i.toNatClampNeg) :: rest) σ) : Jd p l e R s m args below meth c D N ad cel ok nL Q pc lv (.int i :: .ref (ad g) :: rest) σ := by
  subst hq; intro hok ls H locs hl hP hS
  exact va_iald (D := D) C.1 C.2.1 C.2.2.2.2.2.1 hP g t0 (wd_get hg hc) ht (inB_in (ck_of h).1) hdg (k (ck_of h).2 hok ls H locs hl hP hS)
theorem J_iast (C : Cx p s m args meth c cc nL own D tys N ad ret) {q g t0 n : Nat} {cA : ClassId} {f : Nat → Int32} {i x : Int32} {σ' : Sg} {O : Type} {X : Option O} {out : O} (hg : g < N) (hc : cel σ g = .inl (cA, n, .inl f)) (ht : tys[t0]? = some (cA, .int)) (h : ck (inB i n) X = some out) (hc' : cel σ' g = .inl (cA, n, .inl (upd f i.toNatClampNeg x))) (hne : ∀ z, z ≠ g → cel σ' z = cel σ z) (hok' : ok σ → ok σ') (hdg : decode cc pc = .ok (.iastore, 1)) (hq : pc + 1 = q) (k : X = some out → Jd p l e R s m args below meth c D N ad cel ok nL Q q lv rest σ') : Jd p l e R s m args below meth c D N ad cel ok nL Q pc lv (.int x :: .int i :: .ref (ad g) :: rest) σ := by
  subst hq; intro hok ls H locs hl hP hS
  refine va_iast (D := D) C.1 C.2.1 C.2.2.2.2.2.1 hP (wd_D C.2.2.2.2.2.2.1) hS g t0 (wd_get hg hc) ht (inB_in (ck_of h).1) hdg (fun H1 locs1 hP1 hD1 hS1 => ?_)
  rw [wd_set hc' hne] at hP1
  exact k (ck_of h).2 (hok' hok) ls H1 locs1 hl hP1 hS1
theorem J_alen (C : Cx p s m args meth c cc nL own D tys N ad ret) {q g t0 : Nat} {cA : ClassId} {x : vp_A} {ty : FieldType} (hg : g < N) (hc : cel σ g = .inl (cA, x)) (ht : tys[t0]? = some (cA, ty)) (hdg : decode cc pc = .ok (.arraylength, 1)) (hq : pc + 1 = q) (k : Jd p l e R s m args below meth c D N ad cel ok nL Q q lv (.int (nI x.1) :: rest) σ) : Jd p l e R s m args below meth c D N ad cel ok nL Q pc lv (.ref (ad g) :: rest) σ := by
  subst hq; intro hok ls H locs hl hP hS
  exact va_alen (D := D) C.1 C.2.1 C.2.2.2.2.2.1 hP g t0 (wd_get hg hc) ht rfl hdg (k hok ls H locs hl hP hS)
theorem J_aald (C : Cx p s m args meth c cc nL own D tys N ad ret) {q g t0 n : Nat} {cA : ClassId} {Cn : String} {f : Nat → Nat} {i : Int32} {O : Type} {X : Option O} {out : O} (hg : g < N) (hc : cel σ g = .inl (cA, n, .inr (.inr (.inr (.inr (fun j => some (ad (f j)))))))) (ht : tys[t0]? = some (cA, .object Cn)) (h : ck (inB i n) X = some out) (hdg : decode cc pc = .ok (.aaload, 1)) (hq : pc + 1 = q) (k : inB i n = true → X = some out → Jd p l e R s m args below meth c D N ad cel ok nL Q q lv (.ref (ad (f i.toNatClampNeg)) :: rest) σ) : Jd p l e R s m args below meth c D N ad cel ok nL Q pc lv (.int i :: .ref (ad g) :: rest) σ := by
  subst hq; intro hok ls H locs hl hP hS
  exact va_aldq (D := D) C.1 C.2.1 C.2.2.2.2.2.1 hP g t0 (wd_get hg hc) ht (inB_in (ck_of h).1) hdg (k (ck_of h).1 (ck_of h).2 hok ls H locs hl hP hS)
theorem J_acopy (C : Cx p s m args meth c cc nL own D tys N ad ret) {q g1 g2 t0 t1 n1 n2 index : Nat} {c1 c2 : ClassId} {f1 f2 : Nat → Int32} {sp dp n : Int32} {σ' : Sg} {O : Type} {X : Option O} {out : O} (hl0 : Cond.methodLink own index arraycopyName ∈ WA) (hnat : Cond.native arraycopyName ∈ WA) (hstt : Cond.static arraycopyName ∈ WA) (hini : Cond.initialized "java/lang/System" ∈ WA) (hg1 : g1 < N) (hg2 : g2 < N) (hc1 : cel σ g1 = .inl (c1, n1, .inl f1)) (hc2 : cel σ g2 = .inl (c2, n2, .inl f2)) (ht0 : tys[t0]? = some (c1, .int)) (ht1 : tys[t1]? = some (c2, .int)) (h : ck (!(decide (sp < 0)) && !(decide (dp < 0)) && !(decide (n < 0)) && decide (sp.toNatClampNeg + n.toNatClampNeg ≤ n1) && decide (dp.toNatClampNeg + n.toNatClampNeg ≤ n2)) X = some out) (hc' : cel σ' g2 = .inl (c2, n2, .inl (va_cpy f1 f2 sp.toNatClampNeg dp.toNatClampNeg n.toNatClampNeg))) (hne : ∀ z, z ≠ g2 → cel σ' z = cel σ z) (hok' : ok σ → ok σ') (hf : 1 ≤ R.frames) (hlo : (rest.map fun v => v.category).sum + (nativeFrameWords "java/lang/System" "arraycopy" 5 + 11) ≤ R.locals) (hdg : decode cc pc = .ok (.invokestatic index, 3)) (hq : pc + 3 = q) (k : X = some out → Jd p l e R s m args below meth c D N ad cel ok nL Q q lv rest σ') : Jd p l e R s m args below meth c D N ad cel ok nL Q pc lv (.int n :: .int dp :: .ref (ad g2) :: .int sp :: .ref (ad g1) :: rest) σ := by
  subst hq; intro hok ls H locs hl hP hS
  have hb := (ck_of h).1
  simp only [Bool.and_eq_true, Bool.not_eq_true', decide_eq_false_iff_not, decide_eq_true_eq] at hb
  obtain ⟨⟨⟨⟨b1, b2⟩, b3⟩, b4⟩, b5⟩ := hb
  refine va_copyi (D := D) (ty := .int) C.1 C.2.1 (C.2.2.1.trans hl.1.symm) C.2.2.2.1 (C.2.2.2.2.1 _ hl0) (C.2.2.2.2.1 _ hnat) (C.2.2.2.2.1 _ hstt) (C.2.2.2.2.1 _ hini) C.2.2.2.2.2.1 hP (wd_D C.2.2.2.2.2.2.1) hS g1 g2 t0 t1 (wd_get hg1 hc1) (wd_get hg2 hc2) ht0 ht1 rfl b1 b2 b3 b4 b5 (fun _ _ => rfl) hf hlo hdg (fun H1 locs1 hP1 hD1 hS1 => ?_)
  rw [wd_set hc' hne] at hP1
  exact k (ck_of h).2 (hok' hok) ls H1 locs1 hl hP1 hS1
theorem J_iret (C : Cx p s m args meth c cc nL own D tys N ad (some .int)) {r : Int32} (hdg : decode cc pc = .ok (.ireturn, 1)) : Jd p l e R s m args below meth c D N ad cel ok nL (MQ below (QI D tys N ad cel ok r σ) args s 0 0 (inA N ad)) pc lv [.int r] σ := by
  intro hok ls H locs hl hP hS
  exact W.iret C.1 C.2.1 C.2.2.2.2.2.2.2.1 (fun t ht hW => ⟨⟨r, (), rfl, rfl, ⟨by rw [ht]; exact hP, hok⟩⟩, hS.F ht⟩) hS.2.2 hdg C.2.2.2.2.2.2.2.2.1
theorem J_zret (C : Cx p s m args meth c cc nL own D tys N ad (some .boolean)) {b : Bool} (hdg : decode cc pc = .ok (.ireturn, 1)) : Jd p l e R s m args below meth c D N ad cel ok nL (MQ below (QI D tys N ad cel ok (b2i b) σ) args s 0 0 (inA N ad)) pc lv [.int (b2i b)] σ := by
  intro hok ls H locs hl hP hS
  exact W.zret C.1 C.2.1 C.2.2.2.2.2.2.2.1 (by cases b <;> rfl) (fun t ht hW => ⟨⟨b2i b, (), rfl, rfl, ⟨by rw [ht]; exact hP, hok⟩⟩, hS.F ht⟩) hS.2.2 hdg C.2.2.2.2.2.2.2.2.1
theorem J_lret (C : Cx p s m args meth c cc nL own D tys N ad (some .long)) {r : Int64} (hdg : decode cc pc = .ok (.lreturn, 1)) : Jd p l e R s m args below meth c D N ad cel ok nL (MQ below (QL D tys N ad cel ok r σ) args s 0 0 (inA N ad)) pc lv [.long r] σ := by
  intro hok ls H locs hl hP hS
  exact W.lret C.1 C.2.1 C.2.2.2.2.2.2.2.1 (fun t ht hW => ⟨⟨r, (), rfl, rfl, ⟨by rw [ht]; exact hP, hok⟩⟩, hS.F ht⟩) hS.2.2 hdg C.2.2.2.2.2.2.2.2.1
theorem J_vret (C : Cx p s m args meth c cc nL own D tys N ad (none)) (hdg : decode cc pc = .ok (.return_, 1)) : Jd p l e R s m args below meth c D N ad cel ok nL (MQ below (QV D tys N ad cel ok σ) args s 0 0 (inA N ad)) pc lv [] σ := by
  intro hok ls H locs hl hP hS
  exact W.vret C.1 C.2.1 C.2.2.2.2.2.2.2.1 (fun t ht hW => ⟨⟨(), rfl, trivial, ⟨by rw [ht]; exact hP, hok⟩⟩, hS.F ht⟩) hS.2.2 hdg C.2.2.2.2.2.2.2.2.1
theorem J_aret {rt : String} (C : Cx p s m args meth c cc nL own D tys N ad (some (.object rt))) {r : Option Nat} {v : Value} (hv : v = va_rf (r.map ad)) (hdg : decode cc pc = .ok (.areturn, 1)) : Jd p l e R s m args below meth c D N ad cel ok nL (MQ below (QR D tys N ad cel ok r σ) args s 0 0 (inA N ad)) pc lv [v] σ := by
  intro hok ls H locs hl hP hS
  subst hv
  exact W.aret C.1 C.2.1 C.2.2.2.2.2.2.2.1 (Or.inl ⟨rt, rfl⟩) (va_rf_or _) (fun t ht hW => ⟨⟨r.map ad, (), rfl, rfl, ⟨by rw [ht]; exact hP, hok⟩⟩, hS.F ht⟩) hS.2.2 hdg C.2.2.2.2.2.2.2.2.1
theorem J_callIV (C : Cx p s m args meth c cc nL own D tys N ad ret) {y : MethodName} {cc' : ByteArray} {maxL fr lo n index q : Nat} {ty : FieldType} {av : List Value} {r : Int32} {σ' : Sg} {As : List Value} (hM : MI l D tys N ad cel ok y cc' maxL ty fr lo av σ r σ') (hy : okV y cc' maxL (some ty) n) (hl0 : Cond.methodLink own index y ∈ WA) {Cn : String} {T : u_T} {Nf ci g : Nat} {fs : List Value} (hg : g < N) (hc : cel σ g = .inr (ci, fs)) (hcl : vwCl[ci]? = some (Cn, T, Nf)) (hyc : y.cls = Cn) (hav : av = .ref (ad g) :: As) (hn : As.length = n) {st : List Value} (hst : st = As.reverse ++ (.ref (ad g) :: rest)) (hR : fr + 1 ≤ R.frames ∧ 8 + (maxL + 11) + lo ≤ R.locals) (hW8 : (rest.map fun v => v.category).sum ≤ 8) (hdg : decode cc pc = .ok (.invokevirtual index, 3)) (hq : pc + 3 = q) (k : Jd p l e R s m args below meth c D N ad cel ok nL Q q lv (.int r :: rest) σ') : Jd p l e R s m args below meth c D N ad cel ok nL Q pc lv st σ := by
  subst hq; subst hav; subst hst
  intro hok ls H locs hl hP hS
  obtain ⟨hx, hb, hml, hown, hts, hK, hap, -, -, hNW⟩ := C
  refine va_calli (va_runV (As := As) (rest := rest) ⟨hx, hb, hml, hown, hts⟩ hM ⟨callB_of n hts (gWB hy.1) rfl rfl rfl (hts _ hy.2.2.2.1) (hts _ hl0) hy.2.2.2.2 hR, hts _ hy.2.1, hts _ hy.2.2.1⟩ ⟨fun a U g0 mk z => ⟨z.1, WP_call z.2⟩, hyc ▸ va_recv hK hP (q0 := g) hcl (wd_get hg hc), fun U hU hW => ⟨rfl, by rw [hU]; exact hP, ⟨va_K.moved hW.alike hK, NW_warm hW hNW⟩, hok⟩⟩ rfl hn hl.1 rfl (lv_room hW8) hdg ⟨Nat.zero_le _, Nat.zero_le _⟩) hS (fun _ _ h9 => h9) (fun _ h9 => h9) (fun r1 u t H1 locs1 ht hvm hw hB hz hk1 hS => ?_)
  obtain ⟨hP1, hok1⟩ := hB
  rw [ht] at hP1
  subst hw; exact k hok1 ls H1 locs1 hl hP1 hS
theorem J_callIS (C : Cx p s m args meth c cc nL own D tys N ad ret) {y : MethodName} {cc' : ByteArray} {maxL fr lo n index q : Nat} {ty : FieldType} {av : List Value} {r : Int32} {σ' : Sg} {As : List Value} (hM : MI l D tys N ad cel ok y cc' maxL ty fr lo av σ r σ') (hy : okS y cc' maxL (some ty) n) (hl0 : Cond.methodLink own index y ∈ WA) (hav : av = As) (hn : As.length = n) {st : List Value} (hst : st = As.reverse ++ (rest)) (hR : fr + 1 ≤ R.frames ∧ 8 + (maxL + 11) + lo ≤ R.locals) (hW8 : (rest.map fun v => v.category).sum ≤ 8) (hdg : decode cc pc = .ok (.invokestatic index, 3)) (hq : pc + 3 = q) (k : Jd p l e R s m args below meth c D N ad cel ok nL Q q lv (.int r :: rest) σ') : Jd p l e R s m args below meth c D N ad cel ok nL Q pc lv st σ := by
  subst hq; subst hav; subst hst
  intro hok ls H locs hl hP hS
  obtain ⟨hx, hb, hml, hown, hts, hK, hap, -, -, hNW⟩ := C
  refine va_calli (va_runS (As := av) (rest := rest) ⟨hx, hb, hml, hown, hts⟩ hM ⟨callB_of n hts (gWB hy.1) rfl rfl rfl (hts _ hy.2.2.1) (hts _ hl0) hy.2.2.2 hR, hts _ hy.2.1⟩ ⟨fun a U g0 mk z => ⟨z.1, WP_call z.2⟩, fun U hU hW => ⟨rfl, by rw [hU]; exact hP, ⟨va_K.moved hW.alike hK, NW_warm hW hNW⟩, hok⟩⟩ rfl hn hl.1 rfl (lv_room hW8) hdg ⟨Nat.zero_le _, Nat.zero_le _⟩) hS (fun _ _ h9 => h9) (fun _ h9 => h9) (fun r1 u t H1 locs1 ht hvm hw hB hz hk1 hS => ?_)
  obtain ⟨hP1, hok1⟩ := hB
  rw [ht] at hP1
  subst hw; exact k hok1 ls H1 locs1 hl hP1 hS
theorem J_callISN (C : Cx p s m args meth c cc nL own D tys N ad ret) {y : MethodName} {host : String} {cc' : ByteArray} {maxL fr lo n index q : Nat} {ty : FieldType} {av : List Value} {r : Int32} {σ' : Sg} {As : List Value} (hM : MI l D tys N ad cel ok y cc' maxL ty fr lo av σ r σ') (hy : okS y cc' maxL (some ty) n) (hl0 : va_Nw (.methodLinkNest own index y host) s) (hav : av = As) (hn : As.length = n) {st : List Value} (hst : st = As.reverse ++ rest) (hR : fr + 1 ≤ R.frames ∧ 8 + (maxL + 11) + lo ≤ R.locals) (hW8 : (rest.map fun v => v.category).sum ≤ 8) (hdg : decode cc pc = .ok (.invokestatic index, 3)) (hq : pc + 3 = q) (k : Jd p l e R s m args below meth c D N ad cel ok nL Q q lv (.int r :: rest) σ') : Jd p l e R s m args below meth c D N ad cel ok nL Q pc lv st σ := by
  subst hq; subst hav; subst hst
  intro hok ls H locs hl hP hS
  obtain ⟨hx, hb, hml, hown, hts, hK, hap, -, -, hNW⟩ := C
  refine va_calli (va_runSN (As := av) (rest := rest) ⟨hx, hb, hml, hown, hts⟩ hM ⟨va_cnB n hts (gWB hy.1) rfl rfl rfl hl0 (hts _ hy.2.2.1) hy.2.2.2 hR, hts _ hy.2.1, trivial⟩ ⟨fun a U g0 mk z => ⟨z.1, WP_call z.2⟩, fun U hU hW => ⟨rfl, by rw [hU]; exact hP, ⟨va_K.moved hW.alike hK, NW_warm hW hNW⟩, hok⟩⟩ rfl hn hl.1 rfl (lv_room hW8) hdg ⟨Nat.zero_le _, Nat.zero_le _⟩) hS (fun _ _ h9 => h9) (fun _ h9 => h9) (fun r1 u t H1 locs1 ht hvm hw hB hz hk1 hS => ?_)
  obtain ⟨hP1, hok1⟩ := hB
  rw [ht] at hP1
  subst hw; exact k hok1 ls H1 locs1 hl hP1 hS
theorem J_callLV (C : Cx p s m args meth c cc nL own D tys N ad ret) {y : MethodName} {cc' : ByteArray} {maxL fr lo n index q : Nat} {av : List Value} {r : Int64} {σ' : Sg} {As : List Value} (hM : ML l D tys N ad cel ok y cc' maxL fr lo av σ r σ') (hy : okV y cc' maxL (some .long) n) (hl0 : Cond.methodLink own index y ∈ WA) {Cn : String} {T : u_T} {Nf ci g : Nat} {fs : List Value} (hg : g < N) (hc : cel σ g = .inr (ci, fs)) (hcl : vwCl[ci]? = some (Cn, T, Nf)) (hyc : y.cls = Cn) (hav : av = .ref (ad g) :: As) (hn : As.length = n) {st : List Value} (hst : st = As.reverse ++ (.ref (ad g) :: rest)) (hR : fr + 1 ≤ R.frames ∧ 8 + (maxL + 11) + lo ≤ R.locals) (hW8 : (rest.map fun v => v.category).sum ≤ 8) (hdg : decode cc pc = .ok (.invokevirtual index, 3)) (hq : pc + 3 = q) (k : Jd p l e R s m args below meth c D N ad cel ok nL Q q lv (.long r :: rest) σ') : Jd p l e R s m args below meth c D N ad cel ok nL Q pc lv st σ := by
  subst hq; subst hav; subst hst
  intro hok ls H locs hl hP hS
  obtain ⟨hx, hb, hml, hown, hts, hK, hap, -, -, hNW⟩ := C
  refine va_calll (va_runV (As := As) (rest := rest) ⟨hx, hb, hml, hown, hts⟩ hM ⟨callB_of n hts (gWB hy.1) rfl rfl rfl (hts _ hy.2.2.2.1) (hts _ hl0) hy.2.2.2.2 hR, hts _ hy.2.1, hts _ hy.2.2.1⟩ ⟨fun a U g0 mk z => ⟨z.1, WP_call z.2⟩, hyc ▸ va_recv hK hP (q0 := g) hcl (wd_get hg hc), fun U hU hW => ⟨rfl, by rw [hU]; exact hP, ⟨va_K.moved hW.alike hK, NW_warm hW hNW⟩, hok⟩⟩ rfl hn hl.1 rfl (lv_room hW8) hdg ⟨Nat.zero_le _, Nat.zero_le _⟩) hS (fun _ _ h9 => h9) (fun _ h9 => h9) (fun r1 u t H1 locs1 ht hvm hw hB hz hk1 hS => ?_)
  obtain ⟨hP1, hok1⟩ := hB
  rw [ht] at hP1
  subst hw; exact k hok1 ls H1 locs1 hl hP1 hS
theorem J_callLS (C : Cx p s m args meth c cc nL own D tys N ad ret) {y : MethodName} {cc' : ByteArray} {maxL fr lo n index q : Nat} {av : List Value} {r : Int64} {σ' : Sg} {As : List Value} (hM : ML l D tys N ad cel ok y cc' maxL fr lo av σ r σ') (hy : okS y cc' maxL (some .long) n) (hl0 : Cond.methodLink own index y ∈ WA) (hav : av = As) (hn : As.length = n) {st : List Value} (hst : st = As.reverse ++ (rest)) (hR : fr + 1 ≤ R.frames ∧ 8 + (maxL + 11) + lo ≤ R.locals) (hW8 : (rest.map fun v => v.category).sum ≤ 8) (hdg : decode cc pc = .ok (.invokestatic index, 3)) (hq : pc + 3 = q) (k : Jd p l e R s m args below meth c D N ad cel ok nL Q q lv (.long r :: rest) σ') : Jd p l e R s m args below meth c D N ad cel ok nL Q pc lv st σ := by
  subst hq; subst hav; subst hst
  intro hok ls H locs hl hP hS
  obtain ⟨hx, hb, hml, hown, hts, hK, hap, -, -, hNW⟩ := C
  refine va_calll (va_runS (As := av) (rest := rest) ⟨hx, hb, hml, hown, hts⟩ hM ⟨callB_of n hts (gWB hy.1) rfl rfl rfl (hts _ hy.2.2.1) (hts _ hl0) hy.2.2.2 hR, hts _ hy.2.1⟩ ⟨fun a U g0 mk z => ⟨z.1, WP_call z.2⟩, fun U hU hW => ⟨rfl, by rw [hU]; exact hP, ⟨va_K.moved hW.alike hK, NW_warm hW hNW⟩, hok⟩⟩ rfl hn hl.1 rfl (lv_room hW8) hdg ⟨Nat.zero_le _, Nat.zero_le _⟩) hS (fun _ _ h9 => h9) (fun _ h9 => h9) (fun r1 u t H1 locs1 ht hvm hw hB hz hk1 hS => ?_)
  obtain ⟨hP1, hok1⟩ := hB
  rw [ht] at hP1
  subst hw; exact k hok1 ls H1 locs1 hl hP1 hS
theorem J_callXV (C : Cx p s m args meth c cc nL own D tys N ad ret) {y : MethodName} {cc' : ByteArray} {maxL fr lo n index q : Nat} {av : List Value} {σ' : Sg} {As : List Value} (hM : MV l D tys N ad cel ok y cc' maxL fr lo av σ σ') (hy : okV y cc' maxL none n) (hl0 : Cond.methodLink own index y ∈ WA) {Cn : String} {T : u_T} {Nf ci g : Nat} {fs : List Value} (hg : g < N) (hc : cel σ g = .inr (ci, fs)) (hcl : vwCl[ci]? = some (Cn, T, Nf)) (hyc : y.cls = Cn) (hav : av = .ref (ad g) :: As) (hn : As.length = n) {st : List Value} (hst : st = As.reverse ++ (.ref (ad g) :: rest)) (hR : fr + 1 ≤ R.frames ∧ 8 + (maxL + 11) + lo ≤ R.locals) (hW8 : (rest.map fun v => v.category).sum ≤ 8) (hdg : decode cc pc = .ok (.invokevirtual index, 3)) (hq : pc + 3 = q) (k : Jd p l e R s m args below meth c D N ad cel ok nL Q q lv (rest) σ') : Jd p l e R s m args below meth c D N ad cel ok nL Q pc lv st σ := by
  subst hq; subst hav; subst hst
  intro hok ls H locs hl hP hS
  obtain ⟨hx, hb, hml, hown, hts, hK, hap, -, -, hNW⟩ := C
  refine va_callv (va_runV (As := As) (rest := rest) ⟨hx, hb, hml, hown, hts⟩ hM ⟨callB_of n hts (gWB hy.1) rfl rfl rfl (hts _ hy.2.2.2.1) (hts _ hl0) hy.2.2.2.2 hR, hts _ hy.2.1, hts _ hy.2.2.1⟩ ⟨fun a U g0 mk z => ⟨z.1, WP_call z.2⟩, hyc ▸ va_recv hK hP (q0 := g) hcl (wd_get hg hc), fun U hU hW => ⟨rfl, by rw [hU]; exact hP, ⟨va_K.moved hW.alike hK, NW_warm hW hNW⟩, hok⟩⟩ rfl hn hl.1 rfl (lv_room hW8) hdg ⟨Nat.zero_le _, Nat.zero_le _⟩) hS (fun _ _ h9 => h9) (fun _ h9 => h9) (fun u t H1 locs1 ht hvm hw hB hz hk1 hS => ?_)
  obtain ⟨hP1, hok1⟩ := hB
  rw [ht] at hP1
  exact k hok1 ls H1 locs1 hl hP1 hS
theorem J_callXS (C : Cx p s m args meth c cc nL own D tys N ad ret) {y : MethodName} {cc' : ByteArray} {maxL fr lo n index q : Nat} {av : List Value} {σ' : Sg} {As : List Value} (hM : MV l D tys N ad cel ok y cc' maxL fr lo av σ σ') (hy : okS y cc' maxL none n) (hl0 : Cond.methodLink own index y ∈ WA) (hav : av = As) (hn : As.length = n) {st : List Value} (hst : st = As.reverse ++ (rest)) (hR : fr + 1 ≤ R.frames ∧ 8 + (maxL + 11) + lo ≤ R.locals) (hW8 : (rest.map fun v => v.category).sum ≤ 8) (hdg : decode cc pc = .ok (.invokestatic index, 3)) (hq : pc + 3 = q) (k : Jd p l e R s m args below meth c D N ad cel ok nL Q q lv (rest) σ') : Jd p l e R s m args below meth c D N ad cel ok nL Q pc lv st σ := by
  subst hq; subst hav; subst hst
  intro hok ls H locs hl hP hS
  obtain ⟨hx, hb, hml, hown, hts, hK, hap, -, -, hNW⟩ := C
  refine va_callv (va_runS (As := av) (rest := rest) ⟨hx, hb, hml, hown, hts⟩ hM ⟨callB_of n hts (gWB hy.1) rfl rfl rfl (hts _ hy.2.2.1) (hts _ hl0) hy.2.2.2 hR, hts _ hy.2.1⟩ ⟨fun a U g0 mk z => ⟨z.1, WP_call z.2⟩, fun U hU hW => ⟨rfl, by rw [hU]; exact hP, ⟨va_K.moved hW.alike hK, NW_warm hW hNW⟩, hok⟩⟩ rfl hn hl.1 rfl (lv_room hW8) hdg ⟨Nat.zero_le _, Nat.zero_le _⟩) hS (fun _ _ h9 => h9) (fun _ h9 => h9) (fun u t H1 locs1 ht hvm hw hB hz hk1 hS => ?_)
  obtain ⟨hP1, hok1⟩ := hB
  rw [ht] at hP1
  exact k hok1 ls H1 locs1 hl hP1 hS
theorem J_callRV (C : Cx p s m args meth c cc nL own D tys N ad ret) {y : MethodName} {cc' : ByteArray} {maxL fr lo n index q : Nat} {ty : FieldType} {av : List Value} {r : Option Nat} {σ' : Sg} {As : List Value} (hM : MR l D tys N ad cel ok y cc' maxL ty fr lo av σ r σ') (hy : okV y cc' maxL (some ty) n) (hl0 : Cond.methodLink own index y ∈ WA) {Cn : String} {T : u_T} {Nf ci g : Nat} {fs : List Value} (hg : g < N) (hc : cel σ g = .inr (ci, fs)) (hcl : vwCl[ci]? = some (Cn, T, Nf)) (hyc : y.cls = Cn) (hav : av = .ref (ad g) :: As) (hn : As.length = n) {st : List Value} (hst : st = As.reverse ++ (.ref (ad g) :: rest)) (hR : fr + 1 ≤ R.frames ∧ 8 + (maxL + 11) + lo ≤ R.locals) (hW8 : (rest.map fun v => v.category).sum ≤ 8) (hdg : decode cc pc = .ok (.invokevirtual index, 3)) (hq : pc + 3 = q) (k : Jd p l e R s m args below meth c D N ad cel ok nL Q q lv (va_rf (r.map ad) :: rest) σ') : Jd p l e R s m args below meth c D N ad cel ok nL Q pc lv st σ := by
  subst hq; subst hav; subst hst
  intro hok ls H locs hl hP hS
  obtain ⟨hx, hb, hml, hown, hts, hK, hap, -, -, hNW⟩ := C
  refine va_callq (va_runV (As := As) (rest := rest) ⟨hx, hb, hml, hown, hts⟩ hM ⟨callB_of n hts (gWB hy.1) rfl rfl rfl (hts _ hy.2.2.2.1) (hts _ hl0) hy.2.2.2.2 hR, hts _ hy.2.1, hts _ hy.2.2.1⟩ ⟨fun a U g0 mk z => ⟨z.1, WP_call z.2⟩, hyc ▸ va_recv hK hP (q0 := g) hcl (wd_get hg hc), fun U hU hW => ⟨rfl, by rw [hU]; exact hP, ⟨va_K.moved hW.alike hK, NW_warm hW hNW⟩, hok⟩⟩ rfl hn hl.1 rfl (lv_room hW8) hdg ⟨Nat.zero_le _, Nat.zero_le _⟩) hS (fun _ _ h9 => h9) (fun _ h9 => h9) (fun r1 u t H1 locs1 ht hvm hw hB hz hk1 hS => ?_)
  obtain ⟨hP1, hok1⟩ := hB
  rw [ht] at hP1
  subst hw; exact k hok1 ls H1 locs1 hl hP1 hS
theorem J_callRS (C : Cx p s m args meth c cc nL own D tys N ad ret) {y : MethodName} {cc' : ByteArray} {maxL fr lo n index q : Nat} {ty : FieldType} {av : List Value} {r : Option Nat} {σ' : Sg} {As : List Value} (hM : MR l D tys N ad cel ok y cc' maxL ty fr lo av σ r σ') (hy : okS y cc' maxL (some ty) n) (hl0 : Cond.methodLink own index y ∈ WA) (hav : av = As) (hn : As.length = n) {st : List Value} (hst : st = As.reverse ++ (rest)) (hR : fr + 1 ≤ R.frames ∧ 8 + (maxL + 11) + lo ≤ R.locals) (hW8 : (rest.map fun v => v.category).sum ≤ 8) (hdg : decode cc pc = .ok (.invokestatic index, 3)) (hq : pc + 3 = q) (k : Jd p l e R s m args below meth c D N ad cel ok nL Q q lv (va_rf (r.map ad) :: rest) σ') : Jd p l e R s m args below meth c D N ad cel ok nL Q pc lv st σ := by
  subst hq; subst hav; subst hst
  intro hok ls H locs hl hP hS
  obtain ⟨hx, hb, hml, hown, hts, hK, hap, -, -, hNW⟩ := C
  refine va_callq (va_runS (As := av) (rest := rest) ⟨hx, hb, hml, hown, hts⟩ hM ⟨callB_of n hts (gWB hy.1) rfl rfl rfl (hts _ hy.2.2.1) (hts _ hl0) hy.2.2.2 hR, hts _ hy.2.1⟩ ⟨fun a U g0 mk z => ⟨z.1, WP_call z.2⟩, fun U hU hW => ⟨rfl, by rw [hU]; exact hP, ⟨va_K.moved hW.alike hK, NW_warm hW hNW⟩, hok⟩⟩ rfl hn hl.1 rfl (lv_room hW8) hdg ⟨Nat.zero_le _, Nat.zero_le _⟩) hS (fun _ _ h9 => h9) (fun _ h9 => h9) (fun r1 u t H1 locs1 ht hvm hw hB hz hk1 hS => ?_)
  obtain ⟨hP1, hok1⟩ := hB
  rw [ht] at hP1
  subst hw; exact k hok1 ls H1 locs1 hl hP1 hS
theorem J_st {st st' : List Value} (hst : st = st') (k : Jd p l e R s m args below meth c D N ad cel ok nL Q pc lv st' σ) : Jd p l e R s m args below meth c D N ad cel ok nL Q pc lv st σ := hst ▸ k
end JJ
theorem entI {l : Launch} {D : va_G} {tys : List (ClassId × FieldType)} {N : Nat} {ad : Nat → Nat} {cel : Sg → Nat → va_E} {ok : Sg → Prop} {y : MethodName} {cc : ByteArray} {maxL : Nat} {ty : FieldType} {fr lo : Nat} {av : List Value} {σ σ' : Sg} {r : Int32} (own : String) (hap : apN N ad) (hy : plainName y.cls = true) (hcl : y.cls = own) (hlen : (lg_sl av).length ≤ maxL) (K : ∀ (p : Program) (e : Env) (s : State) (m : MethodId) (args : Array Value) (below : List Frame) (meth : Method) (c : Code), Cx p s m args meth c cc maxL own D tys N ad (some ty) → Jd p l e (rmF fr lo) s m args below meth c D N ad cel ok maxL (MQ below (QI D tys N ad cel ok r σ') args s 0 0 (inA N ad)) 0 (lv_args 0 av) [] σ) : MI l D tys N ad cel ok y cc maxL ty fr lo av σ r σ' := by
  refine Met.ofW (cc := cc) (maxL := maxL) (ret := (some ty)) hy rfl ?_
  intro p e s m args below meth c s₁ B hml hv
  obtain ⟨rfl, hP, ⟨hK, hNW⟩, hok⟩ := hv
  have hts := atoms_spec B.pre
  subst hcl
  rw [lg_entry_eq]
  exact K p e s m _ below meth c ⟨B.exec, B.bytes, hml, findClass_of_methodNamed B.named, fun w hw => hts w (List.mem_cons_of_mem _ hw), hK, hap, B.returns, B.notSynchronized, hNW⟩ hok _ _ _ (lv_entry av hlen) hP va_S.rf
theorem entL {l : Launch} {D : va_G} {tys : List (ClassId × FieldType)} {N : Nat} {ad : Nat → Nat} {cel : Sg → Nat → va_E} {ok : Sg → Prop} {y : MethodName} {cc : ByteArray} {maxL : Nat} {fr lo : Nat} {av : List Value} {σ σ' : Sg} {r : Int64} (own : String) (hap : apN N ad) (hy : plainName y.cls = true) (hcl : y.cls = own) (hlen : (lg_sl av).length ≤ maxL) (K : ∀ (p : Program) (e : Env) (s : State) (m : MethodId) (args : Array Value) (below : List Frame) (meth : Method) (c : Code), Cx p s m args meth c cc maxL own D tys N ad (some .long) → Jd p l e (rmF fr lo) s m args below meth c D N ad cel ok maxL (MQ below (QL D tys N ad cel ok r σ') args s 0 0 (inA N ad)) 0 (lv_args 0 av) [] σ) : ML l D tys N ad cel ok y cc maxL fr lo av σ r σ' := by
  refine Met.ofW (cc := cc) (maxL := maxL) (ret := (some .long)) hy rfl ?_
  intro p e s m args below meth c s₁ B hml hv
  obtain ⟨rfl, hP, ⟨hK, hNW⟩, hok⟩ := hv
  have hts := atoms_spec B.pre
  subst hcl
  rw [lg_entry_eq]
  exact K p e s m _ below meth c ⟨B.exec, B.bytes, hml, findClass_of_methodNamed B.named, fun w hw => hts w (List.mem_cons_of_mem _ hw), hK, hap, B.returns, B.notSynchronized, hNW⟩ hok _ _ _ (lv_entry av hlen) hP va_S.rf
theorem entV {l : Launch} {D : va_G} {tys : List (ClassId × FieldType)} {N : Nat} {ad : Nat → Nat} {cel : Sg → Nat → va_E} {ok : Sg → Prop} {y : MethodName} {cc : ByteArray} {maxL : Nat} {fr lo : Nat} {av : List Value} {σ σ' : Sg}  (own : String) (hap : apN N ad) (hy : plainName y.cls = true) (hcl : y.cls = own) (hlen : (lg_sl av).length ≤ maxL) (K : ∀ (p : Program) (e : Env) (s : State) (m : MethodId) (args : Array Value) (below : List Frame) (meth : Method) (c : Code), Cx p s m args meth c cc maxL own D tys N ad none → Jd p l e (rmF fr lo) s m args below meth c D N ad cel ok maxL (MQ below (QV D tys N ad cel ok σ') args s 0 0 (inA N ad)) 0 (lv_args 0 av) [] σ) : MV l D tys N ad cel ok y cc maxL fr lo av σ σ' := by
  refine Met.ofW (cc := cc) (maxL := maxL) (ret := none) hy rfl ?_
  intro p e s m args below meth c s₁ B hml hv
  obtain ⟨rfl, hP, ⟨hK, hNW⟩, hok⟩ := hv
  have hts := atoms_spec B.pre
  subst hcl
  rw [lg_entry_eq]
  exact K p e s m _ below meth c ⟨B.exec, B.bytes, hml, findClass_of_methodNamed B.named, fun w hw => hts w (List.mem_cons_of_mem _ hw), hK, hap, B.returns, B.notSynchronized, hNW⟩ hok _ _ _ (lv_entry av hlen) hP va_S.rf
theorem entR {l : Launch} {D : va_G} {tys : List (ClassId × FieldType)} {N : Nat} {ad : Nat → Nat} {cel : Sg → Nat → va_E} {ok : Sg → Prop} {y : MethodName} {cc : ByteArray} {maxL : Nat} {ty : FieldType} {fr lo : Nat} {av : List Value} {σ σ' : Sg} {r : Option Nat} (own : String) (hap : apN N ad) (hy : plainName y.cls = true) (hcl : y.cls = own) (hlen : (lg_sl av).length ≤ maxL) (K : ∀ (p : Program) (e : Env) (s : State) (m : MethodId) (args : Array Value) (below : List Frame) (meth : Method) (c : Code), Cx p s m args meth c cc maxL own D tys N ad (some ty) → Jd p l e (rmF fr lo) s m args below meth c D N ad cel ok maxL (MQ below (QR D tys N ad cel ok r σ') args s 0 0 (inA N ad)) 0 (lv_args 0 av) [] σ) : MR l D tys N ad cel ok y cc maxL ty fr lo av σ r σ' := by
  refine Met.ofW (cc := cc) (maxL := maxL) (ret := (some ty)) hy rfl ?_
  intro p e s m args below meth c s₁ B hml hv
  obtain ⟨rfl, hP, ⟨hK, hNW⟩, hok⟩ := hv
  have hts := atoms_spec B.pre
  subst hcl
  rw [lg_entry_eq]
  exact K p e s m _ below meth c ⟨B.exec, B.bytes, hml, findClass_of_methodNamed B.named, fun w hw => hts w (List.mem_cons_of_mem _ hw), hK, hap, B.returns, B.notSynchronized, hNW⟩ hok _ _ _ (lv_entry av hlen) hP va_S.rf
end
section
def isI (q : Nat) : Prop := 5 ≤ q ∧ q < 38
def isS (q : Nat) : Prop := q = 3 ∨ q = 4
def isRA (q : Nat) : Prop := 71 ≤ q ∧ q < 74
def isLA (q : Nat) : Prop := 41 ≤ q ∧ q < 44
def stI (s j : Nat) : Nat := 7 * s - 2 + j
theorem isI_st {s : Nat} (h : isS s) (j : Nat) (hj : j < 7) : isI (stI s j) := by
  unfold isI stI
  rcases h with rfl | rfl <;> omega
def cLen (q : Nat) : Nat := if q < 11 then 40 else if q < 15 then 60 else if q < 18 then 40 else if q = 25 then 40 else if q = 32 then 40 else if q = 33 then 384 else if q = 41 then 14 else if q = 42 then 23 else if q = 43 then 23 else 6
def rLen (q : Nat) : Nat := if q = 71 then 6 else if q = 72 then 4 else 3
def rBase (q : Nat) : Nat := if q = 71 then 5 else if q = 72 then 11 else 15
def txO (σ : Sg) : Option Nat := if gR σ 2 = 0 then none else some (gR σ 2)
def celC (cI cR : ClassId) (ad : Nat → Nat) (σ : Sg) (q : Nat) : va_E :=
  if q = 0 then .inr (4, [.ref (ad 71), .ref (ad 72), .ref (ad 73), .ref (ad 1), .ref (ad 2), .ref (ad 18), .ref (ad (gR σ 0)), .ref (ad (gR σ 1)), .int (gS σ 8), .int (gS σ 9), .long (gL σ 10), .long (gL σ 11)])
  else if q = 1 then .inr (1, [va_re ad (txO σ), .int (gS σ 17), .int (gS σ 18)])
  else if q = 2 then .inr (2, [.ref (ad 33), .ref (ad 34), .ref (ad 35), .ref (ad 36), .ref (ad 37), .int (gS σ 37)])
  else if q < 5 then .inr (3, [.ref (ad (stI q 0)), .ref (ad (stI q 1)), .ref (ad (stI q 2)), .ref (ad (stI q 3)), .ref (ad (stI q 4)), .ref (ad (stI q 5)), .ref (ad (stI q 6)), .int (gS σ (16 * q + 7)), .int (gS σ (16 * q + 8)), .int (gS σ (16 * q + 9)), .int (gS σ (16 * q + 10)), .int (gS σ (16 * q + 11)), .int (gS σ (16 * q + 12)), .int (gS σ (16 * q + 13)), .int (gS σ (16 * q + 14))])
  else if q < 38 then .inr (0, [.ref (ad (q + 33)), .int (gS σ (16 * q + 1))])
  else if q < 71 then .inl (cI, cLen (q - 33), .inl (gA σ (q - 33)))
  else if q < 74 then .inl (cR, rLen q, .inr (.inr (.inr (.inr (fun j => some (ad (rBase q + j)))))))
  else .inl (cI, cLen (q - 33), .inl (gA σ (q - 33)))
def okC (σ : Sg) : Prop := isS (gR σ 0) ∧ isS (gR σ 1) ∧ (gR σ 2 = 0 ∨ isI (gR σ 2))
def tysC (cI cR : ClassId) : List (ClassId × FieldType) := [(cI, .int), (cR, .object "WokenYears$Ints")]
theorem gS_pS (σ : Sg) (k : Nat) (v : Int32) (j : Nat) : gS (pS σ k v) j = if j = k then v else gS σ j := rfl
theorem gS_pL (σ : Sg) (k : Nat) (v : Int64) (j : Nat) : gS (pL σ k v) j = gS σ j := rfl
theorem gS_pA (σ : Sg) (k : Nat) (f : Nat → Int32) (j : Nat) : gS (pA σ k f) j = gS σ j := rfl
theorem gS_pR (σ : Sg) (k v : Nat) (j : Nat) : gS (pR σ k v) j = gS σ j := rfl
theorem gL_pS (σ : Sg) (k : Nat) (v : Int32) (j : Nat) : gL (pS σ k v) j = gL σ j := rfl
theorem gL_pL (σ : Sg) (k : Nat) (v : Int64) (j : Nat) : gL (pL σ k v) j = if j = k then v else gL σ j := rfl
theorem gL_pA (σ : Sg) (k : Nat) (f : Nat → Int32) (j : Nat) : gL (pA σ k f) j = gL σ j := rfl
theorem gL_pR (σ : Sg) (k v : Nat) (j : Nat) : gL (pR σ k v) j = gL σ j := rfl
theorem gA_pS (σ : Sg) (k : Nat) (v : Int32) (j : Nat) : gA (pS σ k v) j = gA σ j := rfl
theorem gA_pL (σ : Sg) (k : Nat) (v : Int64) (j : Nat) : gA (pL σ k v) j = gA σ j := rfl
theorem gA_pA (σ : Sg) (k : Nat) (f : Nat → Int32) (j : Nat) : gA (pA σ k f) j = if j = k then f else gA σ j := rfl
theorem gA_pR (σ : Sg) (k v : Nat) (j : Nat) : gA (pR σ k v) j = gA σ j := rfl
theorem gR_pS (σ : Sg) (k : Nat) (v : Int32) (j : Nat) : gR (pS σ k v) j = gR σ j := rfl
theorem gR_pL (σ : Sg) (k : Nat) (v : Int64) (j : Nat) : gR (pL σ k v) j = gR σ j := rfl
theorem gR_pA (σ : Sg) (k : Nat) (f : Nat → Int32) (j : Nat) : gR (pA σ k f) j = gR σ j := rfl
theorem gR_pR (σ : Sg) (k v : Nat) (j : Nat) : gR (pR σ k v) j = if j = k then v else gR σ j := rfl
theorem celC_eq {cI cR : ClassId} {ad : Nat → Nat} {σ σ' : Sg} {x : Nat} (h1 : ∀ k, k < 16 → gS σ' (16 * x + k) = gS σ (16 * x + k)) (h2 : x = 0 → gL σ' = gL σ ∧ gR σ' 0 = gR σ 0 ∧ gR σ' 1 = gR σ 1) (h3 : x = 1 → gR σ' 2 = gR σ 2) (h4 : gA σ' (x - 33) = gA σ (x - 33)) : celC cI cR ad σ' x = celC cI cR ad σ x := by
  unfold celC txO
  by_cases e0 : x = 0
  · subst e0
    have a := h1 8 (by decide)
    have b := h1 9 (by decide)
    simp only [Nat.mul_zero, Nat.zero_add] at a b
    simp [a, b, (h2 rfl).1, (h2 rfl).2.1, (h2 rfl).2.2]
  · by_cases e1 : x = 1
    · subst e1
      have a := h1 1 (by decide)
      have b := h1 2 (by decide)
      simp only [Nat.mul_one, Nat.reduceAdd] at a b
      simp [a, b, h3 rfl]
    · by_cases e2 : x = 2
      · subst e2
        have a := h1 5 (by decide)
        simp only [Nat.reduceMul, Nat.reduceAdd] at a
        simp [a]
      · simp only [↓reduceIte, e0, e1, e2, h1 1 (by decide), h1 7 (by decide), h1 8 (by decide), h1 9 (by decide), h1 10 (by decide), h1 11 (by decide), h1 12 (by decide), h1 13 (by decide), h1 14 (by decide), h4]
theorem celC_pS {cI cR : ClassId} {ad : Nat → Nat} {σ : Sg} (g j : Nat) {v : Int32} (hj : j < 16) : ∀ x, x ≠ g → celC cI cR ad (pS σ (16 * g + j) v) x = celC cI cR ad σ x := fun x hx => celC_eq (fun k hk => by rw [gS_pS, if_neg (by omega)]) (fun _ => ⟨rfl, rfl, rfl⟩) (fun _ => rfl) rfl
theorem celC_pL {cI cR : ClassId} {ad : Nat → Nat} {σ : Sg} (j : Nat) {v : Int64} : ∀ x, x ≠ 0 → celC cI cR ad (pL σ j v) x = celC cI cR ad σ x := fun x hx => celC_eq (fun k hk => rfl) (fun h => absurd h hx) (fun _ => rfl) rfl
theorem celC_pR {cI cR : ClassId} {ad : Nat → Nat} {σ : Sg} (j : Nat) {v : Nat} (hj : j < 2) : ∀ x, x ≠ 0 → celC cI cR ad (pR σ j v) x = celC cI cR ad σ x := fun x hx => celC_eq (fun k hk => rfl) (fun h => absurd h hx) (fun _ => by rw [gR_pR, if_neg (by omega)]) rfl
theorem celC_pR2 {cI cR : ClassId} {ad : Nat → Nat} {σ : Sg} {v : Nat} : ∀ x, x ≠ 1 → celC cI cR ad (pR σ 2 v) x = celC cI cR ad σ x := fun x hx => celC_eq (fun k hk => rfl) (fun h => ⟨rfl, rfl, rfl⟩) (fun h => absurd h hx) rfl
theorem celC_pA {cI cR : ClassId} {ad : Nat → Nat} {σ : Sg} {g : Nat} {f : Nat → Int32} (hg : isI g) : ∀ x, x ≠ g + 33 → celC cI cR ad (pA σ g f) x = celC cI cR ad σ x := fun x hx => celC_eq (fun k hk => rfl) (fun h => ⟨rfl, rfl, rfl⟩) (fun h => rfl) (by
  rw [gA_pA, if_neg]
  have := hg.1
  omega)
theorem celC_I {cI cR : ClassId} {ad : Nat → Nat} {σ : Sg} {q : Nat} (h : isI q) : celC cI cR ad σ q = .inr (0, [.ref (ad (q + 33)), .int (gS σ (16 * q + 1))]) := by
  have h1 := h.1
  have h2 := h.2
  unfold celC
  rw [if_neg (by omega), if_neg (by omega), if_neg (by omega), if_neg (by omega), if_pos h2]
theorem celC_A {cI cR : ClassId} {ad : Nat → Nat} {σ : Sg} {q : Nat} (h : isI q) : celC cI cR ad σ (q + 33) = .inl (cI, cLen q, .inl (gA σ q)) := by
  have h1 := h.1
  have h2 := h.2
  unfold celC
  rw [if_neg (by omega), if_neg (by omega), if_neg (by omega), if_neg (by omega), if_neg (by omega), if_pos (by omega), Nat.add_sub_cancel]
theorem celC_R {cI cR : ClassId} {ad : Nat → Nat} {σ : Sg} {q : Nat} (h : isRA q) : celC cI cR ad σ q = .inl (cR, rLen q, .inr (.inr (.inr (.inr (fun j => some (ad (rBase q + j))))))) := by
  have h1 := h.1
  have h2 := h.2
  unfold celC
  rw [if_neg (by omega), if_neg (by omega), if_neg (by omega), if_neg (by omega), if_neg (by omega), if_neg (by omega), if_pos (by omega)]
theorem celC_L {cI cR : ClassId} {ad : Nat → Nat} {σ : Sg} {q : Nat} (h : isLA q) : celC cI cR ad σ (q + 33) = .inl (cI, cLen q, .inl (gA σ q)) := by
  have h1 := h.1
  have h2 := h.2
  unfold celC
  rw [if_neg (by omega), if_neg (by omega), if_neg (by omega), if_neg (by omega), if_neg (by omega), if_neg (by omega), if_neg (by omega), Nat.add_sub_cancel]
theorem celC_pAL {cI cR : ClassId} {ad : Nat → Nat} {σ : Sg} {g : Nat} {f : Nat → Int32} (hg : isLA g) : ∀ x, x ≠ g + 33 → celC cI cR ad (pA σ g f) x = celC cI cR ad σ x := fun x hx => celC_eq (fun k hk => rfl) (fun h => ⟨rfl, rfl, rfl⟩) (fun h => rfl) (by
  rw [gA_pA, if_neg]
  have := hg.1
  omega)
theorem celC_S {cI cR : ClassId} {ad : Nat → Nat} {σ : Sg} {q : Nat} (h : isS q) : celC cI cR ad σ q = .inr (3, [.ref (ad (stI q 0)), .ref (ad (stI q 1)), .ref (ad (stI q 2)), .ref (ad (stI q 3)), .ref (ad (stI q 4)), .ref (ad (stI q 5)), .ref (ad (stI q 6)), .int (gS σ (16 * q + 7)), .int (gS σ (16 * q + 8)), .int (gS σ (16 * q + 9)), .int (gS σ (16 * q + 10)), .int (gS σ (16 * q + 11)), .int (gS σ (16 * q + 12)), .int (gS σ (16 * q + 13)), .int (gS σ (16 * q + 14))]) := by
  rcases h with rfl | rfl <;> rfl
theorem okC_S {σ : Sg} {k : Nat} {v : Int32} (h : okC σ) : okC (pS σ k v) := h
theorem okC_L {σ : Sg} {k : Nat} {v : Int64} (h : okC σ) : okC (pL σ k v) := h
theorem okC_A {σ : Sg} {k : Nat} {f : Nat → Int32} (h : okC σ) : okC (pA σ k f) := h
theorem okC_R0 {σ : Sg} {v : Nat} (hv : isS v) (h : okC σ) : okC (pR σ 0 v) := ⟨hv, h.2.1, h.2.2⟩
theorem okC_R1 {σ : Sg} {v : Nat} (hv : isS v) (h : okC σ) : okC (pR σ 1 v) := ⟨h.1, hv, h.2.2⟩
theorem okC_R2 {σ : Sg} {v : Nat} (hv : isI v) (h : okC σ) : okC (pR σ 2 v) := ⟨h.1, h.2.1, Or.inr hv⟩
section JW
variable {p : Program} {l : Launch} {e : Env} {R : Room} {s : State} {m : MethodId} {args : Array Value} {below : List Frame} {meth : Method} {c : Code} {D : va_G} {cI cR : ClassId} {ad : Nat → Nat} {nL : Nat} {Q : State → Prop} {cc : ByteArray} {own : String} {ret : Option FieldType} {pc : Nat} {lv : List (Nat × Value)} {rest : List Value} {σ : Sg}
theorem JC_g_X0_cells (C : Cx p s m args meth c cc nL own D (tysC cI cR) 77 ad ret) {q index g : Nat} (ho : isI g) (hw : Cond.fieldLink own index "WokenYears$Ints" "cells" "[I" ∈ WA) (hdg : decode cc pc = .ok (.getfield index, 3)) (hq : pc + 3 = q) (k : Jd p l e R s m args below meth c D 77 ad (celC cI cR ad) okC nL Q q lv (.ref (ad (g + 33)) :: rest) σ) : Jd p l e R s m args below meth c D 77 ad (celC cI cR ad) okC nL Q pc lv (.ref (ad g) :: rest) σ := by
  exact J_get (Cn := RX0) (T := TX0) (Nf := 2) (ci := 0) C inX0 (Nat.lt_trans ho.2 (by decide)) (celC_I ho) rfl 0 (by decide) hw rfl hdg hq (fun hok => k)
theorem JC_g_X0_size (C : Cx p s m args meth c cc nL own D (tysC cI cR) 77 ad ret) {q index g : Nat} (ho : isI g) (hw : Cond.fieldLink own index "WokenYears$Ints" "size" "I" ∈ WA) (hdg : decode cc pc = .ok (.getfield index, 3)) (hq : pc + 3 = q) (k : Jd p l e R s m args below meth c D 77 ad (celC cI cR ad) okC nL Q q lv (.int (gS σ (16 * g + 1)) :: rest) σ) : Jd p l e R s m args below meth c D 77 ad (celC cI cR ad) okC nL Q pc lv (.ref (ad g) :: rest) σ := by
  exact J_get (Cn := RX0) (T := TX0) (Nf := 2) (ci := 0) C inX0 (Nat.lt_trans ho.2 (by decide)) (celC_I ho) rfl 1 (by decide) hw rfl hdg hq (fun hok => k)
theorem set16 {σ : Sg} {k : Nat} {v : Int32} : gS (pS σ k v) k = v := by rw [gS_pS, if_pos rfl]
theorem JC_p_X0_size (C : Cx p s m args meth c cc nL own D (tysC cI cR) 77 ad ret) {q index g : Nat} {v : Int32} (ho : isI g) (hw : Cond.fieldLink own index "WokenYears$Ints" "size" "I" ∈ WA) (hdg : decode cc pc = .ok (.putfield index, 3)) (hq : pc + 3 = q) (k : Jd p l e R s m args below meth c D 77 ad (celC cI cR ad) okC nL Q q lv rest (pS σ (16 * g + 1) v)) : Jd p l e R s m args below meth c D 77 ad (celC cI cR ad) okC nL Q pc lv (.int v :: .ref (ad g) :: rest) σ := by
  exact J_put (Cn := RX0) (T := TX0) (Nf := 2) (ci := 0) C inX0 tyX0 tyX0_ok nmX0 (Nat.lt_trans ho.2 (by decide)) (celC_I ho) rfl 1 (by decide) hw rfl rfl rfl rfl (Nat.le_of_ble_eq_true rfl) rfl (by rw [celC_I ho, set16]; rfl) (celC_pS g 1 (by decide)) okC_S hdg hq k
theorem JC_g_X2_text (C : Cx p s m args meth c cc nL own D (tysC cI cR) 77 ad ret) {q index : Nat}  (hw : Cond.fieldLink own index "WokenYears$Reader" "text" "LWokenYears$Ints;" ∈ WA) (hdg : decode cc pc = .ok (.getfield index, 3)) (hq : pc + 3 = q) (k : okC σ → Jd p l e R s m args below meth c D 77 ad (celC cI cR ad) okC nL Q q lv (va_re ad (txO σ) :: rest) σ) : Jd p l e R s m args below meth c D 77 ad (celC cI cR ad) okC nL Q pc lv (.ref (ad 1) :: rest) σ := by
  exact J_get (Cn := RX2) (T := TX2) (Nf := 3) (ci := 1) C inX2 (by decide) rfl rfl 0 (by decide) hw rfl hdg hq (fun hok => k hok)
theorem JC_g_X2_place (C : Cx p s m args meth c cc nL own D (tysC cI cR) 77 ad ret) {q index : Nat}  (hw : Cond.fieldLink own index "WokenYears$Reader" "place" "I" ∈ WA) (hdg : decode cc pc = .ok (.getfield index, 3)) (hq : pc + 3 = q) (k : Jd p l e R s m args below meth c D 77 ad (celC cI cR ad) okC nL Q q lv (.int (gS σ 17) :: rest) σ) : Jd p l e R s m args below meth c D 77 ad (celC cI cR ad) okC nL Q pc lv (.ref (ad 1) :: rest) σ := by
  exact J_get (Cn := RX2) (T := TX2) (Nf := 3) (ci := 1) C inX2 (by decide) rfl rfl 1 (by decide) hw rfl hdg hq (fun hok => k)
theorem JC_g_X2_good (C : Cx p s m args meth c cc nL own D (tysC cI cR) 77 ad ret) {q index : Nat}  (hw : Cond.fieldLink own index "WokenYears$Reader" "good" "Z" ∈ WA) (hdg : decode cc pc = .ok (.getfield index, 3)) (hq : pc + 3 = q) (k : Jd p l e R s m args below meth c D 77 ad (celC cI cR ad) okC nL Q q lv (.int (gS σ 18) :: rest) σ) : Jd p l e R s m args below meth c D 77 ad (celC cI cR ad) okC nL Q pc lv (.ref (ad 1) :: rest) σ := by
  exact J_get (Cn := RX2) (T := TX2) (Nf := 3) (ci := 1) C inX2 (by decide) rfl rfl 2 (by decide) hw rfl hdg hq (fun hok => k)
theorem JC_p_X2_text (C : Cx p s m args meth c cc nL own D (tysC cI cR) 77 ad ret) {q index : Nat} {v : Nat} (ho : isI v) (hw : Cond.fieldLink own index "WokenYears$Reader" "text" "LWokenYears$Ints;" ∈ WA) (hdg : decode cc pc = .ok (.putfield index, 3)) (hq : pc + 3 = q) (k : Jd p l e R s m args below meth c D 77 ad (celC cI cR ad) okC nL Q q lv rest (pR σ 2 v)) : Jd p l e R s m args below meth c D 77 ad (celC cI cR ad) okC nL Q pc lv (.ref (ad v) :: .ref (ad 1) :: rest) σ := by
  exact J_put (Cn := RX2) (T := TX2) (Nf := 3) (ci := 1) C inX2 tyX2 tyX2_ok nmX2 (by decide) rfl rfl 0 (by decide) hw rfl rfl rfl rfl (Nat.le_of_ble_eq_true rfl) rfl (by show Sum.inr (1, [va_re ad (txO (pR σ 2 v)), .int (gS σ 17), .int (gS σ 18)]) = _; rw [txO, gR_pR, if_pos rfl, if_neg (by have := ho.1; omega)]; rfl) celC_pR2 (okC_R2 ho) hdg hq k
theorem JC_p_X2_place (C : Cx p s m args meth c cc nL own D (tysC cI cR) 77 ad ret) {q index : Nat} {v : Int32}  (hw : Cond.fieldLink own index "WokenYears$Reader" "place" "I" ∈ WA) (hdg : decode cc pc = .ok (.putfield index, 3)) (hq : pc + 3 = q) (k : Jd p l e R s m args below meth c D 77 ad (celC cI cR ad) okC nL Q q lv rest (pS σ 17 v)) : Jd p l e R s m args below meth c D 77 ad (celC cI cR ad) okC nL Q pc lv (.int v :: .ref (ad 1) :: rest) σ := by
  exact J_put (Cn := RX2) (T := TX2) (Nf := 3) (ci := 1) C inX2 tyX2 tyX2_ok nmX2 (by decide) rfl rfl 1 (by decide) hw rfl rfl rfl rfl (Nat.le_of_ble_eq_true rfl) rfl rfl (celC_pS 1 1 (by decide)) okC_S hdg hq k
theorem JC_p_X2_good (C : Cx p s m args meth c cc nL own D (tysC cI cR) 77 ad ret) {q index : Nat} {v : Bool}  (hw : Cond.fieldLink own index "WokenYears$Reader" "good" "Z" ∈ WA) (hdg : decode cc pc = .ok (.putfield index, 3)) (hq : pc + 3 = q) (k : Jd p l e R s m args below meth c D 77 ad (celC cI cR ad) okC nL Q q lv rest (pS σ 18 (b2i v))) : Jd p l e R s m args below meth c D 77 ad (celC cI cR ad) okC nL Q pc lv (.int (b2i v) :: .ref (ad 1) :: rest) σ := by
  exact J_put (Cn := RX2) (T := TX2) (Nf := 3) (ci := 1) C inX2 tyX2 tyX2_ok nmX2 (by decide) rfl rfl 2 (by decide) hw rfl rfl (by cases v <;> rfl) (by cases v <;> rfl) (Nat.le_of_ble_eq_true rfl) rfl rfl (celC_pS 1 2 (by decide)) okC_S hdg hq k
theorem JC_g_X3_ends (C : Cx p s m args meth c cc nL own D (tysC cI cR) 77 ad ret) {q index : Nat}  (hw : Cond.fieldLink own index "WokenYears$Rounds" "ends" "LWokenYears$Ints;" ∈ WA) (hdg : decode cc pc = .ok (.getfield index, 3)) (hq : pc + 3 = q) (k : Jd p l e R s m args below meth c D 77 ad (celC cI cR ad) okC nL Q q lv (.ref (ad 33) :: rest) σ) : Jd p l e R s m args below meth c D 77 ad (celC cI cR ad) okC nL Q pc lv (.ref (ad 2) :: rest) σ := by
  exact J_get (Cn := RX3) (T := TX3) (Nf := 6) (ci := 2) C inX3 (by decide) rfl rfl 0 (by decide) hw rfl hdg hq (fun hok => k)
theorem JC_g_X3_order (C : Cx p s m args meth c cc nL own D (tysC cI cR) 77 ad ret) {q index : Nat}  (hw : Cond.fieldLink own index "WokenYears$Rounds" "order" "LWokenYears$Ints;" ∈ WA) (hdg : decode cc pc = .ok (.getfield index, 3)) (hq : pc + 3 = q) (k : Jd p l e R s m args below meth c D 77 ad (celC cI cR ad) okC nL Q q lv (.ref (ad 34) :: rest) σ) : Jd p l e R s m args below meth c D 77 ad (celC cI cR ad) okC nL Q pc lv (.ref (ad 2) :: rest) σ := by
  exact J_get (Cn := RX3) (T := TX3) (Nf := 6) (ci := 2) C inX3 (by decide) rfl rfl 1 (by decide) hw rfl hdg hq (fun hok => k)
theorem JC_g_X3_more (C : Cx p s m args meth c cc nL own D (tysC cI cR) 77 ad ret) {q index : Nat}  (hw : Cond.fieldLink own index "WokenYears$Rounds" "more" "LWokenYears$Ints;" ∈ WA) (hdg : decode cc pc = .ok (.getfield index, 3)) (hq : pc + 3 = q) (k : Jd p l e R s m args below meth c D 77 ad (celC cI cR ad) okC nL Q q lv (.ref (ad 35) :: rest) σ) : Jd p l e R s m args below meth c D 77 ad (celC cI cR ad) okC nL Q pc lv (.ref (ad 2) :: rest) σ := by
  exact J_get (Cn := RX3) (T := TX3) (Nf := 6) (ci := 2) C inX3 (by decide) rfl rfl 2 (by decide) hw rfl hdg hq (fun hok => k)
theorem JC_g_X3_spare (C : Cx p s m args meth c cc nL own D (tysC cI cR) 77 ad ret) {q index : Nat}  (hw : Cond.fieldLink own index "WokenYears$Rounds" "spare" "LWokenYears$Ints;" ∈ WA) (hdg : decode cc pc = .ok (.getfield index, 3)) (hq : pc + 3 = q) (k : Jd p l e R s m args below meth c D 77 ad (celC cI cR ad) okC nL Q q lv (.ref (ad 36) :: rest) σ) : Jd p l e R s m args below meth c D 77 ad (celC cI cR ad) okC nL Q pc lv (.ref (ad 2) :: rest) σ := by
  exact J_get (Cn := RX3) (T := TX3) (Nf := 6) (ci := 2) C inX3 (by decide) rfl rfl 3 (by decide) hw rfl hdg hq (fun hok => k)
theorem JC_g_X3_best (C : Cx p s m args meth c cc nL own D (tysC cI cR) 77 ad ret) {q index : Nat}  (hw : Cond.fieldLink own index "WokenYears$Rounds" "best" "LWokenYears$Ints;" ∈ WA) (hdg : decode cc pc = .ok (.getfield index, 3)) (hq : pc + 3 = q) (k : Jd p l e R s m args below meth c D 77 ad (celC cI cR ad) okC nL Q q lv (.ref (ad 37) :: rest) σ) : Jd p l e R s m args below meth c D 77 ad (celC cI cR ad) okC nL Q pc lv (.ref (ad 2) :: rest) σ := by
  exact J_get (Cn := RX3) (T := TX3) (Nf := 6) (ci := 2) C inX3 (by decide) rfl rfl 4 (by decide) hw rfl hdg hq (fun hok => k)
theorem JC_g_X3_bestWalked (C : Cx p s m args meth c cc nL own D (tysC cI cR) 77 ad ret) {q index : Nat}  (hw : Cond.fieldLink own index "WokenYears$Rounds" "bestWalked" "I" ∈ WA) (hdg : decode cc pc = .ok (.getfield index, 3)) (hq : pc + 3 = q) (k : Jd p l e R s m args below meth c D 77 ad (celC cI cR ad) okC nL Q q lv (.int (gS σ 37) :: rest) σ) : Jd p l e R s m args below meth c D 77 ad (celC cI cR ad) okC nL Q pc lv (.ref (ad 2) :: rest) σ := by
  exact J_get (Cn := RX3) (T := TX3) (Nf := 6) (ci := 2) C inX3 (by decide) rfl rfl 5 (by decide) hw rfl hdg hq (fun hok => k)
theorem JC_p_X3_bestWalked (C : Cx p s m args meth c cc nL own D (tysC cI cR) 77 ad ret) {q index : Nat} {v : Int32}  (hw : Cond.fieldLink own index "WokenYears$Rounds" "bestWalked" "I" ∈ WA) (hdg : decode cc pc = .ok (.putfield index, 3)) (hq : pc + 3 = q) (k : Jd p l e R s m args below meth c D 77 ad (celC cI cR ad) okC nL Q q lv rest (pS σ 37 v)) : Jd p l e R s m args below meth c D 77 ad (celC cI cR ad) okC nL Q pc lv (.int v :: .ref (ad 2) :: rest) σ := by
  exact J_put (Cn := RX3) (T := TX3) (Nf := 6) (ci := 2) C inX3 tyX3 tyX3_ok nmX3 (by decide) rfl rfl 5 (by decide) hw rfl rfl rfl rfl (Nat.le_of_ble_eq_true rfl) rfl rfl (celC_pS 2 5 (by decide)) okC_S hdg hq k
theorem JC_g_X4_kinds (C : Cx p s m args meth c cc nL own D (tysC cI cR) 77 ad ret) {q index g : Nat} (ho : isS g) (hw : Cond.fieldLink own index "WokenYears$Street" "kinds" "LWokenYears$Ints;" ∈ WA) (hdg : decode cc pc = .ok (.getfield index, 3)) (hq : pc + 3 = q) (k : Jd p l e R s m args below meth c D 77 ad (celC cI cR ad) okC nL Q q lv (.ref (ad (stI g 0)) :: rest) σ) : Jd p l e R s m args below meth c D 77 ad (celC cI cR ad) okC nL Q pc lv (.ref (ad g) :: rest) σ := by
  exact J_get (Cn := RX4) (T := TX4) (Nf := 15) (ci := 3) C inX4 (by rcases ho with rfl | rfl <;> decide) (celC_S ho) rfl 0 (by decide) hw rfl hdg hq (fun hok => k)
theorem JC_g_X4_wants (C : Cx p s m args meth c cc nL own D (tysC cI cR) 77 ad ret) {q index g : Nat} (ho : isS g) (hw : Cond.fieldLink own index "WokenYears$Street" "wants" "LWokenYears$Ints;" ∈ WA) (hdg : decode cc pc = .ok (.getfield index, 3)) (hq : pc + 3 = q) (k : Jd p l e R s m args below meth c D 77 ad (celC cI cR ad) okC nL Q q lv (.ref (ad (stI g 1)) :: rest) σ) : Jd p l e R s m args below meth c D 77 ad (celC cI cR ad) okC nL Q pc lv (.ref (ad g) :: rest) σ := by
  exact J_get (Cn := RX4) (T := TX4) (Nf := 15) (ci := 3) C inX4 (by rcases ho with rfl | rfl <;> decide) (celC_S ho) rfl 1 (by decide) hw rfl hdg hq (fun hok => k)
theorem JC_g_X4_firstDates (C : Cx p s m args meth c cc nL own D (tysC cI cR) 77 ad ret) {q index g : Nat} (ho : isS g) (hw : Cond.fieldLink own index "WokenYears$Street" "firstDates" "LWokenYears$Ints;" ∈ WA) (hdg : decode cc pc = .ok (.getfield index, 3)) (hq : pc + 3 = q) (k : Jd p l e R s m args below meth c D 77 ad (celC cI cR ad) okC nL Q q lv (.ref (ad (stI g 2)) :: rest) σ) : Jd p l e R s m args below meth c D 77 ad (celC cI cR ad) okC nL Q pc lv (.ref (ad g) :: rest) σ := by
  exact J_get (Cn := RX4) (T := TX4) (Nf := 15) (ci := 3) C inX4 (by rcases ho with rfl | rfl <;> decide) (celC_S ho) rfl 2 (by decide) hw rfl hdg hq (fun hok => k)
theorem JC_g_X4_dates (C : Cx p s m args meth c cc nL own D (tysC cI cR) 77 ad ret) {q index g : Nat} (ho : isS g) (hw : Cond.fieldLink own index "WokenYears$Street" "dates" "LWokenYears$Ints;" ∈ WA) (hdg : decode cc pc = .ok (.getfield index, 3)) (hq : pc + 3 = q) (k : Jd p l e R s m args below meth c D 77 ad (celC cI cR ad) okC nL Q q lv (.ref (ad (stI g 3)) :: rest) σ) : Jd p l e R s m args below meth c D 77 ad (celC cI cR ad) okC nL Q pc lv (.ref (ad g) :: rest) σ := by
  exact J_get (Cn := RX4) (T := TX4) (Nf := 15) (ci := 3) C inX4 (by rcases ho with rfl | rfl <;> decide) (celC_S ho) rfl 3 (by decide) hw rfl hdg hq (fun hok => k)
theorem JC_g_X4_tapped (C : Cx p s m args meth c cc nL own D (tysC cI cR) 77 ad ret) {q index g : Nat} (ho : isS g) (hw : Cond.fieldLink own index "WokenYears$Street" "tapped" "LWokenYears$Ints;" ∈ WA) (hdg : decode cc pc = .ok (.getfield index, 3)) (hq : pc + 3 = q) (k : Jd p l e R s m args below meth c D 77 ad (celC cI cR ad) okC nL Q q lv (.ref (ad (stI g 4)) :: rest) σ) : Jd p l e R s m args below meth c D 77 ad (celC cI cR ad) okC nL Q pc lv (.ref (ad g) :: rest) σ := by
  exact J_get (Cn := RX4) (T := TX4) (Nf := 15) (ci := 3) C inX4 (by rcases ho with rfl | rfl <;> decide) (celC_S ho) rfl 4 (by decide) hw rfl hdg hq (fun hok => k)
theorem JC_g_X4_years (C : Cx p s m args meth c cc nL own D (tysC cI cR) 77 ad ret) {q index g : Nat} (ho : isS g) (hw : Cond.fieldLink own index "WokenYears$Street" "years" "LWokenYears$Ints;" ∈ WA) (hdg : decode cc pc = .ok (.getfield index, 3)) (hq : pc + 3 = q) (k : Jd p l e R s m args below meth c D 77 ad (celC cI cR ad) okC nL Q q lv (.ref (ad (stI g 5)) :: rest) σ) : Jd p l e R s m args below meth c D 77 ad (celC cI cR ad) okC nL Q pc lv (.ref (ad g) :: rest) σ := by
  exact J_get (Cn := RX4) (T := TX4) (Nf := 15) (ci := 3) C inX4 (by rcases ho with rfl | rfl <;> decide) (celC_S ho) rfl 5 (by decide) hw rfl hdg hq (fun hok => k)
theorem JC_g_X4_deeds (C : Cx p s m args meth c cc nL own D (tysC cI cR) 77 ad ret) {q index g : Nat} (ho : isS g) (hw : Cond.fieldLink own index "WokenYears$Street" "deeds" "LWokenYears$Ints;" ∈ WA) (hdg : decode cc pc = .ok (.getfield index, 3)) (hq : pc + 3 = q) (k : Jd p l e R s m args below meth c D 77 ad (celC cI cR ad) okC nL Q q lv (.ref (ad (stI g 6)) :: rest) σ) : Jd p l e R s m args below meth c D 77 ad (celC cI cR ad) okC nL Q pc lv (.ref (ad g) :: rest) σ := by
  exact J_get (Cn := RX4) (T := TX4) (Nf := 15) (ci := 3) C inX4 (by rcases ho with rfl | rfl <;> decide) (celC_S ho) rfl 6 (by decide) hw rfl hdg hq (fun hok => k)
theorem JC_g_X4_size (C : Cx p s m args meth c cc nL own D (tysC cI cR) 77 ad ret) {q index g : Nat} (ho : isS g) (hw : Cond.fieldLink own index "WokenYears$Street" "size" "I" ∈ WA) (hdg : decode cc pc = .ok (.getfield index, 3)) (hq : pc + 3 = q) (k : Jd p l e R s m args below meth c D 77 ad (celC cI cR ad) okC nL Q q lv (.int (gS σ (16 * g + 7)) :: rest) σ) : Jd p l e R s m args below meth c D 77 ad (celC cI cR ad) okC nL Q pc lv (.ref (ad g) :: rest) σ := by
  exact J_get (Cn := RX4) (T := TX4) (Nf := 15) (ci := 3) C inX4 (by rcases ho with rfl | rfl <;> decide) (celC_S ho) rfl 7 (by decide) hw rfl hdg hq (fun hok => k)
theorem JC_p_X4_size (C : Cx p s m args meth c cc nL own D (tysC cI cR) 77 ad ret) {q index g : Nat} {v : Int32} (ho : isS g) (hw : Cond.fieldLink own index "WokenYears$Street" "size" "I" ∈ WA) (hdg : decode cc pc = .ok (.putfield index, 3)) (hq : pc + 3 = q) (k : Jd p l e R s m args below meth c D 77 ad (celC cI cR ad) okC nL Q q lv rest (pS σ (16 * g + 7) v)) : Jd p l e R s m args below meth c D 77 ad (celC cI cR ad) okC nL Q pc lv (.int v :: .ref (ad g) :: rest) σ := by
  exact J_put (Cn := RX4) (T := TX4) (Nf := 15) (ci := 3) C inX4 tyX4 tyX4_ok nmX4 (by rcases ho with rfl | rfl <;> decide) (celC_S ho) rfl 7 (by decide) hw rfl rfl rfl rfl (Nat.le_of_ble_eq_true rfl) rfl (by rw [celC_S ho]; rcases ho with rfl | rfl <;> rfl) (celC_pS g 7 (by decide)) okC_S hdg hq k
theorem JC_g_X4_quarrel (C : Cx p s m args meth c cc nL own D (tysC cI cR) 77 ad ret) {q index g : Nat} (ho : isS g) (hw : Cond.fieldLink own index "WokenYears$Street" "quarrel" "I" ∈ WA) (hdg : decode cc pc = .ok (.getfield index, 3)) (hq : pc + 3 = q) (k : Jd p l e R s m args below meth c D 77 ad (celC cI cR ad) okC nL Q q lv (.int (gS σ (16 * g + 8)) :: rest) σ) : Jd p l e R s m args below meth c D 77 ad (celC cI cR ad) okC nL Q pc lv (.ref (ad g) :: rest) σ := by
  exact J_get (Cn := RX4) (T := TX4) (Nf := 15) (ci := 3) C inX4 (by rcases ho with rfl | rfl <;> decide) (celC_S ho) rfl 8 (by decide) hw rfl hdg hq (fun hok => k)
theorem JC_p_X4_quarrel (C : Cx p s m args meth c cc nL own D (tysC cI cR) 77 ad ret) {q index g : Nat} {v : Int32} (ho : isS g) (hw : Cond.fieldLink own index "WokenYears$Street" "quarrel" "I" ∈ WA) (hdg : decode cc pc = .ok (.putfield index, 3)) (hq : pc + 3 = q) (k : Jd p l e R s m args below meth c D 77 ad (celC cI cR ad) okC nL Q q lv rest (pS σ (16 * g + 8) v)) : Jd p l e R s m args below meth c D 77 ad (celC cI cR ad) okC nL Q pc lv (.int v :: .ref (ad g) :: rest) σ := by
  exact J_put (Cn := RX4) (T := TX4) (Nf := 15) (ci := 3) C inX4 tyX4 tyX4_ok nmX4 (by rcases ho with rfl | rfl <;> decide) (celC_S ho) rfl 8 (by decide) hw rfl rfl rfl rfl (Nat.le_of_ble_eq_true rfl) rfl (by rw [celC_S ho]; rcases ho with rfl | rfl <;> rfl) (celC_pS g 8 (by decide)) okC_S hdg hq k
theorem JC_g_X4_firstFrost (C : Cx p s m args meth c cc nL own D (tysC cI cR) 77 ad ret) {q index g : Nat} (ho : isS g) (hw : Cond.fieldLink own index "WokenYears$Street" "firstFrost" "I" ∈ WA) (hdg : decode cc pc = .ok (.getfield index, 3)) (hq : pc + 3 = q) (k : Jd p l e R s m args below meth c D 77 ad (celC cI cR ad) okC nL Q q lv (.int (gS σ (16 * g + 9)) :: rest) σ) : Jd p l e R s m args below meth c D 77 ad (celC cI cR ad) okC nL Q pc lv (.ref (ad g) :: rest) σ := by
  exact J_get (Cn := RX4) (T := TX4) (Nf := 15) (ci := 3) C inX4 (by rcases ho with rfl | rfl <;> decide) (celC_S ho) rfl 9 (by decide) hw rfl hdg hq (fun hok => k)
theorem JC_p_X4_firstFrost (C : Cx p s m args meth c cc nL own D (tysC cI cR) 77 ad ret) {q index g : Nat} {v : Int32} (ho : isS g) (hw : Cond.fieldLink own index "WokenYears$Street" "firstFrost" "I" ∈ WA) (hdg : decode cc pc = .ok (.putfield index, 3)) (hq : pc + 3 = q) (k : Jd p l e R s m args below meth c D 77 ad (celC cI cR ad) okC nL Q q lv rest (pS σ (16 * g + 9) v)) : Jd p l e R s m args below meth c D 77 ad (celC cI cR ad) okC nL Q pc lv (.int v :: .ref (ad g) :: rest) σ := by
  exact J_put (Cn := RX4) (T := TX4) (Nf := 15) (ci := 3) C inX4 tyX4 tyX4_ok nmX4 (by rcases ho with rfl | rfl <;> decide) (celC_S ho) rfl 9 (by decide) hw rfl rfl rfl rfl (Nat.le_of_ble_eq_true rfl) rfl (by rw [celC_S ho]; rcases ho with rfl | rfl <;> rfl) (celC_pS g 9 (by decide)) okC_S hdg hq k
theorem JC_g_X4_frost (C : Cx p s m args meth c cc nL own D (tysC cI cR) 77 ad ret) {q index g : Nat} (ho : isS g) (hw : Cond.fieldLink own index "WokenYears$Street" "frost" "I" ∈ WA) (hdg : decode cc pc = .ok (.getfield index, 3)) (hq : pc + 3 = q) (k : Jd p l e R s m args below meth c D 77 ad (celC cI cR ad) okC nL Q q lv (.int (gS σ (16 * g + 10)) :: rest) σ) : Jd p l e R s m args below meth c D 77 ad (celC cI cR ad) okC nL Q pc lv (.ref (ad g) :: rest) σ := by
  exact J_get (Cn := RX4) (T := TX4) (Nf := 15) (ci := 3) C inX4 (by rcases ho with rfl | rfl <;> decide) (celC_S ho) rfl 10 (by decide) hw rfl hdg hq (fun hok => k)
theorem JC_p_X4_frost (C : Cx p s m args meth c cc nL own D (tysC cI cR) 77 ad ret) {q index g : Nat} {v : Int32} (ho : isS g) (hw : Cond.fieldLink own index "WokenYears$Street" "frost" "I" ∈ WA) (hdg : decode cc pc = .ok (.putfield index, 3)) (hq : pc + 3 = q) (k : Jd p l e R s m args below meth c D 77 ad (celC cI cR ad) okC nL Q q lv rest (pS σ (16 * g + 10) v)) : Jd p l e R s m args below meth c D 77 ad (celC cI cR ad) okC nL Q pc lv (.int v :: .ref (ad g) :: rest) σ := by
  exact J_put (Cn := RX4) (T := TX4) (Nf := 15) (ci := 3) C inX4 tyX4 tyX4_ok nmX4 (by rcases ho with rfl | rfl <;> decide) (celC_S ho) rfl 10 (by decide) hw rfl rfl rfl rfl (Nat.le_of_ble_eq_true rfl) rfl (by rw [celC_S ho]; rcases ho with rfl | rfl <;> rfl) (celC_pS g 10 (by decide)) okC_S hdg hq k
theorem JC_g_X4_minute (C : Cx p s m args meth c cc nL own D (tysC cI cR) 77 ad ret) {q index g : Nat} (ho : isS g) (hw : Cond.fieldLink own index "WokenYears$Street" "minute" "I" ∈ WA) (hdg : decode cc pc = .ok (.getfield index, 3)) (hq : pc + 3 = q) (k : Jd p l e R s m args below meth c D 77 ad (celC cI cR ad) okC nL Q q lv (.int (gS σ (16 * g + 11)) :: rest) σ) : Jd p l e R s m args below meth c D 77 ad (celC cI cR ad) okC nL Q pc lv (.ref (ad g) :: rest) σ := by
  exact J_get (Cn := RX4) (T := TX4) (Nf := 15) (ci := 3) C inX4 (by rcases ho with rfl | rfl <;> decide) (celC_S ho) rfl 11 (by decide) hw rfl hdg hq (fun hok => k)
theorem JC_p_X4_minute (C : Cx p s m args meth c cc nL own D (tysC cI cR) 77 ad ret) {q index g : Nat} {v : Int32} (ho : isS g) (hw : Cond.fieldLink own index "WokenYears$Street" "minute" "I" ∈ WA) (hdg : decode cc pc = .ok (.putfield index, 3)) (hq : pc + 3 = q) (k : Jd p l e R s m args below meth c D 77 ad (celC cI cR ad) okC nL Q q lv rest (pS σ (16 * g + 11) v)) : Jd p l e R s m args below meth c D 77 ad (celC cI cR ad) okC nL Q pc lv (.int v :: .ref (ad g) :: rest) σ := by
  exact J_put (Cn := RX4) (T := TX4) (Nf := 15) (ci := 3) C inX4 tyX4 tyX4_ok nmX4 (by rcases ho with rfl | rfl <;> decide) (celC_S ho) rfl 11 (by decide) hw rfl rfl rfl rfl (Nat.le_of_ble_eq_true rfl) rfl (by rw [celC_S ho]; rcases ho with rfl | rfl <;> rfl) (celC_pS g 11 (by decide)) okC_S hdg hq k
theorem JC_g_X4_night (C : Cx p s m args meth c cc nL own D (tysC cI cR) 77 ad ret) {q index g : Nat} (ho : isS g) (hw : Cond.fieldLink own index "WokenYears$Street" "night" "I" ∈ WA) (hdg : decode cc pc = .ok (.getfield index, 3)) (hq : pc + 3 = q) (k : Jd p l e R s m args below meth c D 77 ad (celC cI cR ad) okC nL Q q lv (.int (gS σ (16 * g + 12)) :: rest) σ) : Jd p l e R s m args below meth c D 77 ad (celC cI cR ad) okC nL Q pc lv (.ref (ad g) :: rest) σ := by
  exact J_get (Cn := RX4) (T := TX4) (Nf := 15) (ci := 3) C inX4 (by rcases ho with rfl | rfl <;> decide) (celC_S ho) rfl 12 (by decide) hw rfl hdg hq (fun hok => k)
theorem JC_p_X4_night (C : Cx p s m args meth c cc nL own D (tysC cI cR) 77 ad ret) {q index g : Nat} {v : Int32} (ho : isS g) (hw : Cond.fieldLink own index "WokenYears$Street" "night" "I" ∈ WA) (hdg : decode cc pc = .ok (.putfield index, 3)) (hq : pc + 3 = q) (k : Jd p l e R s m args below meth c D 77 ad (celC cI cR ad) okC nL Q q lv rest (pS σ (16 * g + 12) v)) : Jd p l e R s m args below meth c D 77 ad (celC cI cR ad) okC nL Q pc lv (.int v :: .ref (ad g) :: rest) σ := by
  exact J_put (Cn := RX4) (T := TX4) (Nf := 15) (ci := 3) C inX4 tyX4 tyX4_ok nmX4 (by rcases ho with rfl | rfl <;> decide) (celC_S ho) rfl 12 (by decide) hw rfl rfl rfl rfl (Nat.le_of_ble_eq_true rfl) rfl (by rw [celC_S ho]; rcases ho with rfl | rfl <;> rfl) (celC_pS g 12 (by decide)) okC_S hdg hq k
theorem JC_g_X4_place (C : Cx p s m args meth c cc nL own D (tysC cI cR) 77 ad ret) {q index g : Nat} (ho : isS g) (hw : Cond.fieldLink own index "WokenYears$Street" "place" "I" ∈ WA) (hdg : decode cc pc = .ok (.getfield index, 3)) (hq : pc + 3 = q) (k : Jd p l e R s m args below meth c D 77 ad (celC cI cR ad) okC nL Q q lv (.int (gS σ (16 * g + 13)) :: rest) σ) : Jd p l e R s m args below meth c D 77 ad (celC cI cR ad) okC nL Q pc lv (.ref (ad g) :: rest) σ := by
  exact J_get (Cn := RX4) (T := TX4) (Nf := 15) (ci := 3) C inX4 (by rcases ho with rfl | rfl <;> decide) (celC_S ho) rfl 13 (by decide) hw rfl hdg hq (fun hok => k)
theorem JC_p_X4_place (C : Cx p s m args meth c cc nL own D (tysC cI cR) 77 ad ret) {q index g : Nat} {v : Int32} (ho : isS g) (hw : Cond.fieldLink own index "WokenYears$Street" "place" "I" ∈ WA) (hdg : decode cc pc = .ok (.putfield index, 3)) (hq : pc + 3 = q) (k : Jd p l e R s m args below meth c D 77 ad (celC cI cR ad) okC nL Q q lv rest (pS σ (16 * g + 13) v)) : Jd p l e R s m args below meth c D 77 ad (celC cI cR ad) okC nL Q pc lv (.int v :: .ref (ad g) :: rest) σ := by
  exact J_put (Cn := RX4) (T := TX4) (Nf := 15) (ci := 3) C inX4 tyX4 tyX4_ok nmX4 (by rcases ho with rfl | rfl <;> decide) (celC_S ho) rfl 13 (by decide) hw rfl rfl rfl rfl (Nat.le_of_ble_eq_true rfl) rfl (by rw [celC_S ho]; rcases ho with rfl | rfl <;> rfl) (celC_pS g 13 (by decide)) okC_S hdg hq k
theorem JC_g_X4_purse (C : Cx p s m args meth c cc nL own D (tysC cI cR) 77 ad ret) {q index g : Nat} (ho : isS g) (hw : Cond.fieldLink own index "WokenYears$Street" "purse" "I" ∈ WA) (hdg : decode cc pc = .ok (.getfield index, 3)) (hq : pc + 3 = q) (k : Jd p l e R s m args below meth c D 77 ad (celC cI cR ad) okC nL Q q lv (.int (gS σ (16 * g + 14)) :: rest) σ) : Jd p l e R s m args below meth c D 77 ad (celC cI cR ad) okC nL Q pc lv (.ref (ad g) :: rest) σ := by
  exact J_get (Cn := RX4) (T := TX4) (Nf := 15) (ci := 3) C inX4 (by rcases ho with rfl | rfl <;> decide) (celC_S ho) rfl 14 (by decide) hw rfl hdg hq (fun hok => k)
theorem JC_p_X4_purse (C : Cx p s m args meth c cc nL own D (tysC cI cR) 77 ad ret) {q index g : Nat} {v : Int32} (ho : isS g) (hw : Cond.fieldLink own index "WokenYears$Street" "purse" "I" ∈ WA) (hdg : decode cc pc = .ok (.putfield index, 3)) (hq : pc + 3 = q) (k : Jd p l e R s m args below meth c D 77 ad (celC cI cR ad) okC nL Q q lv rest (pS σ (16 * g + 14) v)) : Jd p l e R s m args below meth c D 77 ad (celC cI cR ad) okC nL Q pc lv (.int v :: .ref (ad g) :: rest) σ := by
  exact J_put (Cn := RX4) (T := TX4) (Nf := 15) (ci := 3) C inX4 tyX4 tyX4_ok nmX4 (by rcases ho with rfl | rfl <;> decide) (celC_S ho) rfl 14 (by decide) hw rfl rfl rfl rfl (Nat.le_of_ble_eq_true rfl) rfl (by rw [celC_S ho]; rcases ho with rfl | rfl <;> rfl) (celC_pS g 14 (by decide)) okC_S hdg hq k
theorem JC_g_X5_rows (C : Cx p s m args meth c cc nL own D (tysC cI cR) 77 ad ret) {q index : Nat}  (hw : Cond.fieldLink own index "WokenYears" "rows" "[LWokenYears$Ints;" ∈ WA) (hdg : decode cc pc = .ok (.getfield index, 3)) (hq : pc + 3 = q) (k : Jd p l e R s m args below meth c D 77 ad (celC cI cR ad) okC nL Q q lv (.ref (ad 71) :: rest) σ) : Jd p l e R s m args below meth c D 77 ad (celC cI cR ad) okC nL Q pc lv (.ref (ad 0) :: rest) σ := by
  exact J_get (Cn := RX5) (T := TX5) (Nf := 12) (ci := 4) C inX5 (by decide) rfl rfl 0 (by decide) hw rfl hdg hq (fun hok => k)
theorem JC_g_X5_texts (C : Cx p s m args meth c cc nL own D (tysC cI cR) 77 ad ret) {q index : Nat}  (hw : Cond.fieldLink own index "WokenYears" "texts" "[LWokenYears$Ints;" ∈ WA) (hdg : decode cc pc = .ok (.getfield index, 3)) (hq : pc + 3 = q) (k : Jd p l e R s m args below meth c D 77 ad (celC cI cR ad) okC nL Q q lv (.ref (ad 72) :: rest) σ) : Jd p l e R s m args below meth c D 77 ad (celC cI cR ad) okC nL Q pc lv (.ref (ad 0) :: rest) σ := by
  exact J_get (Cn := RX5) (T := TX5) (Nf := 12) (ci := 4) C inX5 (by decide) rfl rfl 1 (by decide) hw rfl hdg hq (fun hok => k)
theorem JC_g_X5_kept (C : Cx p s m args meth c cc nL own D (tysC cI cR) 77 ad ret) {q index : Nat}  (hw : Cond.fieldLink own index "WokenYears" "kept" "[LWokenYears$Ints;" ∈ WA) (hdg : decode cc pc = .ok (.getfield index, 3)) (hq : pc + 3 = q) (k : Jd p l e R s m args below meth c D 77 ad (celC cI cR ad) okC nL Q q lv (.ref (ad 73) :: rest) σ) : Jd p l e R s m args below meth c D 77 ad (celC cI cR ad) okC nL Q pc lv (.ref (ad 0) :: rest) σ := by
  exact J_get (Cn := RX5) (T := TX5) (Nf := 12) (ci := 4) C inX5 (by decide) rfl rfl 2 (by decide) hw rfl hdg hq (fun hok => k)
theorem JC_g_X5_reader (C : Cx p s m args meth c cc nL own D (tysC cI cR) 77 ad ret) {q index : Nat}  (hw : Cond.fieldLink own index "WokenYears" "reader" "LWokenYears$Reader;" ∈ WA) (hdg : decode cc pc = .ok (.getfield index, 3)) (hq : pc + 3 = q) (k : Jd p l e R s m args below meth c D 77 ad (celC cI cR ad) okC nL Q q lv (.ref (ad 1) :: rest) σ) : Jd p l e R s m args below meth c D 77 ad (celC cI cR ad) okC nL Q pc lv (.ref (ad 0) :: rest) σ := by
  exact J_get (Cn := RX5) (T := TX5) (Nf := 12) (ci := 4) C inX5 (by decide) rfl rfl 3 (by decide) hw rfl hdg hq (fun hok => k)
theorem JC_g_X5_rounds (C : Cx p s m args meth c cc nL own D (tysC cI cR) 77 ad ret) {q index : Nat}  (hw : Cond.fieldLink own index "WokenYears" "rounds" "LWokenYears$Rounds;" ∈ WA) (hdg : decode cc pc = .ok (.getfield index, 3)) (hq : pc + 3 = q) (k : Jd p l e R s m args below meth c D 77 ad (celC cI cR ad) okC nL Q q lv (.ref (ad 2) :: rest) σ) : Jd p l e R s m args below meth c D 77 ad (celC cI cR ad) okC nL Q pc lv (.ref (ad 0) :: rest) σ := by
  exact J_get (Cn := RX5) (T := TX5) (Nf := 12) (ci := 4) C inX5 (by decide) rfl rfl 4 (by decide) hw rfl hdg hq (fun hok => k)
theorem JC_g_X5_findings (C : Cx p s m args meth c cc nL own D (tysC cI cR) 77 ad ret) {q index : Nat}  (hw : Cond.fieldLink own index "WokenYears" "findings" "LWokenYears$Ints;" ∈ WA) (hdg : decode cc pc = .ok (.getfield index, 3)) (hq : pc + 3 = q) (k : Jd p l e R s m args below meth c D 77 ad (celC cI cR ad) okC nL Q q lv (.ref (ad 18) :: rest) σ) : Jd p l e R s m args below meth c D 77 ad (celC cI cR ad) okC nL Q pc lv (.ref (ad 0) :: rest) σ := by
  exact J_get (Cn := RX5) (T := TX5) (Nf := 12) (ci := 4) C inX5 (by decide) rfl rfl 5 (by decide) hw rfl hdg hq (fun hok => k)
theorem JC_g_X5_street (C : Cx p s m args meth c cc nL own D (tysC cI cR) 77 ad ret) {q index : Nat}  (hw : Cond.fieldLink own index "WokenYears" "street" "LWokenYears$Street;" ∈ WA) (hdg : decode cc pc = .ok (.getfield index, 3)) (hq : pc + 3 = q) (k : isS (gR σ 0) → Jd p l e R s m args below meth c D 77 ad (celC cI cR ad) okC nL Q q lv (.ref (ad (gR σ 0)) :: rest) σ) : Jd p l e R s m args below meth c D 77 ad (celC cI cR ad) okC nL Q pc lv (.ref (ad 0) :: rest) σ := by
  exact J_get (Cn := RX5) (T := TX5) (Nf := 12) (ci := 4) C inX5 (by decide) rfl rfl 6 (by decide) hw rfl hdg hq (fun hok => k hok.1)
theorem JC_g_X5_draft (C : Cx p s m args meth c cc nL own D (tysC cI cR) 77 ad ret) {q index : Nat}  (hw : Cond.fieldLink own index "WokenYears" "draft" "LWokenYears$Street;" ∈ WA) (hdg : decode cc pc = .ok (.getfield index, 3)) (hq : pc + 3 = q) (k : isS (gR σ 1) → Jd p l e R s m args below meth c D 77 ad (celC cI cR ad) okC nL Q q lv (.ref (ad (gR σ 1)) :: rest) σ) : Jd p l e R s m args below meth c D 77 ad (celC cI cR ad) okC nL Q pc lv (.ref (ad 0) :: rest) σ := by
  exact J_get (Cn := RX5) (T := TX5) (Nf := 12) (ci := 4) C inX5 (by decide) rfl rfl 7 (by decide) hw rfl hdg hq (fun hok => k hok.2.1)
theorem JC_p_X5_street (C : Cx p s m args meth c cc nL own D (tysC cI cR) 77 ad ret) {q index : Nat} {v : Nat} (ho : isS v) (hw : Cond.fieldLink own index "WokenYears" "street" "LWokenYears$Street;" ∈ WA) (hdg : decode cc pc = .ok (.putfield index, 3)) (hq : pc + 3 = q) (k : Jd p l e R s m args below meth c D 77 ad (celC cI cR ad) okC nL Q q lv rest (pR σ 0 v)) : Jd p l e R s m args below meth c D 77 ad (celC cI cR ad) okC nL Q pc lv (.ref (ad v) :: .ref (ad 0) :: rest) σ := by
  exact J_put (Cn := RX5) (T := TX5) (Nf := 12) (ci := 4) C inX5 tyX5 tyX5_ok nmX5 (by decide) rfl rfl 6 (by decide) hw rfl rfl rfl rfl (Nat.le_of_ble_eq_true rfl) rfl rfl (celC_pR 0 (by decide)) (okC_R0 ho) hdg hq k
theorem JC_p_X5_draft (C : Cx p s m args meth c cc nL own D (tysC cI cR) 77 ad ret) {q index : Nat} {v : Nat} (ho : isS v) (hw : Cond.fieldLink own index "WokenYears" "draft" "LWokenYears$Street;" ∈ WA) (hdg : decode cc pc = .ok (.putfield index, 3)) (hq : pc + 3 = q) (k : Jd p l e R s m args below meth c D 77 ad (celC cI cR ad) okC nL Q q lv rest (pR σ 1 v)) : Jd p l e R s m args below meth c D 77 ad (celC cI cR ad) okC nL Q pc lv (.ref (ad v) :: .ref (ad 0) :: rest) σ := by
  exact J_put (Cn := RX5) (T := TX5) (Nf := 12) (ci := 4) C inX5 tyX5 tyX5_ok nmX5 (by decide) rfl rfl 7 (by decide) hw rfl rfl rfl rfl (Nat.le_of_ble_eq_true rfl) rfl rfl (celC_pR 1 (by decide)) (okC_R1 ho) hdg hq k
theorem JC_g_X5_finding (C : Cx p s m args meth c cc nL own D (tysC cI cR) 77 ad ret) {q index : Nat}  (hw : Cond.fieldLink own index "WokenYears" "finding" "I" ∈ WA) (hdg : decode cc pc = .ok (.getfield index, 3)) (hq : pc + 3 = q) (k : Jd p l e R s m args below meth c D 77 ad (celC cI cR ad) okC nL Q q lv (.int (gS σ 8) :: rest) σ) : Jd p l e R s m args below meth c D 77 ad (celC cI cR ad) okC nL Q pc lv (.ref (ad 0) :: rest) σ := by
  exact J_get (Cn := RX5) (T := TX5) (Nf := 12) (ci := 4) C inX5 (by decide) rfl rfl 8 (by decide) hw rfl hdg hq (fun hok => k)
theorem JC_p_X5_finding (C : Cx p s m args meth c cc nL own D (tysC cI cR) 77 ad ret) {q index : Nat} {v : Int32}  (hw : Cond.fieldLink own index "WokenYears" "finding" "I" ∈ WA) (hdg : decode cc pc = .ok (.putfield index, 3)) (hq : pc + 3 = q) (k : Jd p l e R s m args below meth c D 77 ad (celC cI cR ad) okC nL Q q lv rest (pS σ 8 v)) : Jd p l e R s m args below meth c D 77 ad (celC cI cR ad) okC nL Q pc lv (.int v :: .ref (ad 0) :: rest) σ := by
  exact J_put (Cn := RX5) (T := TX5) (Nf := 12) (ci := 4) C inX5 tyX5 tyX5_ok nmX5 (by decide) rfl rfl 8 (by decide) hw rfl rfl rfl rfl (Nat.le_of_ble_eq_true rfl) rfl rfl (celC_pS 0 8 (by decide)) okC_S hdg hq k
theorem JC_g_X5_asked (C : Cx p s m args meth c cc nL own D (tysC cI cR) 77 ad ret) {q index : Nat}  (hw : Cond.fieldLink own index "WokenYears" "asked" "I" ∈ WA) (hdg : decode cc pc = .ok (.getfield index, 3)) (hq : pc + 3 = q) (k : Jd p l e R s m args below meth c D 77 ad (celC cI cR ad) okC nL Q q lv (.int (gS σ 9) :: rest) σ) : Jd p l e R s m args below meth c D 77 ad (celC cI cR ad) okC nL Q pc lv (.ref (ad 0) :: rest) σ := by
  exact J_get (Cn := RX5) (T := TX5) (Nf := 12) (ci := 4) C inX5 (by decide) rfl rfl 9 (by decide) hw rfl hdg hq (fun hok => k)
theorem JC_p_X5_asked (C : Cx p s m args meth c cc nL own D (tysC cI cR) 77 ad ret) {q index : Nat} {v : Int32}  (hw : Cond.fieldLink own index "WokenYears" "asked" "I" ∈ WA) (hdg : decode cc pc = .ok (.putfield index, 3)) (hq : pc + 3 = q) (k : Jd p l e R s m args below meth c D 77 ad (celC cI cR ad) okC nL Q q lv rest (pS σ 9 v)) : Jd p l e R s m args below meth c D 77 ad (celC cI cR ad) okC nL Q pc lv (.int v :: .ref (ad 0) :: rest) σ := by
  exact J_put (Cn := RX5) (T := TX5) (Nf := 12) (ci := 4) C inX5 tyX5 tyX5_ok nmX5 (by decide) rfl rfl 9 (by decide) hw rfl rfl rfl rfl (Nat.le_of_ble_eq_true rfl) rfl rfl (celC_pS 0 9 (by decide)) okC_S hdg hq k
theorem JC_g_X5_upper (C : Cx p s m args meth c cc nL own D (tysC cI cR) 77 ad ret) {q index : Nat}  (hw : Cond.fieldLink own index "WokenYears" "upper" "J" ∈ WA) (hdg : decode cc pc = .ok (.getfield index, 3)) (hq : pc + 3 = q) (k : Jd p l e R s m args below meth c D 77 ad (celC cI cR ad) okC nL Q q lv (.long (gL σ 10) :: rest) σ) : Jd p l e R s m args below meth c D 77 ad (celC cI cR ad) okC nL Q pc lv (.ref (ad 0) :: rest) σ := by
  exact J_get (Cn := RX5) (T := TX5) (Nf := 12) (ci := 4) C inX5 (by decide) rfl rfl 10 (by decide) hw rfl hdg hq (fun hok => k)
theorem JC_p_X5_upper (C : Cx p s m args meth c cc nL own D (tysC cI cR) 77 ad ret) {q index : Nat} {v : Int64}  (hw : Cond.fieldLink own index "WokenYears" "upper" "J" ∈ WA) (hdg : decode cc pc = .ok (.putfield index, 3)) (hq : pc + 3 = q) (k : Jd p l e R s m args below meth c D 77 ad (celC cI cR ad) okC nL Q q lv rest (pL σ 10 v)) : Jd p l e R s m args below meth c D 77 ad (celC cI cR ad) okC nL Q pc lv (.long v :: .ref (ad 0) :: rest) σ := by
  exact J_put (Cn := RX5) (T := TX5) (Nf := 12) (ci := 4) C inX5 tyX5 tyX5_ok nmX5 (by decide) rfl rfl 10 (by decide) hw rfl rfl rfl rfl (Nat.le_of_ble_eq_true rfl) rfl rfl (celC_pL 10) okC_L hdg hq k
theorem JC_g_X5_lower (C : Cx p s m args meth c cc nL own D (tysC cI cR) 77 ad ret) {q index : Nat}  (hw : Cond.fieldLink own index "WokenYears" "lower" "J" ∈ WA) (hdg : decode cc pc = .ok (.getfield index, 3)) (hq : pc + 3 = q) (k : Jd p l e R s m args below meth c D 77 ad (celC cI cR ad) okC nL Q q lv (.long (gL σ 11) :: rest) σ) : Jd p l e R s m args below meth c D 77 ad (celC cI cR ad) okC nL Q pc lv (.ref (ad 0) :: rest) σ := by
  exact J_get (Cn := RX5) (T := TX5) (Nf := 12) (ci := 4) C inX5 (by decide) rfl rfl 11 (by decide) hw rfl hdg hq (fun hok => k)
theorem JC_p_X5_lower (C : Cx p s m args meth c cc nL own D (tysC cI cR) 77 ad ret) {q index : Nat} {v : Int64}  (hw : Cond.fieldLink own index "WokenYears" "lower" "J" ∈ WA) (hdg : decode cc pc = .ok (.putfield index, 3)) (hq : pc + 3 = q) (k : Jd p l e R s m args below meth c D 77 ad (celC cI cR ad) okC nL Q q lv rest (pL σ 11 v)) : Jd p l e R s m args below meth c D 77 ad (celC cI cR ad) okC nL Q pc lv (.long v :: .ref (ad 0) :: rest) σ := by
  exact J_put (Cn := RX5) (T := TX5) (Nf := 12) (ci := 4) C inX5 tyX5 tyX5_ok nmX5 (by decide) rfl rfl 11 (by decide) hw rfl rfl rfl rfl (Nat.le_of_ble_eq_true rfl) rfl rfl (celC_pL 11) okC_L hdg hq k
theorem JC_iald (C : Cx p s m args meth c cc nL own D (tysC cI cR) 77 ad ret) {q g : Nat} {i : Int32} {O : Type} {X : Option O} {out : O} (ho : isI g) (h : ck (inB i (cLen g)) X = some out) (hdg : decode cc pc = .ok (.iaload, 1)) (hq : pc + 1 = q) (k : X = some out → Jd p l e R s m args below meth c D 77 ad (celC cI cR ad) okC nL Q q lv (.int (gA σ g i.toNatClampNeg) :: rest) σ) : Jd p l e R s m args below meth c D 77 ad (celC cI cR ad) okC nL Q pc lv (.int i :: .ref (ad (g + 33)) :: rest) σ := J_iald (t0 := 0) C (by have := ho.2; omega) (celC_A ho) rfl h hdg hq k
theorem JC_iast (C : Cx p s m args meth c cc nL own D (tysC cI cR) 77 ad ret) {q g : Nat} {i x : Int32} {O : Type} {X : Option O} {out : O} (ho : isI g) (h : ck (inB i (cLen g)) X = some out) (hdg : decode cc pc = .ok (.iastore, 1)) (hq : pc + 1 = q) (k : X = some out → Jd p l e R s m args below meth c D 77 ad (celC cI cR ad) okC nL Q q lv rest (pA σ g (upd (gA σ g) i.toNatClampNeg x))) : Jd p l e R s m args below meth c D 77 ad (celC cI cR ad) okC nL Q pc lv (.int x :: .int i :: .ref (ad (g + 33)) :: rest) σ := J_iast (t0 := 0) C (by have := ho.2; omega) (celC_A ho) rfl h (by rw [celC_A ho, gA_pA, if_pos rfl]) (celC_pA ho) okC_A hdg hq k
theorem JC_alen (C : Cx p s m args meth c cc nL own D (tysC cI cR) 77 ad ret) {q g : Nat} (ho : isI g) (hdg : decode cc pc = .ok (.arraylength, 1)) (hq : pc + 1 = q) (k : Jd p l e R s m args below meth c D 77 ad (celC cI cR ad) okC nL Q q lv (.int (nI (cLen g)) :: rest) σ) : Jd p l e R s m args below meth c D 77 ad (celC cI cR ad) okC nL Q pc lv (.ref (ad (g + 33)) :: rest) σ := J_alen (t0 := 0) C (by have := ho.2; omega) (celC_A ho) rfl hdg hq k
theorem JC_ralen (C : Cx p s m args meth c cc nL own D (tysC cI cR) 77 ad ret) {q g : Nat} (ho : isRA g) (hdg : decode cc pc = .ok (.arraylength, 1)) (hq : pc + 1 = q) (k : Jd p l e R s m args below meth c D 77 ad (celC cI cR ad) okC nL Q q lv (.int (nI (rLen g)) :: rest) σ) : Jd p l e R s m args below meth c D 77 ad (celC cI cR ad) okC nL Q pc lv (.ref (ad g) :: rest) σ := J_alen (t0 := 1) C (Nat.lt_trans ho.2 (by decide)) (celC_R ho) rfl hdg hq k
theorem isI_of {g : Nat} {i : Int32} (ho : isRA g) (h : inB i (rLen g) = true) : isI (rBase g + i.toNatClampNeg) := by
  simp only [inB, Bool.and_eq_true, Bool.not_eq_true', decide_eq_false_iff_not, decide_eq_true_eq] at h
  have h2 := h.2
  have h3 := ho.1
  have h4 := ho.2
  unfold rLen at h2
  unfold isI rBase
  by_cases e1 : g = 71
  · rw [if_pos e1] at h2 ⊢
    omega
  · by_cases e2 : g = 72
    · rw [if_neg e1, if_pos e2] at h2 ⊢
      omega
    · rw [if_neg e1, if_neg e2] at h2 ⊢
      omega
theorem JC_aald (C : Cx p s m args meth c cc nL own D (tysC cI cR) 77 ad ret) {q g : Nat} {i : Int32} {O : Type} {X : Option O} {out : O} (ho : isRA g) (h : ck (inB i (rLen g)) X = some out) (hdg : decode cc pc = .ok (.aaload, 1)) (hq : pc + 1 = q) (k : isI (rBase g + i.toNatClampNeg) → X = some out → Jd p l e R s m args below meth c D 77 ad (celC cI cR ad) okC nL Q q lv (.ref (ad (rBase g + i.toNatClampNeg)) :: rest) σ) : Jd p l e R s m args below meth c D 77 ad (celC cI cR ad) okC nL Q pc lv (.int i :: .ref (ad g) :: rest) σ := J_aald (t0 := 1) (f := fun j => rBase g + j) C (Nat.lt_trans ho.2 (by decide)) (celC_R ho) rfl h hdg hq (fun hb => k (isI_of ho hb))
def acB (sp dp n : Int32) (n1 n2 : Nat) : Bool := !(decide (sp < 0)) && !(decide (dp < 0)) && !(decide (n < 0)) && decide (sp.toNatClampNeg + n.toNatClampNeg ≤ n1) && decide (dp.toNatClampNeg + n.toNatClampNeg ≤ n2)
theorem JC_acopy (C : Cx p s m args meth c cc nL own D (tysC cI cR) 77 ad ret) {q g1 g2 index : Nat} {sp dp n : Int32} {O : Type} {X : Option O} {out : O} (hl0 : Cond.methodLink own index arraycopyName ∈ WA) (hnat : Cond.native arraycopyName ∈ WA) (hstt : Cond.static arraycopyName ∈ WA) (ho1 : isI g1) (ho2 : isI g2) (h : ck (acB sp dp n (cLen g1) (cLen g2)) X = some out) (hf : 1 ≤ R.frames) (hlo : (rest.map fun v => v.category).sum + (nativeFrameWords "java/lang/System" "arraycopy" 5 + 11) ≤ R.locals) (hdg : decode cc pc = .ok (.invokestatic index, 3)) (hq : pc + 3 = q) (k : X = some out → Jd p l e R s m args below meth c D 77 ad (celC cI cR ad) okC nL Q q lv rest (pA σ g2 (va_cpy (gA σ g1) (gA σ g2) sp.toNatClampNeg dp.toNatClampNeg n.toNatClampNeg))) : Jd p l e R s m args below meth c D 77 ad (celC cI cR ad) okC nL Q pc lv (.int n :: .int dp :: .ref (ad (g2 + 33)) :: .int sp :: .ref (ad (g1 + 33)) :: rest) σ := J_acopy (t0 := 0) (t1 := 0) C hl0 hnat hstt kZ_RJ10 (by have := ho1.2; omega) (by have := ho2.2; omega) (celC_A ho1) (celC_A ho2) rfl rfl h (by rw [celC_A ho2, gA_pA, if_pos rfl]) (celC_pA ho2) okC_A hf hlo hdg hq k
theorem JL_iald (C : Cx p s m args meth c cc nL own D (tysC cI cR) 77 ad ret) {q g : Nat} {i : Int32} {O : Type} {X : Option O} {out : O} (ho : isLA g) (h : ck (inB i (cLen g)) X = some out) (hdg : decode cc pc = .ok (.iaload, 1)) (hq : pc + 1 = q) (k : X = some out → Jd p l e R s m args below meth c D 77 ad (celC cI cR ad) okC nL Q q lv (.int (gA σ g i.toNatClampNeg) :: rest) σ) : Jd p l e R s m args below meth c D 77 ad (celC cI cR ad) okC nL Q pc lv (.int i :: .ref (ad (g + 33)) :: rest) σ := J_iald (t0 := 0) C (by have := ho.2; omega) (celC_L ho) rfl h hdg hq k
theorem JL_iast (C : Cx p s m args meth c cc nL own D (tysC cI cR) 77 ad ret) {q g : Nat} {i x : Int32} {O : Type} {X : Option O} {out : O} (ho : isLA g) (h : ck (inB i (cLen g)) X = some out) (hdg : decode cc pc = .ok (.iastore, 1)) (hq : pc + 1 = q) (k : X = some out → Jd p l e R s m args below meth c D 77 ad (celC cI cR ad) okC nL Q q lv rest (pA σ g (upd (gA σ g) i.toNatClampNeg x))) : Jd p l e R s m args below meth c D 77 ad (celC cI cR ad) okC nL Q pc lv (.int x :: .int i :: .ref (ad (g + 33)) :: rest) σ := J_iast (t0 := 0) C (by have := ho.2; omega) (celC_L ho) rfl h (by rw [celC_L ho, gA_pA, if_pos rfl]) (celC_pAL ho) okC_A hdg hq k
theorem JS_alen (C : Cx p s m args meth c cc nL own D (tysC cI cR) 77 ad ret) {q : Nat} {b L : Nat} {xs : Nat → Int32} (hX : va_X b L xs s s.heap) (hbl : b < s.heap.size) (hbA : ¬ inA 77 ad b) (hdg : decode cc pc = .ok (.arraylength, 1)) (hq : pc + 1 = q) (k : Jd p l e R s m args below meth c D 77 ad (celC cI cR ad) okC nL Q q lv (.int (nI L) :: rest) σ) : Jd p l e R s m args below meth c D 77 ad (celC cI cR ad) okC nL Q pc lv (.ref b :: rest) σ := by
  subst hq; intro hok ls H locs hl hP hS
  exact va_slen C.1 C.2.1 hX hbl hbA hS hdg (k hok ls H locs hl hP hS)
theorem JS_iald (C : Cx p s m args meth c cc nL own D (tysC cI cR) 77 ad ret) {q : Nat} {b L : Nat} {xs : Nat → Int32} (hX : va_X b L xs s s.heap) (hbl : b < s.heap.size) (hbA : ¬ inA 77 ad b) {i : Int32} {O : Type} {X : Option O} {out : O} (h : ck (inB i L) X = some out) (hdg : decode cc pc = .ok (.iaload, 1)) (hq : pc + 1 = q) (k : X = some out → Jd p l e R s m args below meth c D 77 ad (celC cI cR ad) okC nL Q q lv (.int (xs i.toNatClampNeg) :: rest) σ) : Jd p l e R s m args below meth c D 77 ad (celC cI cR ad) okC nL Q pc lv (.int i :: .ref b :: rest) σ := by
  subst hq; intro hok ls H locs hl hP hS
  exact va_sld C.1 C.2.1 hX hbl hbA hS (inB_in (ck_of h).1) hdg (k (ck_of h).2 hok ls H locs hl hP hS)
/-- contracts of methods that read the script, too -/
def MIs (l : Launch) (D : va_G) (tys : List (ClassId × FieldType)) (N : Nat) (ad : Nat → Nat) (cel : Sg → Nat → va_E) (ok : Sg → Prop) (b L : Nat) (xs : Nat → Int32) (y : MethodName) (cc : ByteArray) (maxL : Nat) (ty : FieldType) (fr lo : Nat) (av : List Value) (σ : Sg) (r : Int32) (σ' : Sg) : Prop :=
  Met l y (.code y cc maxL (some ty) :: WA) (rmF fr lo) (va_Pc av (fun U => WP D tys N ad cel ok σ U ∧ va_X b L xs U U.heap ∧ b < U.heap.size)) (QI D tys N ad cel ok r σ') 0 0 (inA N ad)
theorem entIs {l : Launch} {D : va_G} {tys : List (ClassId × FieldType)} {N : Nat} {ad : Nat → Nat} {cel : Sg → Nat → va_E} {ok : Sg → Prop} {b L : Nat} {xs : Nat → Int32} {y : MethodName} {cc : ByteArray} {maxL : Nat} {ty : FieldType} {fr lo : Nat} {av : List Value} {σ σ' : Sg} {r : Int32} (own : String) (hap : apN N ad) (hy : plainName y.cls = true) (hcl : y.cls = own) (hlen : (lg_sl av).length ≤ maxL) (K : ∀ (p : Program) (e : Env) (s : State) (m : MethodId) (args : Array Value) (below : List Frame) (meth : Method) (c : Code), Cx p s m args meth c cc maxL own D tys N ad (some ty) → va_X b L xs s s.heap → b < s.heap.size → Jd p l e (rmF fr lo) s m args below meth c D N ad cel ok maxL (MQ below (QI D tys N ad cel ok r σ') args s 0 0 (inA N ad)) 0 (lv_args 0 av) [] σ) : MIs l D tys N ad cel ok b L xs y cc maxL ty fr lo av σ r σ' := by
  refine Met.ofW (cc := cc) (maxL := maxL) (ret := (some ty)) hy rfl ?_
  intro p e s m args below meth c s₁ B hml hv
  obtain ⟨rfl, ⟨hP, ⟨hK, hNW⟩, hok⟩, hX, hbl⟩ := hv
  have hts := atoms_spec B.pre
  subst hcl
  rw [lg_entry_eq]
  exact K p e s m _ below meth c ⟨B.exec, B.bytes, hml, findClass_of_methodNamed B.named, fun w hw => hts w (List.mem_cons_of_mem _ hw), hK, hap, B.returns, B.notSynchronized, hNW⟩ hX hbl hok _ _ _ (lv_entry av hlen) hP va_S.rf
theorem JS_callIS (C : Cx p s m args meth c cc nL own D (tysC cI cR) 77 ad ret) {b L : Nat} {xs : Nat → Int32} (hX : va_X b L xs s s.heap) (hbl : b < s.heap.size) (hbA : ¬ inA 77 ad b) {y : MethodName} {cc' : ByteArray} {maxL fr lo n index q : Nat} {ty : FieldType} {av : List Value} {r : Int32} {σ' : Sg} {As : List Value} (hM : MIs l D (tysC cI cR) 77 ad (celC cI cR ad) okC b L xs y cc' maxL ty fr lo av σ r σ') (hy : okS y cc' maxL (some ty) n) (hl0 : Cond.methodLink own index y ∈ WA) (hav : av = As) (hn : As.length = n) {st : List Value} (hst : st = As.reverse ++ (rest)) (hR : fr + 1 ≤ R.frames ∧ 8 + (maxL + 11) + lo ≤ R.locals) (hW8 : (rest.map fun v => v.category).sum ≤ 8) (hdg : decode cc pc = .ok (.invokestatic index, 3)) (hq : pc + 3 = q) (k : Jd p l e R s m args below meth c D 77 ad (celC cI cR ad) okC nL Q q lv (.int r :: rest) σ') : Jd p l e R s m args below meth c D 77 ad (celC cI cR ad) okC nL Q pc lv st σ := by
  subst hq; subst hav; subst hst
  intro hok ls H locs hl hP hS
  obtain ⟨hx, hb, hml, hown, hts, hK, hap, -, -, hNW⟩ := C
  refine va_calli (va_runS (As := av) (rest := rest) ⟨hx, hb, hml, hown, hts⟩ hM ⟨callB_of n hts (gWB hy.1) rfl rfl rfl (hts _ hy.2.2.1) (hts _ hl0) hy.2.2.2 hR, hts _ hy.2.1⟩ ⟨fun a U g0 mk z => ⟨z.1, WP_call z.2.1, va_X.moved (Vm.Alike.refl U.vm) z.2.2.1, z.2.2.2⟩, fun U hU hW => ⟨rfl, ⟨by rw [hU]; exact hP, ⟨va_K.moved hW.alike hK, NW_warm hW hNW⟩, hok⟩, by rw [hU]; exact ((va_X.moved hW.alike hX).kept (hS.2.1 b hbl hbA)), by rw [hU]; exact Nat.lt_of_lt_of_le hbl hS.1⟩⟩ rfl hn hl.1 rfl (lv_room hW8) hdg ⟨Nat.zero_le _, Nat.zero_le _⟩) hS (fun _ _ h9 => h9) (fun _ h9 => h9) (fun r1 u t H1 locs1 ht hvm hw hB hz hk1 hS => ?_)
  obtain ⟨hP1, hok1⟩ := hB
  rw [ht] at hP1
  subst hw; exact k hok1 ls H1 locs1 hl hP1 hS
end JW
theorem lt74I {q : Nat} (h : isI q) : q < 77 := Nat.lt_trans h.2 (by decide)
theorem lt74S {q : Nat} (h : isS q) : q < 77 := by rcases h with rfl | rfl <;> decide
theorem okC_tx {σ : Sg} (h : okC σ) : txO σ = none ∨ ∃ q, txO σ = some q ∧ isI q := by
  unfold txO
  rcases h.2.2 with e | e
  · exact Or.inl (by rw [if_pos e])
  · exact Or.inr ⟨gR σ 2, by rw [if_neg (by have := e.1; omega)], e⟩
theorem noneI : ∀ q, (none : Option Nat) = some q → isI q := fun _ h => by cases h
theorem someI {g : Nat} (h : isI g) : ∀ q, some g = some q → isI q := fun _ e => Option.some.inj e ▸ h
theorem ls_dflt {x : Int32} (w1 : x.toInt ≠ 1) (w4 : x.toInt ≠ 4) : Op.lookupswitch.offset #[((1 : Int), (27 : Int)), (4, 32)].toList 39 x.toInt = 39 := by
  show Op.lookupswitch.offset [((1 : Int), (27 : Int)), (4, 32)] 39 x.toInt = 39
  rw [Op.lookupswitch.offset_cons, if_neg (Ne.symm w1), Op.lookupswitch.offset_cons, if_neg (Ne.symm w4), Op.lookupswitch.offset_nil]
theorem isI_18 : isI 18 := ⟨by decide, by decide⟩
theorem isI_33 : isI 33 := ⟨by decide, by decide⟩
theorem isI_34 : isI 34 := ⟨by decide, by decide⟩
theorem isI_35 : isI 35 := ⟨by decide, by decide⟩
theorem isI_36 : isI 36 := ⟨by decide, by decide⟩
theorem isI_37 : isI 37 := ⟨by decide, by decide⟩
theorem isRA_71 : isRA 71 := ⟨by decide, by decide⟩
theorem isRA_72 : isRA 72 := ⟨by decide, by decide⟩
theorem isRA_73 : isRA 73 := ⟨by decide, by decide⟩
theorem isLA_41 : isLA 41 := ⟨by decide, by decide⟩
theorem isLA_42 : isLA 42 := ⟨by decide, by decide⟩
theorem isLA_43 : isLA 43 := ⟨by decide, by decide⟩
end
