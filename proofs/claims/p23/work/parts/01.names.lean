-- ===== PART A: goes FIRST, ahead of the names: the tables' words, and 'selects' of the private methods out of them =====
/-- a private method of a class that the tables say can be made, by its rows of tables_1 -/
def lw_okq (q : MethodName × Nat) : Prop := (q.1.cls ≠ "java/lang/invoke/MethodHandle" ∧ q.1.cls ≠ "java/lang/invoke/VarHandle") ∧ Cond.instantiable q.1.cls q.2 ∈ tables_1 ∧ Cond.privateMethod q.1 ∈ tables_1 ∧ Cond.instanceMethod q.1 ∈ tables_1
theorem lw_p0 : lw_okq (⟨"GearTypes", "needBetween", "(III)V"⟩, 3) := ⟨⟨by decide +kernel, by decide +kernel⟩, List.mem_of_getElem? (i := 15) (by decide +kernel), List.mem_of_getElem? (i := 155) (by decide +kernel), List.mem_of_getElem? (i := 156) (by decide +kernel)⟩
theorem lw_p1 : lw_okq (⟨"java/lang/Throwable", "fillInStackTrace", "(I)Ljava/lang/Throwable;"⟩, 6) := ⟨⟨by decide +kernel, by decide +kernel⟩, List.mem_of_getElem? (i := 197) (by decide +kernel), List.mem_of_getElem? (i := 195) (by decide +kernel), List.mem_of_getElem? (i := 196) (by decide +kernel)⟩
theorem lw_p2 : lw_okq (⟨"GearTypes", "add", "(IIIII)I"⟩, 3) := ⟨⟨by decide +kernel, by decide +kernel⟩, List.mem_of_getElem? (i := 15) (by decide +kernel), List.mem_of_getElem? (i := 222) (by decide +kernel), List.mem_of_getElem? (i := 223) (by decide +kernel)⟩
theorem lw_p3 : lw_okq (⟨"GearTypes$Parts", "sizeOf", "(I)I"⟩, 2) := ⟨⟨by decide +kernel, by decide +kernel⟩, List.mem_of_getElem? (i := 23) (by decide +kernel), List.mem_of_getElem? (i := 230) (by decide +kernel), List.mem_of_getElem? (i := 231) (by decide +kernel)⟩
theorem lw_p4 : lw_okq (⟨"GearTypes$Parts", "depthOf", "(I)I"⟩, 2) := ⟨⟨by decide +kernel, by decide +kernel⟩, List.mem_of_getElem? (i := 23) (by decide +kernel), List.mem_of_getElem? (i := 262) (by decide +kernel), List.mem_of_getElem? (i := 263) (by decide +kernel)⟩
theorem lw_p5 : lw_okq (⟨"GearTypes$Finder", "find", "(LGearTypes$Parts;II)I"⟩, 5) := ⟨⟨by decide +kernel, by decide +kernel⟩, List.mem_of_getElem? (i := 59) (by decide +kernel), List.mem_of_getElem? (i := 285) (by decide +kernel), List.mem_of_getElem? (i := 286) (by decide +kernel)⟩
theorem lw_p6 : lw_okq (⟨"GearTypes$Finder", "fail", "(II)I"⟩, 5) := ⟨⟨by decide +kernel, by decide +kernel⟩, List.mem_of_getElem? (i := 59) (by decide +kernel), List.mem_of_getElem? (i := 289) (by decide +kernel), List.mem_of_getElem? (i := 290) (by decide +kernel)⟩
theorem lw_p7 : lw_okq (⟨"GearTypes$Finder", "findName", "(LGearTypes$Parts;I)I"⟩, 5) := ⟨⟨by decide +kernel, by decide +kernel⟩, List.mem_of_getElem? (i := 59) (by decide +kernel), List.mem_of_getElem? (i := 294) (by decide +kernel), List.mem_of_getElem? (i := 295) (by decide +kernel)⟩
theorem lw_p8 : lw_okq (⟨"GearTypes$Types", "isPair", "(I)Z"⟩, 11) := ⟨⟨by decide +kernel, by decide +kernel⟩, List.mem_of_getElem? (i := 65) (by decide +kernel), List.mem_of_getElem? (i := 318) (by decide +kernel), List.mem_of_getElem? (i := 319) (by decide +kernel)⟩
theorem lw_p9 : lw_okq (⟨"GearTypes$Types", "variableAt", "(I)I"⟩, 11) := ⟨⟨by decide +kernel, by decide +kernel⟩, List.mem_of_getElem? (i := 65) (by decide +kernel), List.mem_of_getElem? (i := 330) (by decide +kernel), List.mem_of_getElem? (i := 331) (by decide +kernel)⟩
theorem lw_p10 : lw_okq (⟨"GearTypes$Finder", "findWheel", "(LGearTypes$Parts;II)I"⟩, 5) := ⟨⟨by decide +kernel, by decide +kernel⟩, List.mem_of_getElem? (i := 59) (by decide +kernel), List.mem_of_getElem? (i := 334) (by decide +kernel), List.mem_of_getElem? (i := 335) (by decide +kernel)⟩
theorem lw_p11 : lw_okq (⟨"GearTypes$Finder", "findTurning", "(LGearTypes$Parts;II)I"⟩, 5) := ⟨⟨by decide +kernel, by decide +kernel⟩, List.mem_of_getElem? (i := 59) (by decide +kernel), List.mem_of_getElem? (i := 355) (by decide +kernel), List.mem_of_getElem? (i := 356) (by decide +kernel)⟩
theorem lw_p12 : lw_okq (⟨"GearTypes$Types", "putPair", "(III)I"⟩, 11) := ⟨⟨by decide +kernel, by decide +kernel⟩, List.mem_of_getElem? (i := 65) (by decide +kernel), List.mem_of_getElem? (i := 363) (by decide +kernel), List.mem_of_getElem? (i := 364) (by decide +kernel)⟩
theorem lw_p13 : lw_okq (⟨"GearTypes$Types", "give", "(II)V"⟩, 11) := ⟨⟨by decide +kernel, by decide +kernel⟩, List.mem_of_getElem? (i := 65) (by decide +kernel), List.mem_of_getElem? (i := 368) (by decide +kernel), List.mem_of_getElem? (i := 369) (by decide +kernel)⟩
theorem lw_p14 : lw_okq (⟨"GearTypes$Types", "resolve", "(I)I"⟩, 11) := ⟨⟨by decide +kernel, by decide +kernel⟩, List.mem_of_getElem? (i := 65) (by decide +kernel), List.mem_of_getElem? (i := 372) (by decide +kernel), List.mem_of_getElem? (i := 373) (by decide +kernel)⟩
theorem lw_p15 : lw_okq (⟨"GearTypes$Finder", "findTelling", "(LGearTypes$Parts;II)I"⟩, 5) := ⟨⟨by decide +kernel, by decide +kernel⟩, List.mem_of_getElem? (i := 59) (by decide +kernel), List.mem_of_getElem? (i := 384) (by decide +kernel), List.mem_of_getElem? (i := 385) (by decide +kernel)⟩
def lw_privs_1 : List (MethodName × Nat) := [(⟨"GearTypes", "needBetween", "(III)V"⟩, 3), (⟨"java/lang/Throwable", "fillInStackTrace", "(I)Ljava/lang/Throwable;"⟩, 6), (⟨"GearTypes", "add", "(IIIII)I"⟩, 3), (⟨"GearTypes$Parts", "sizeOf", "(I)I"⟩, 2), (⟨"GearTypes$Parts", "depthOf", "(I)I"⟩, 2), (⟨"GearTypes$Finder", "find", "(LGearTypes$Parts;II)I"⟩, 5), (⟨"GearTypes$Finder", "fail", "(II)I"⟩, 5), (⟨"GearTypes$Finder", "findName", "(LGearTypes$Parts;I)I"⟩, 5), (⟨"GearTypes$Types", "isPair", "(I)Z"⟩, 11), (⟨"GearTypes$Types", "variableAt", "(I)I"⟩, 11), (⟨"GearTypes$Finder", "findWheel", "(LGearTypes$Parts;II)I"⟩, 5), (⟨"GearTypes$Finder", "findTurning", "(LGearTypes$Parts;II)I"⟩, 5), (⟨"GearTypes$Types", "putPair", "(III)I"⟩, 11), (⟨"GearTypes$Types", "give", "(II)V"⟩, 11), (⟨"GearTypes$Types", "resolve", "(I)I"⟩, 11), (⟨"GearTypes$Finder", "findTelling", "(LGearTypes$Parts;II)I"⟩, 5)]
theorem lw_r1 : ∀ q ∈ lw_privs_1, lw_okq q := List.forall_mem_cons.mpr ⟨lw_p0, List.forall_mem_cons.mpr ⟨lw_p1, List.forall_mem_cons.mpr ⟨lw_p2, List.forall_mem_cons.mpr ⟨lw_p3, List.forall_mem_cons.mpr ⟨lw_p4, List.forall_mem_cons.mpr ⟨lw_p5, List.forall_mem_cons.mpr ⟨lw_p6, List.forall_mem_cons.mpr ⟨lw_p7, List.forall_mem_cons.mpr ⟨lw_p8, List.forall_mem_cons.mpr ⟨lw_p9, List.forall_mem_cons.mpr ⟨lw_p10, List.forall_mem_cons.mpr ⟨lw_p11, List.forall_mem_cons.mpr ⟨lw_p12, List.forall_mem_cons.mpr ⟨lw_p13, List.forall_mem_cons.mpr ⟨lw_p14, List.forall_mem_cons.mpr ⟨lw_p15, fun _ h => absurd h List.not_mem_nil⟩⟩⟩⟩⟩⟩⟩⟩⟩⟩⟩⟩⟩⟩⟩⟩
theorem lw_p16 : lw_okq (⟨"GearTypes$Types", "codeOf", "(I)I"⟩, 11) := ⟨⟨by decide +kernel, by decide +kernel⟩, List.mem_of_getElem? (i := 65) (by decide +kernel), List.mem_of_getElem? (i := 400) (by decide +kernel), List.mem_of_getElem? (i := 401) (by decide +kernel)⟩
theorem lw_p17 : lw_okq (⟨"GearTypes$Types", "seatOf", "(I)I"⟩, 11) := ⟨⟨by decide +kernel, by decide +kernel⟩, List.mem_of_getElem? (i := 65) (by decide +kernel), List.mem_of_getElem? (i := 405) (by decide +kernel), List.mem_of_getElem? (i := 406) (by decide +kernel)⟩
theorem lw_p18 : lw_okq (⟨"GearTypes$Finder", "findAxle", "(LGearTypes$Parts;II)I"⟩, 5) := ⟨⟨by decide +kernel, by decide +kernel⟩, List.mem_of_getElem? (i := 59) (by decide +kernel), List.mem_of_getElem? (i := 409) (by decide +kernel), List.mem_of_getElem? (i := 410) (by decide +kernel)⟩
theorem lw_p19 : lw_okq (⟨"GearTypes$Finder", "findEnd", "(LGearTypes$Parts;II)I"⟩, 5) := ⟨⟨by decide +kernel, by decide +kernel⟩, List.mem_of_getElem? (i := 59) (by decide +kernel), List.mem_of_getElem? (i := 413) (by decide +kernel), List.mem_of_getElem? (i := 414) (by decide +kernel)⟩
theorem lw_p20 : lw_okq (⟨"GearTypes$Finder", "findChoice", "(LGearTypes$Parts;II)I"⟩, 5) := ⟨⟨by decide +kernel, by decide +kernel⟩, List.mem_of_getElem? (i := 59) (by decide +kernel), List.mem_of_getElem? (i := 417) (by decide +kernel), List.mem_of_getElem? (i := 418) (by decide +kernel)⟩
theorem lw_p21 : lw_okq (⟨"GearTypes$Finder", "isTooLong", "(I)Z"⟩, 5) := ⟨⟨by decide +kernel, by decide +kernel⟩, List.mem_of_getElem? (i := 59) (by decide +kernel), List.mem_of_getElem? (i := 421) (by decide +kernel), List.mem_of_getElem? (i := 422) (by decide +kernel)⟩
theorem lw_p22 : lw_okq (⟨"GearTypes$Rows", "putFacts", "(IIII)V"⟩, 4) := ⟨⟨by decide +kernel, by decide +kernel⟩, List.mem_of_getElem? (i := 39) (by decide +kernel), List.mem_of_getElem? (i := 429) (by decide +kernel), List.mem_of_getElem? (i := 430) (by decide +kernel)⟩
theorem lw_p23 : lw_okq (⟨"GearTypes$Rows", "variablesIn", "(II)I"⟩, 4) := ⟨⟨by decide +kernel, by decide +kernel⟩, List.mem_of_getElem? (i := 39) (by decide +kernel), List.mem_of_getElem? (i := 433) (by decide +kernel), List.mem_of_getElem? (i := 434) (by decide +kernel)⟩
theorem lw_p24 : lw_okq (⟨"GearTypes$Rows", "depthOf", "(II)I"⟩, 4) := ⟨⟨by decide +kernel, by decide +kernel⟩, List.mem_of_getElem? (i := 39) (by decide +kernel), List.mem_of_getElem? (i := 442) (by decide +kernel), List.mem_of_getElem? (i := 443) (by decide +kernel)⟩
theorem lw_p25 : lw_okq (⟨"GearTypes$Rows", "isPair", "(I)Z"⟩, 4) := ⟨⟨by decide +kernel, by decide +kernel⟩, List.mem_of_getElem? (i := 39) (by decide +kernel), List.mem_of_getElem? (i := 446) (by decide +kernel), List.mem_of_getElem? (i := 447) (by decide +kernel)⟩
theorem lw_p26 : lw_okq (⟨"GearTypes", "needPart", "(I)V"⟩, 3) := ⟨⟨by decide +kernel, by decide +kernel⟩, List.mem_of_getElem? (i := 15) (by decide +kernel), List.mem_of_getElem? (i := 464) (by decide +kernel), List.mem_of_getElem? (i := 465) (by decide +kernel)⟩
theorem lw_p27 : lw_okq (⟨"GearTypes", "needPlace", "(II)V"⟩, 3) := ⟨⟨by decide +kernel, by decide +kernel⟩, List.mem_of_getElem? (i := 15) (by decide +kernel), List.mem_of_getElem? (i := 468) (by decide +kernel), List.mem_of_getElem? (i := 469) (by decide +kernel)⟩
theorem lw_p28 : lw_okq (⟨"GearTypes", "counted", "(I)I"⟩, 3) := ⟨⟨by decide +kernel, by decide +kernel⟩, List.mem_of_getElem? (i := 15) (by decide +kernel), List.mem_of_getElem? (i := 537) (by decide +kernel), List.mem_of_getElem? (i := 538) (by decide +kernel)⟩
theorem lw_p29 : lw_okq (⟨"GearTypes", "bothTyped", "(II)Z"⟩, 3) := ⟨⟨by decide +kernel, by decide +kernel⟩, List.mem_of_getElem? (i := 15) (by decide +kernel), List.mem_of_getElem? (i := 545) (by decide +kernel), List.mem_of_getElem? (i := 546) (by decide +kernel)⟩
theorem lw_p30 : lw_okq (⟨"GearTypes", "faultOfTurning", "(II)I"⟩, 3) := ⟨⟨by decide +kernel, by decide +kernel⟩, List.mem_of_getElem? (i := 15) (by decide +kernel), List.mem_of_getElem? (i := 558) (by decide +kernel), List.mem_of_getElem? (i := 559) (by decide +kernel)⟩
theorem lw_p31 : lw_okq (⟨"GearTypes$Finder", "buildRow", "(LGearTypes$Rows;I)I"⟩, 5) := ⟨⟨by decide +kernel, by decide +kernel⟩, List.mem_of_getElem? (i := 59) (by decide +kernel), List.mem_of_getElem? (i := 566) (by decide +kernel), List.mem_of_getElem? (i := 567) (by decide +kernel)⟩
def lw_privs_2 : List (MethodName × Nat) := [(⟨"GearTypes$Types", "codeOf", "(I)I"⟩, 11), (⟨"GearTypes$Types", "seatOf", "(I)I"⟩, 11), (⟨"GearTypes$Finder", "findAxle", "(LGearTypes$Parts;II)I"⟩, 5), (⟨"GearTypes$Finder", "findEnd", "(LGearTypes$Parts;II)I"⟩, 5), (⟨"GearTypes$Finder", "findChoice", "(LGearTypes$Parts;II)I"⟩, 5), (⟨"GearTypes$Finder", "isTooLong", "(I)Z"⟩, 5), (⟨"GearTypes$Rows", "putFacts", "(IIII)V"⟩, 4), (⟨"GearTypes$Rows", "variablesIn", "(II)I"⟩, 4), (⟨"GearTypes$Rows", "depthOf", "(II)I"⟩, 4), (⟨"GearTypes$Rows", "isPair", "(I)Z"⟩, 4), (⟨"GearTypes", "needPart", "(I)V"⟩, 3), (⟨"GearTypes", "needPlace", "(II)V"⟩, 3), (⟨"GearTypes", "counted", "(I)I"⟩, 3), (⟨"GearTypes", "bothTyped", "(II)Z"⟩, 3), (⟨"GearTypes", "faultOfTurning", "(II)I"⟩, 3), (⟨"GearTypes$Finder", "buildRow", "(LGearTypes$Rows;I)I"⟩, 5)]
theorem lw_r2 : ∀ q ∈ lw_privs_2, lw_okq q := List.forall_mem_cons.mpr ⟨lw_p16, List.forall_mem_cons.mpr ⟨lw_p17, List.forall_mem_cons.mpr ⟨lw_p18, List.forall_mem_cons.mpr ⟨lw_p19, List.forall_mem_cons.mpr ⟨lw_p20, List.forall_mem_cons.mpr ⟨lw_p21, List.forall_mem_cons.mpr ⟨lw_p22, List.forall_mem_cons.mpr ⟨lw_p23, List.forall_mem_cons.mpr ⟨lw_p24, List.forall_mem_cons.mpr ⟨lw_p25, List.forall_mem_cons.mpr ⟨lw_p26, List.forall_mem_cons.mpr ⟨lw_p27, List.forall_mem_cons.mpr ⟨lw_p28, List.forall_mem_cons.mpr ⟨lw_p29, List.forall_mem_cons.mpr ⟨lw_p30, List.forall_mem_cons.mpr ⟨lw_p31, fun _ h => absurd h List.not_mem_nil⟩⟩⟩⟩⟩⟩⟩⟩⟩⟩⟩⟩⟩⟩⟩⟩
def lw_privs : List (MethodName × Nat) := lw_privs_1 ++ (lw_privs_2)
def lw_tbl : List Cond := k2_sels lw_privs ++ tables_1
theorem lw_privs_ok : ∀ q ∈ lw_privs, lw_okq q := by
  show ∀ q ∈ lw_privs_1 ++ (lw_privs_2), lw_okq q
  exact List.forall_mem_append.mpr ⟨lw_r1, lw_r2⟩
-- ===== end of PART A; then your names; then what follows =====
def RX0 : String := "GearTypes$Finder"
def TX0 : u_T := fun k => match k with
  | 0 => ("GearTypes$Finder", "types", "LGearTypes$Types;", true)
  | 1 => ("GearTypes$Finder", "names", "LGearTypes$Names;", true)
  | 2 => ("GearTypes$Finder", "row", "[I", true)
  | 3 => ("GearTypes$Finder", "fault", "I", false)
  | _ => ("GearTypes$Finder", "place", "I", false)
def tyX0 : Nat → FieldType := fun k => match k with
  | 0 => .object "GearTypes$Types"
  | 1 => .object "GearTypes$Names"
  | 2 => .array .int
  | 3 => .int
  | _ => .int
abbrev wsX00 : List Cond := u_ws RX0 TX0 5
theorem nmX0 : ∀ a, a < 5 → ∀ b, b < 5 → a ≠ b → (TX0 a).2.1 ≠ (TX0 b).2.1 := by decide +kernel
theorem tyX0_ok : ∀ k, k < 5 → parseFieldDescriptor (TX0 k).2.2.1 = some (tyX0 k) := by decide +kernel
abbrev cX0_init : ByteArray := prog_2_method_1_code
def yX0_init : MethodName := ⟨RX0, "<init>", "()V"⟩
abbrev cX0_settle : ByteArray := prog_2_method_2_code
def yX0_settle : MethodName := ⟨RX0, "settle", "(LGearTypes$Parts;ILGearTypes$Rows;)V"⟩
abbrev cX0_faultOfTurning : ByteArray := prog_2_method_3_code
def yX0_faultOfTurning : MethodName := ⟨RX0, "faultOfTurning", "(LGearTypes$Rows;II)I"⟩
abbrev cX0_buildRow : ByteArray := prog_2_method_4_code
def yX0_buildRow : MethodName := ⟨RX0, "buildRow", "(LGearTypes$Rows;I)I"⟩
abbrev cX0_isTooLong : ByteArray := prog_2_method_5_code
def yX0_isTooLong : MethodName := ⟨RX0, "isTooLong", "(I)Z"⟩
abbrev cX0_fail : ByteArray := prog_2_method_6_code
def yX0_fail : MethodName := ⟨RX0, "fail", "(II)I"⟩
abbrev cX0_find : ByteArray := prog_2_method_7_code
def yX0_find : MethodName := ⟨RX0, "find", "(LGearTypes$Parts;II)I"⟩
abbrev cX0_findName : ByteArray := prog_2_method_8_code
def yX0_findName : MethodName := ⟨RX0, "findName", "(LGearTypes$Parts;I)I"⟩
abbrev cX0_findWheel : ByteArray := prog_2_method_9_code
def yX0_findWheel : MethodName := ⟨RX0, "findWheel", "(LGearTypes$Parts;II)I"⟩
abbrev cX0_findTurning : ByteArray := prog_2_method_10_code
def yX0_findTurning : MethodName := ⟨RX0, "findTurning", "(LGearTypes$Parts;II)I"⟩
abbrev cX0_findTelling : ByteArray := prog_2_method_11_code
def yX0_findTelling : MethodName := ⟨RX0, "findTelling", "(LGearTypes$Parts;II)I"⟩
abbrev cX0_findAxle : ByteArray := prog_2_method_12_code
def yX0_findAxle : MethodName := ⟨RX0, "findAxle", "(LGearTypes$Parts;II)I"⟩
abbrev cX0_findEnd : ByteArray := prog_2_method_13_code
def yX0_findEnd : MethodName := ⟨RX0, "findEnd", "(LGearTypes$Parts;II)I"⟩
abbrev cX0_findChoice : ByteArray := prog_2_method_14_code
def yX0_findChoice : MethodName := ⟨RX0, "findChoice", "(LGearTypes$Parts;II)I"⟩
def RX1 : String := "GearTypes$Names"
def TX1 : u_T := fun k => match k with
  | 0 => ("GearTypes$Names", "labels", "[I", true)
  | 1 => ("GearTypes$Names", "codes", "[[I", true)
  | 2 => ("GearTypes$Names", "lengths", "[I", true)
  | _ => ("GearTypes$Names", "around", "I", false)
def tyX1 : Nat → FieldType := fun k => match k with
  | 0 => .array .int
  | 1 => .array (.array .int)
  | 2 => .array .int
  | _ => .int
abbrev wsX10 : List Cond := u_ws RX1 TX1 4
theorem nmX1 : ∀ a, a < 4 → ∀ b, b < 4 → a ≠ b → (TX1 a).2.1 ≠ (TX1 b).2.1 := by decide +kernel
theorem tyX1_ok : ∀ k, k < 4 → parseFieldDescriptor (TX1 k).2.2.1 = some (tyX1 k) := by decide +kernel
abbrev cX1_init : ByteArray := prog_3_method_1_code
def yX1_init : MethodName := ⟨RX1, "<init>", "()V"⟩
abbrev cX1_clear : ByteArray := prog_3_method_2_code
def yX1_clear : MethodName := ⟨RX1, "clear", "()V"⟩
abbrev cX1_put : ByteArray := prog_3_method_3_code
def yX1_put : MethodName := ⟨RX1, "put", "(I[II)V"⟩
abbrev cX1_markAll : ByteArray := prog_3_method_4_code
def yX1_markAll : MethodName := ⟨RX1, "markAll", "(LGearTypes$Types;)V"⟩
abbrev cX1_dropLast : ByteArray := prog_3_method_5_code
def yX1_dropLast : MethodName := ⟨RX1, "dropLast", "()V"⟩
abbrev cX1_latest : ByteArray := prog_3_method_6_code
def yX1_latest : MethodName := ⟨RX1, "latest", "(I)I"⟩
abbrev cX1_rowAt : ByteArray := prog_3_method_7_code
def yX1_rowAt : MethodName := ⟨RX1, "rowAt", "(I)[I"⟩
abbrev cX1_lengthAt : ByteArray := prog_3_method_8_code
def yX1_lengthAt : MethodName := ⟨RX1, "lengthAt", "(I)I"⟩
def RX2 : String := "GearTypes$Parts"
def TX2 : u_T := fun k => match k with
  | 0 => ("GearTypes$Parts", "facts", "[[I", true)
  | _ => ("GearTypes$Parts", "made", "I", false)
def tyX2 : Nat → FieldType := fun k => match k with
  | 0 => .array (.array .int)
  | _ => .int
abbrev wsX20 : List Cond := u_ws RX2 TX2 2
theorem nmX2 : ∀ a, a < 2 → ∀ b, b < 2 → a ≠ b → (TX2 a).2.1 ≠ (TX2 b).2.1 := by decide +kernel
theorem tyX2_ok : ∀ k, k < 2 → parseFieldDescriptor (TX2 k).2.2.1 = some (tyX2 k) := by decide +kernel
abbrev cX2_init : ByteArray := prog_4_method_1_code
def yX2_init : MethodName := ⟨RX2, "<init>", "()V"⟩
abbrev cX2_made : ByteArray := prog_4_method_2_code
def yX2_made : MethodName := ⟨RX2, "made", "()I"⟩
abbrev cX2_fact : ByteArray := prog_4_method_3_code
def yX2_fact : MethodName := ⟨RX2, "fact", "(II)I"⟩
abbrev cX2_sizeOver : ByteArray := prog_4_method_4_code
def yX2_sizeOver : MethodName := ⟨RX2, "sizeOver", "(III)I"⟩
abbrev cX2_sizeOf : ByteArray := prog_4_method_5_code
def yX2_sizeOf : MethodName := ⟨RX2, "sizeOf", "(I)I"⟩
abbrev cX2_depthOf : ByteArray := prog_4_method_6_code
def yX2_depthOf : MethodName := ⟨RX2, "depthOf", "(I)I"⟩
abbrev cX2_append : ByteArray := prog_4_method_7_code
def yX2_append : MethodName := ⟨RX2, "append", "(IIIII)I"⟩
abbrev cX2_dropLast : ByteArray := prog_4_method_8_code
def yX2_dropLast : MethodName := ⟨RX2, "dropLast", "()V"⟩
def RX3 : String := "GearTypes$Rows"
def TX3 : u_T := fun k => match k with
  | 0 => ("GearTypes$Rows", "codes", "[[I", true)
  | 1 => ("GearTypes$Rows", "facts", "[[I", true)
  | 2 => ("GearTypes$Rows", "depths", "[I", true)
  | _ => ("GearTypes$Rows", "starts", "[I", true)
def tyX3 : Nat → FieldType := fun k => match k with
  | 0 => .array (.array .int)
  | 1 => .array (.array .int)
  | 2 => .array .int
  | _ => .array .int
abbrev wsX30 : List Cond := u_ws RX3 TX3 4
theorem nmX3 : ∀ a, a < 4 → ∀ b, b < 4 → a ≠ b → (TX3 a).2.1 ≠ (TX3 b).2.1 := by decide +kernel
theorem tyX3_ok : ∀ k, k < 4 → parseFieldDescriptor (TX3 k).2.2.1 = some (tyX3 k) := by decide +kernel
abbrev cX3_init : ByteArray := prog_5_method_1_code
def yX3_init : MethodName := ⟨RX3, "<init>", "()V"⟩
abbrev cX3_fact : ByteArray := prog_5_method_2_code
def yX3_fact : MethodName := ⟨RX3, "fact", "(II)I"⟩
abbrev cX3_codeAt : ByteArray := prog_5_method_3_code
def yX3_codeAt : MethodName := ⟨RX3, "codeAt", "(II)I"⟩
abbrev cX3_putFault : ByteArray := prog_5_method_4_code
def yX3_putFault : MethodName := ⟨RX3, "putFault", "(III)V"⟩
abbrev cX3_putRow : ByteArray := prog_5_method_5_code
def yX3_putRow : MethodName := ⟨RX3, "putRow", "(I[II)V"⟩
abbrev cX3_putFacts : ByteArray := prog_5_method_6_code
def yX3_putFacts : MethodName := ⟨RX3, "putFacts", "(IIII)V"⟩
abbrev cX3_variablesIn : ByteArray := prog_5_method_7_code
def yX3_variablesIn : MethodName := ⟨RX3, "variablesIn", "(II)I"⟩
abbrev cX3_depthOf : ByteArray := prog_5_method_8_code
def yX3_depthOf : MethodName := ⟨RX3, "depthOf", "(II)I"⟩
abbrev cX3_alike : ByteArray := prog_5_method_9_code
def yX3_alike : MethodName := ⟨RX3, "alike", "(II)Z"⟩
abbrev cX3_isPair : ByteArray := prog_5_method_13_code
def yX3_isPair : MethodName := ⟨RX3, "isPair", "(I)Z"⟩
def RX4 : String := "GearTypes$Types"
def TX4 : u_T := fun k => match k with
  | 0 => ("GearTypes$Types", "kind", "[I", true)
  | 1 => ("GearTypes$Types", "left", "[I", true)
  | 2 => ("GearTypes$Types", "right", "[I", true)
  | 3 => ("GearTypes$Types", "mark", "[I", true)
  | 4 => ("GearTypes$Types", "work", "[I", true)
  | 5 => ("GearTypes$Types", "pairLeft", "[I", true)
  | 6 => ("GearTypes$Types", "pairRight", "[I", true)
  | 7 => ("GearTypes$Types", "seats", "[I", true)
  | 8 => ("GearTypes$Types", "seated", "I", false)
  | 9 => ("GearTypes$Types", "used", "I", false)
  | _ => ("GearTypes$Types", "stamp", "I", false)
def tyX4 : Nat → FieldType := fun k => match k with
  | 0 => .array .int
  | 1 => .array .int
  | 2 => .array .int
  | 3 => .array .int
  | 4 => .array .int
  | 5 => .array .int
  | 6 => .array .int
  | 7 => .array .int
  | 8 => .int
  | 9 => .int
  | _ => .int
abbrev wsX40 : List Cond := u_ws RX4 TX4 11
theorem nmX4 : ∀ a, a < 11 → ∀ b, b < 11 → a ≠ b → (TX4 a).2.1 ≠ (TX4 b).2.1 := by decide +kernel
theorem tyX4_ok : ∀ k, k < 11 → parseFieldDescriptor (TX4 k).2.2.1 = some (tyX4 k) := by decide +kernel
abbrev cX4_init : ByteArray := prog_6_method_1_code
def yX4_init : MethodName := ⟨RX4, "<init>", "()V"⟩
abbrev cX4_clear : ByteArray := prog_6_method_2_code
def yX4_clear : MethodName := ⟨RX4, "clear", "()V"⟩
abbrev cX4_make : ByteArray := prog_6_method_3_code
def yX4_make : MethodName := ⟨RX4, "make", "(III)I"⟩
abbrev cX4_newVariable : ByteArray := prog_6_method_4_code
def yX4_newVariable : MethodName := ⟨RX4, "newVariable", "()I"⟩
abbrev cX4_codeOfNode : ByteArray := prog_6_method_5_code
def yX4_codeOfNode : MethodName := ⟨RX4, "codeOfNode", "(I)I"⟩
abbrev cX4_forgetMarks : ByteArray := prog_6_method_6_code
def yX4_forgetMarks : MethodName := ⟨RX4, "forgetMarks", "()V"⟩
abbrev cX4_isNode : ByteArray := prog_6_method_7_code
def yX4_isNode : MethodName := ⟨RX4, "isNode", "(I)Z"⟩
abbrev cX4_nodeOfCode : ByteArray := prog_6_method_8_code
def yX4_nodeOfCode : MethodName := ⟨RX4, "nodeOfCode", "(I)I"⟩
abbrev cX4_markWithin : ByteArray := prog_6_method_9_code
def yX4_markWithin : MethodName := ⟨RX4, "markWithin", "(I)V"⟩
abbrev cX4_resolve : ByteArray := prog_6_method_10_code
def yX4_resolve : MethodName := ⟨RX4, "resolve", "(I)I"⟩
abbrev cX4_isPair : ByteArray := prog_6_method_11_code
def yX4_isPair : MethodName := ⟨RX4, "isPair", "(I)Z"⟩
abbrev cX4_match : ByteArray := prog_6_method_12_code
def yX4_match : MethodName := ⟨RX4, "match", "(II)I"⟩
abbrev cX4_putPair : ByteArray := prog_6_method_13_code
def yX4_putPair : MethodName := ⟨RX4, "putPair", "(III)I"⟩
abbrev cX4_give : ByteArray := prog_6_method_14_code
def yX4_give : MethodName := ⟨RX4, "give", "(II)V"⟩
abbrev cX4_write : ByteArray := prog_6_method_15_code
def yX4_write : MethodName := ⟨RX4, "write", "(I[I)I"⟩
abbrev cX4_codeOf : ByteArray := prog_6_method_16_code
def yX4_codeOf : MethodName := ⟨RX4, "codeOf", "(I)I"⟩
abbrev cX4_seatOf : ByteArray := prog_6_method_17_code
def yX4_seatOf : MethodName := ⟨RX4, "seatOf", "(I)I"⟩
abbrev cX4_build : ByteArray := prog_6_method_18_code
def yX4_build : MethodName := ⟨RX4, "build", "([II)I"⟩
abbrev cX4_variableAt : ByteArray := prog_6_method_19_code
def yX4_variableAt : MethodName := ⟨RX4, "variableAt", "(I)I"⟩
def RX5 : String := "GearTypes"
def TX5 : u_T := fun k => match k with
  | 0 => ("GearTypes", "parts", "LGearTypes$Parts;", true)
  | 1 => ("GearTypes", "rows", "LGearTypes$Rows;", true)
  | _ => ("GearTypes", "finder", "LGearTypes$Finder;", true)
def tyX5 : Nat → FieldType := fun k => match k with
  | 0 => .object "GearTypes$Parts"
  | 1 => .object "GearTypes$Rows"
  | _ => .object "GearTypes$Finder"
abbrev wsX50 : List Cond := u_ws RX5 TX5 3
theorem nmX5 : ∀ a, a < 3 → ∀ b, b < 3 → a ≠ b → (TX5 a).2.1 ≠ (TX5 b).2.1 := by decide +kernel
theorem tyX5_ok : ∀ k, k < 3 → parseFieldDescriptor (TX5 k).2.2.1 = some (tyX5 k) := by decide +kernel
abbrev cX5_init : ByteArray := prog_1_method_1_code
def yX5_init : MethodName := ⟨RX5, "<init>", "()V"⟩
abbrev cX5_plain : ByteArray := prog_1_method_2_code
def yX5_plain : MethodName := ⟨RX5, "plain", "(I)I"⟩
abbrev cX5_name : ByteArray := prog_1_method_3_code
def yX5_name : MethodName := ⟨RX5, "name", "(I)I"⟩
abbrev cX5_wheel : ByteArray := prog_1_method_4_code
def yX5_wheel : MethodName := ⟨RX5, "wheel", "(II)I"⟩
abbrev cX5_turn : ByteArray := prog_1_method_5_code
def yX5_turn : MethodName := ⟨RX5, "turn", "(II)I"⟩
abbrev cX5_tell : ByteArray := prog_1_method_6_code
def yX5_tell : MethodName := ⟨RX5, "tell", "(III)I"⟩
abbrev cX5_axle : ByteArray := prog_1_method_7_code
def yX5_axle : MethodName := ⟨RX5, "axle", "(II)I"⟩
abbrev cX5_end : ByteArray := prog_1_method_8_code
def yX5_end : MethodName := ⟨RX5, "end", "(II)I"⟩
abbrev cX5_either : ByteArray := prog_1_method_9_code
def yX5_either : MethodName := ⟨RX5, "either", "(III)I"⟩
abbrev cX5_undo : ByteArray := prog_1_method_10_code
def yX5_undo : MethodName := ⟨RX5, "undo", "()I"⟩
abbrev cX5_part : ByteArray := prog_1_method_11_code
def yX5_part : MethodName := ⟨RX5, "part", "(II)I"⟩
abbrev cX5_type : ByteArray := prog_1_method_12_code
def yX5_type : MethodName := ⟨RX5, "type", "(II)I"⟩
abbrev cX5_code : ByteArray := prog_1_method_13_code
def yX5_code : MethodName := ⟨RX5, "code", "(II)I"⟩
abbrev cX5_count : ByteArray := prog_1_method_14_code
def yX5_count : MethodName := ⟨RX5, "count", "(I)I"⟩
abbrev cX5_same : ByteArray := prog_1_method_15_code
def yX5_same : MethodName := ⟨RX5, "same", "(II)Z"⟩
abbrev cX5_goes : ByteArray := prog_1_method_17_code
def yX5_goes : MethodName := ⟨RX5, "goes", "(II)I"⟩
abbrev cX5_needPart : ByteArray := prog_1_method_22_code
def yX5_needPart : MethodName := ⟨RX5, "needPart", "(I)V"⟩
abbrev cX5_needPlace : ByteArray := prog_1_method_23_code
def yX5_needPlace : MethodName := ⟨RX5, "needPlace", "(II)V"⟩
abbrev cX5_needBetween : ByteArray := prog_1_method_24_code
def yX5_needBetween : MethodName := ⟨RX5, "needBetween", "(III)V"⟩
abbrev cX5_add : ByteArray := prog_1_method_25_code
def yX5_add : MethodName := ⟨RX5, "add", "(IIIII)I"⟩
abbrev cX5_counted : ByteArray := prog_1_method_26_code
def yX5_counted : MethodName := ⟨RX5, "counted", "(I)I"⟩
abbrev cX5_bothTyped : ByteArray := prog_1_method_27_code
def yX5_bothTyped : MethodName := ⟨RX5, "bothTyped", "(II)Z"⟩
abbrev cX5_faultOfTurning : ByteArray := prog_1_method_28_code
def yX5_faultOfTurning : MethodName := ⟨RX5, "faultOfTurning", "(II)I"⟩
def RX6 : String := "GearTypesLaw$Look"
def TX6 : u_T := fun k => match k with
  | _ => ("", "", "", false)
def tyX6 : Nat → FieldType := fun k => match k with
  | _ => .int
abbrev wsX60 : List Cond := u_ws RX6 TX6 0
theorem nmX6 : ∀ a, a < 0 → ∀ b, b < 0 → a ≠ b → (TX6 a).2.1 ≠ (TX6 b).2.1 := by decide +kernel
theorem tyX6_ok : ∀ k, k < 0 → parseFieldDescriptor (TX6 k).2.2.1 = some (tyX6 k) := by decide +kernel
def RX7 : String := "GearTypesModel"
def TX7 : u_T := fun k => match k with
  | _ => ("", "", "", false)
def tyX7 : Nat → FieldType := fun k => match k with
  | _ => .int
abbrev wsX70 : List Cond := u_ws RX7 TX7 0
theorem nmX7 : ∀ a, a < 0 → ∀ b, b < 0 → a ≠ b → (TX7 a).2.1 ≠ (TX7 b).2.1 := by decide +kernel
theorem tyX7_ok : ∀ k, k < 0 → parseFieldDescriptor (TX7 k).2.2.1 = some (tyX7 k) := by decide +kernel
def RL : String := "GearTypesLaw"
abbrev cL_below : ByteArray := method_2_code
def yL_below : MethodName := ⟨RL, "below", "(II)I"⟩
abbrev cL_cell : ByteArray := method_3_code
def yL_cell : MethodName := ⟨RL, "cell", "([II)I"⟩
abbrev cL_size : ByteArray := method_5_code
def yL_size : MethodName := ⟨RL, "size", "([[II)I"⟩
abbrev cL_more : ByteArray := method_7_code
def yL_more : MethodName := ⟨RL, "more", "(LGearTypes;[[II)[[I"⟩
abbrev cL_build : ByteArray := method_8_code
def yL_build : MethodName := ⟨RL, "build", "(LGearTypes;[I)[[I"⟩
abbrev cL_law : ByteArray := code
def yL_law : MethodName := ⟨RL, "law", "([I)Z"⟩
abbrev cL_isFault : ByteArray := method_10_code
def yL_isFault : MethodName := ⟨RL, "isFault", "(LGearTypes;II[I)Z"⟩
abbrev vwCl : List vw_C := [(RX0, TX0, 5), (RX1, TX1, 4), (RX2, TX2, 2), (RX3, TX3, 4), (RX4, TX4, 11), (RX5, TX5, 3)]
