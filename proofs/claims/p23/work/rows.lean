section
-- ===== PART A: goes FIRST, ahead of the names: the tables' words, and 'selects' of the private methods out of them =====
/-- a private method of a class that the tables say can be made, by its rows of tables_1 -/
def lw_okq (q : MethodName × Nat) : Prop := (q.1.cls ≠ "java/lang/invoke/MethodHandle" ∧ q.1.cls ≠ "java/lang/invoke/VarHandle") ∧ Cond.instantiable q.1.cls q.2 ∈ tables_1 ∧ Cond.privateMethod q.1 ∈ tables_1 ∧ Cond.instanceMethod q.1 ∈ tables_1
theorem lw_p0 : lw_okq (⟨"GearTypes", "needBetween", "(III)V"⟩, 3) := ⟨⟨by decide +kernel, by decide +kernel⟩, List.mem_of_getElem? (i := 15) (by decide +kernel), List.mem_of_getElem? (i := 155) (by decide +kernel), List.mem_of_getElem? (i := 156) (by decide +kernel)⟩
theorem lw_p1 : lw_okq (⟨"java/lang/Throwable", "fillInStackTrace", "(I)Ljava/lang/Throwable;"⟩, 6) := ⟨⟨by decide +kernel, by decide +kernel⟩, List.mem_of_getElem? (i := 197) (by decide +kernel), List.mem_of_getElem? (i := 195) (by decide +kernel), List.mem_of_getElem? (i := 196) (by decide +kernel)⟩
theorem lw_p2 : lw_okq (⟨"GearTypes", "add", "(IIIII)I"⟩, 3) := ⟨⟨by decide +kernel, by decide +kernel⟩, List.mem_of_getElem? (i := 15) (by decide +kernel), List.mem_of_getElem? (i := 222) (by decide +kernel), List.mem_of_getElem? (i := 223) (by decide +kernel)⟩
theorem lw_p3 : lw_okq (⟨"GearTypes$Parts", "sizeOf", "(I)I"⟩, 2) := ⟨⟨by decide +kernel, by decide +kernel⟩, List.mem_of_getElem? (i := 23) (by decide +kernel), List.mem_of_getElem? (i := 230) (by decide +kernel), List.mem_of_getElem? (i := 231) (by decide +kernel)⟩
theorem lw_p4 : lw_okq (⟨"GearTypes$Parts", "depthOf", "(I)I"⟩, 2) := ⟨⟨by decide +kernel, by decide +kernel⟩, List.mem_of_getElem? (i := 23) (by decide +kernel), List.mem_of_getElem? (i := 262) (by decide +kernel), List.mem_of_getElem? (i := 263) (by decide +kernel)⟩
theorem lw_p5 : lw_okq (⟨"GearTypes$Finder", "find", "(LGearTypes$Parts;II)I"⟩, 5) := ⟨⟨by decide +kernel, by decide +kernel⟩, List.mem_of_getElem? (i := 59) (by decide +kernel), List.mem_of_getElem? (i := 285) (by decide +kernel), List.mem_of_getElem? (i := 286) (by decide +kernel)⟩
theorem lw_p6 : lw_okq (⟨"GearTypes$Finder", "fail", "(II)I"⟩, 5) := ⟨⟨by decide +kernel, by decide +kernel⟩, List.mem_of_getElem? (i := 59) (by decide +kernel), List.mem_of_getElem? (i := 289) (by decide +kernel), List.mem_of_getElem? (i := 290) (by decide +kernel)⟩
theorem lw_p7 : lw_okq (⟨"GearTypes$Finder", "findName", "(LGearTypes$Parts;I)I"⟩, 5) := ⟨⟨by decide +kernel, by decide +kernel⟩, List.mem_of_getElem? (i := 59) (by decide +kernel), List.mem_of_getElem? (i := 294) (by decide +kernel), List.mem_of_getElem? (i := 295) (by decide +kernel)⟩
theorem lw_p8 : lw_okq (⟨"GearTypes$Types", "isPair", "(I)Z"⟩, 11) := ⟨⟨by decide +kernel, by decide +kernel⟩, List.mem_of_getElem? (i := 65) (by decide +kernel), List.mem_of_getElem? (i := 318) (by decide +kernel), List.mem_of_getElem? (i := 319) (by decide +kernel)⟩
theorem lw_p9 : lw_okq (⟨"GearTypes$Types", "variableAt", "(I)I"⟩, 11) := ⟨⟨by decide +kernel, by decide +kernel⟩, List.mem_of_getElem? (i := 65) (by decide +kernel), List.mem_of_getElem? (i := 330) (by decide +kernel), List.mem_of_getElem? (i := 331) (by decide +kernel)⟩
theorem lw_p10 : lw_okq (⟨"GearTypes$Finder", "findWheel", "(LGearTypes$Parts;II)I"⟩, 5) := ⟨⟨by decide +kernel, by decide +kernel⟩, List.mem_of_getElem? (i := 59) (by decide +kernel), List.mem_of_getElem? (i := 334) (by decide +kernel), List.mem_of_getElem? (i := 335) (by decide +kernel)⟩
theorem lw_p11 : lw_okq (⟨"GearTypes$Finder", "findTurning", "(LGearTypes$Parts;II)I"⟩, 5) := ⟨⟨by decide +kernel, by decide +kernel⟩, List.mem_of_getElem? (i := 59) (by decide +kernel), List.mem_of_getElem? (i := 355) (by decide +kernel), List.mem_of_getElem? (i := 356) (by decide +kernel)⟩
theorem lw_p12 : lw_okq (⟨"GearTypes$Types", "putPair", "(III)I"⟩, 11) := ⟨⟨by decide +kernel, by decide +kernel⟩, List.mem_of_getElem? (i := 65) (by decide +kernel), List.mem_of_getElem? (i := 363) (by decide +kernel), List.mem_of_getElem? (i := 364) (by decide +kernel)⟩
theorem lw_p13 : lw_okq (⟨"GearTypes$Types", "give", "(II)V"⟩, 11) := ⟨⟨by decide +kernel, by decide +kernel⟩, List.mem_of_getElem? (i := 65) (by decide +kernel), List.mem_of_getElem? (i := 368) (by decide +kernel), List.mem_of_getElem? (i := 369) (by decide +kernel)⟩
theorem lw_p14 : lw_okq (⟨"GearTypes$Types", "resolve", "(I)I"⟩, 11) := ⟨⟨by decide +kernel, by decide +kernel⟩, List.mem_of_getElem? (i := 65) (by decide +kernel), List.mem_of_getElem? (i := 372) (by decide +kernel), List.mem_of_getElem? (i := 373) (by decide +kernel)⟩
theorem lw_p15 : lw_okq (⟨"GearTypes$Finder", "findTelling", "(LGearTypes$Parts;II)I"⟩, 5) := ⟨⟨by decide +kernel, by decide +kernel⟩, List.mem_of_getElem? (i := 59) (by decide +kernel), List.mem_of_getElem? (i := 384) (by decide +kernel), List.mem_of_getElem? (i := 385) (by decide +kernel)⟩
def lw_privs_1 : List (MethodName × Nat) := [(⟨"GearTypes", "needBetween", "(III)V"⟩, 3), (⟨"java/lang/Throwable", "fillInStackTrace", "(I)Ljava/lang/Throwable;"⟩, 6), (⟨"GearTypes", "add", "(IIIII)I"⟩, 3), (⟨"GearTypes$Parts", "sizeOf", "(I)I"⟩, 2), (⟨"GearTypes$Parts", "depthOf", "(I)I"⟩, 2), (⟨"GearTypes$Finder", "find", "(LGearTypes$Parts;II)I"⟩, 5), (⟨"GearTypes$Finder", "fail", "(II)I"⟩, 5), (⟨"GearTypes$Finder", "findName", "(LGearTypes$Parts;I)I"⟩, 5), (⟨"GearTypes$Types", "isPair", "(I)Z"⟩, 11), (⟨"GearTypes$Types", "variableAt", "(I)I"⟩, 11), (⟨"GearTypes$Finder", "findWheel", "(LGearTypes$Parts;II)I"⟩, 5), (⟨"GearTypes$Finder", "findTurning", "(LGearTypes$Parts;II)I"⟩, 5), (⟨"GearTypes$Types", "putPair", "(III)I"⟩, 11), (⟨"GearTypes$Types", "give", "(II)V"⟩, 11), (⟨"GearTypes$Types", "resolve", "(I)I"⟩, 11), (⟨"GearTypes$Finder", "findTelling", "(LGearTypes$Parts;II)I"⟩, 5)]
theorem lw_r1 : ∀ q ∈ lw_privs_1, lw_okq q := List.forall_mem_cons.mpr ⟨lw_p0, List.forall_mem_cons.mpr ⟨lw_p1, List.forall_mem_cons.mpr ⟨lw_p2, List.forall_mem_cons.mpr ⟨lw_p3, List.forall_mem_cons.mpr ⟨lw_p4, List.forall_mem_cons.mpr ⟨lw_p5, List.forall_mem_cons.mpr ⟨lw_p6, List.forall_mem_cons.mpr ⟨lw_p7, List.forall_mem_cons.mpr ⟨lw_p8, List.forall_mem_cons.mpr ⟨lw_p9, List.forall_mem_cons.mpr ⟨lw_p10, List.forall_mem_cons.mpr ⟨lw_p11, List.forall_mem_cons.mpr ⟨lw_p12, List.forall_mem_cons.mpr ⟨lw_p13, List.forall_mem_cons.mpr ⟨lw_p14, List.forall_mem_cons.mpr ⟨lw_p15, fun _ h => absurd h List.not_mem_nil⟩⟩⟩⟩⟩⟩⟩⟩⟩⟩⟩⟩⟩⟩⟩⟩
theorem lw_p16 : lw_okq (⟨"GearTypes$Types", "codeOf", "(I)I"⟩, 11) := ⟨⟨by decide +kernel, by decide +kernel⟩, List.mem_of_getElem? (i := 65) (by decide +kernel), List.mem_of_getElem? (i := 400) (by decide +kernel), List.mem_of_getElem? (i := 401) (by decide +kernel)⟩
theorem lw_p17 : lw_okq (⟨"GearTypes$Types", "seatOf", "(I)I"⟩, 11) := ⟨⟨by decide +kernel, by decide +kernel⟩, List.mem_of_getElem? (i := 65) (by decide +kernel), List.mem_of_getElem? (i := 405) (by decide +kernel), List.mem_of_getElem? (i := 406) (by decide +kernel)⟩
theorem lw_p18 : lw_okq (⟨"GearTypes$Finder", "findAxle", "(LGearTypes$Parts;II)I"⟩, 5) := ⟨⟨by decide +kernel, by decide +kernel⟩, List.mem_of_getElem? (i := 59) (by decide +kernel), List.mem_of_getElem? (i := 409) (by decide +kernel), List.mem_of_getElem? (i := 410) (by decide +kernel)⟩
theorem lw_p19 : lw_okq (⟨"GearTypes$Finder", "findEnd", "(LGearTypes$Parts;II)I"⟩, 5) := ⟨⟨by decide +kernel, by decide +kernel⟩, List.mem_of_getElem? (i := 59) (by decide +kernel), List.mem_of_getElem? (i := 413) (by decide +kernel), List.mem_of_getElem? (i := 414) (by decide +kernel)⟩
theorem lw_p20 : lw_okq (⟨"GearTypes$Finder", "findChoice", "(LGearTypes$Parts;II)I"⟩, 5) := ⟨⟨by decide +kernel, by decide +kernel⟩, List.mem_of_getElem? (i := 59) (by decide +kernel), List.mem_of_getElem? (i := 417) (by decide +kernel), List.mem_of_getElem? (i := 418) (by decide +kernel)⟩
theorem lw_p21 : lw_okq (⟨"GearTypes$Finder", "isTooLong", "(I)Z"⟩, 5) := ⟨⟨by decide +kernel, by decide +kernel⟩, List.mem_of_getElem? (i := 59) (by decide +kernel), List.mem_of_getElem? (i := 421) (by decide +kernel), List.mem_of_getElem? (i := 422) (by decide +kernel)⟩
theorem lw_p22 : lw_okq (⟨"GearTypes$Rows", "putFacts", "(IIII)V"⟩, 4) := ⟨⟨by decide +kernel, by decide +kernel⟩, List.mem_of_getElem? (i := 39) (by decide +kernel), List.mem_of_getElem? (i := 429) (by decide +kernel), List.mem_of_getElem? (i := 430) (by decide +kernel)⟩
theorem lw_p23 : lw_okq (⟨"GearTypes$Rows", "variablesIn", "(II)I"⟩, 4) := ⟨⟨by decide +kernel, by decide +kernel⟩, List.mem_of_getElem? (i := 39) (by decide +kernel), List.mem_of_getElem? (i := 433) (by decide +kernel), List.mem_of_getElem? (i := 434) (by decide +kernel)⟩
theorem lw_p24 : lw_okq (⟨"GearTypes$Rows", "depthOf", "(II)I"⟩, 4) := ⟨⟨by decide +kernel, by decide +kernel⟩, List.mem_of_getElem? (i := 39) (by decide +kernel), List.mem_of_getElem? (i := 442) (by decide +kernel), List.mem_of_getElem? (i := 443) (by decide +kernel)⟩
theorem lw_p25 : lw_okq (⟨"GearTypes$Rows", "isPair", "(I)Z"⟩, 4) := ⟨⟨by decide +kernel, by decide +kernel⟩, List.mem_of_getElem? (i := 39) (by decide +kernel), List.mem_of_getElem? (i := 446) (by decide +kernel), List.mem_of_getElem? (i := 447) (by decide +kernel)⟩
theorem lw_p26 : lw_okq (⟨"GearTypes", "needPart", "(I)V"⟩, 3) := ⟨⟨by decide +kernel, by decide +kernel⟩, List.mem_of_getElem? (i := 15) (by decide +kernel), List.mem_of_getElem? (i := 464) (by decide +kernel), List.mem_of_getElem? (i := 465) (by decide +kernel)⟩
theorem lw_p27 : lw_okq (⟨"GearTypes", "needPlace", "(II)V"⟩, 3) := ⟨⟨by decide +kernel, by decide +kernel⟩, List.mem_of_getElem? (i := 15) (by decide +kernel), List.mem_of_getElem? (i := 468) (by decide +kernel), List.mem_of_getElem? (i := 469) (by decide +kernel)⟩
theorem lw_p28 : lw_okq (⟨"GearTypes", "counted", "(I)I"⟩, 3) := ⟨⟨by decide +kernel, by decide +kernel⟩, List.mem_of_getElem? (i := 15) (by decide +kernel), List.mem_of_getElem? (i := 537) (by decide +kernel), List.mem_of_getElem? (i := 538) (by decide +kernel)⟩
theorem lw_p29 : lw_okq (⟨"GearTypes", "bothTyped", "(II)Z"⟩, 3) := ⟨⟨by decide +kernel, by decide +kernel⟩, List.mem_of_getElem? (i := 15) (by decide +kernel), List.mem_of_getElem? (i := 545) (by decide +kernel), List.mem_of_getElem? (i := 546) (by decide +kernel)⟩
theorem lw_p30 : lw_okq (⟨"GearTypes", "faultOfTurning", "(II)I"⟩, 3) := ⟨⟨by decide +kernel, by decide +kernel⟩, List.mem_of_getElem? (i := 15) (by decide +kernel), List.mem_of_getElem? (i := 558) (by decide +kernel), List.mem_of_getElem? (i := 559) (by decide +kernel)⟩
theorem lw_p31 : lw_okq (⟨"GearTypes$Finder", "buildRow", "(LGearTypes$Rows;I)I"⟩, 5) := ⟨⟨by decide +kernel, by decide +kernel⟩, List.mem_of_getElem? (i := 59) (by decide +kernel), List.mem_of_getElem? (i := 566) (by decide +kernel), List.mem_of_getElem? (i := 567) (by decide +kernel)⟩
def lw_privs_2 : List (MethodName × Nat) := [(⟨"GearTypes$Types", "codeOf", "(I)I"⟩, 11), (⟨"GearTypes$Types", "seatOf", "(I)I"⟩, 11), (⟨"GearTypes$Finder", "findAxle", "(LGearTypes$Parts;II)I"⟩, 5), (⟨"GearTypes$Finder", "findEnd", "(LGearTypes$Parts;II)I"⟩, 5), (⟨"GearTypes$Finder", "findChoice", "(LGearTypes$Parts;II)I"⟩, 5), (⟨"GearTypes$Finder", "isTooLong", "(I)Z"⟩, 5), (⟨"GearTypes$Rows", "putFacts", "(IIII)V"⟩, 4), (⟨"GearTypes$Rows", "variablesIn", "(II)I"⟩, 4), (⟨"GearTypes$Rows", "depthOf", "(II)I"⟩, 4), (⟨"GearTypes$Rows", "isPair", "(I)Z"⟩, 4), (⟨"GearTypes", "needPart", "(I)V"⟩, 3), (⟨"GearTypes", "needPlace", "(II)V"⟩, 3), (⟨"GearTypes", "counted", "(I)I"⟩, 3), (⟨"GearTypes", "bothTyped", "(II)Z"⟩, 3), (⟨"GearTypes", "faultOfTurning", "(II)I"⟩, 3), (⟨"GearTypes$Finder", "buildRow", "(LGearTypes$Rows;I)I"⟩, 5)]
theorem lw_r2 : ∀ q ∈ lw_privs_2, lw_okq q := List.forall_mem_cons.mpr ⟨lw_p16, List.forall_mem_cons.mpr ⟨lw_p17, List.forall_mem_cons.mpr ⟨lw_p18, List.forall_mem_cons.mpr ⟨lw_p19, List.forall_mem_cons.mpr ⟨lw_p20, List.forall_mem_cons.mpr ⟨lw_p21, List.forall_mem_cons.mpr ⟨lw_p22, List.forall_mem_cons.mpr ⟨lw_p23, List.forall_mem_cons.mpr ⟨lw_p24, List.forall_mem_cons.mpr ⟨lw_p25, List.forall_mem_cons.mpr ⟨lw_p26, List.forall_mem_cons.mpr ⟨lw_p27, List.forall_mem_cons.mpr ⟨lw_p28, List.forall_mem_cons.mpr ⟨lw_p29, List.forall_mem_cons.mpr ⟨lw_p30, List.forall_mem_cons.mpr ⟨lw_p31, fun _ h => absurd h List.not_mem_nil⟩⟩⟩⟩⟩⟩⟩⟩⟩⟩⟩⟩⟩⟩⟩⟩
def lw_privs : List (MethodName × Nat) := lw_privs_1 ++ (lw_privs_2)
def lw_tbl : List Cond := k2_sels lw_privs ++ tables_1
theorem lw_privs_ok : ∀ q ∈ lw_privs, lw_okq q := by
  show ∀ q ∈ lw_privs_1 ++ (lw_privs_2), lw_okq q
  exact List.forall_mem_append.mpr ⟨lw_r1, lw_r2⟩
-- ===== end of PART A; then your names; then what follows =====
def RX0 : String := "GearTypes$Finder"
def TX0 : u_T := fun k => match k with
  | 0 => ("GearTypes$Finder", "types", "LGearTypes$Types;", true)
  | 1 => ("GearTypes$Finder", "names", "LGearTypes$Names;", true)
  | 2 => ("GearTypes$Finder", "row", "[I", true)
  | 3 => ("GearTypes$Finder", "fault", "I", false)
  | _ => ("GearTypes$Finder", "place", "I", false)
def tyX0 : Nat → FieldType := fun k => match k with
  | 0 => .object "GearTypes$Types"
  | 1 => .object "GearTypes$Names"
  | 2 => .array .int
  | 3 => .int
  | _ => .int
abbrev wsX00 : List Cond := u_ws RX0 TX0 5
theorem nmX0 : ∀ a, a < 5 → ∀ b, b < 5 → a ≠ b → (TX0 a).2.1 ≠ (TX0 b).2.1 := by decide +kernel
theorem tyX0_ok : ∀ k, k < 5 → parseFieldDescriptor (TX0 k).2.2.1 = some (tyX0 k) := by decide +kernel
abbrev cX0_init : ByteArray := prog_2_method_1_code
def yX0_init : MethodName := ⟨RX0, "<init>", "()V"⟩
abbrev cX0_settle : ByteArray := prog_2_method_2_code
def yX0_settle : MethodName := ⟨RX0, "settle", "(LGearTypes$Parts;ILGearTypes$Rows;)V"⟩
abbrev cX0_faultOfTurning : ByteArray := prog_2_method_3_code
def yX0_faultOfTurning : MethodName := ⟨RX0, "faultOfTurning", "(LGearTypes$Rows;II)I"⟩
abbrev cX0_buildRow : ByteArray := prog_2_method_4_code
def yX0_buildRow : MethodName := ⟨RX0, "buildRow", "(LGearTypes$Rows;I)I"⟩
abbrev cX0_isTooLong : ByteArray := prog_2_method_5_code
def yX0_isTooLong : MethodName := ⟨RX0, "isTooLong", "(I)Z"⟩
abbrev cX0_fail : ByteArray := prog_2_method_6_code
def yX0_fail : MethodName := ⟨RX0, "fail", "(II)I"⟩
abbrev cX0_find : ByteArray := prog_2_method_7_code
def yX0_find : MethodName := ⟨RX0, "find", "(LGearTypes$Parts;II)I"⟩
abbrev cX0_findName : ByteArray := prog_2_method_8_code
def yX0_findName : MethodName := ⟨RX0, "findName", "(LGearTypes$Parts;I)I"⟩
abbrev cX0_findWheel : ByteArray := prog_2_method_9_code
def yX0_findWheel : MethodName := ⟨RX0, "findWheel", "(LGearTypes$Parts;II)I"⟩
abbrev cX0_findTurning : ByteArray := prog_2_method_10_code
def yX0_findTurning : MethodName := ⟨RX0, "findTurning", "(LGearTypes$Parts;II)I"⟩
abbrev cX0_findTelling : ByteArray := prog_2_method_11_code
def yX0_findTelling : MethodName := ⟨RX0, "findTelling", "(LGearTypes$Parts;II)I"⟩
abbrev cX0_findAxle : ByteArray := prog_2_method_12_code
def yX0_findAxle : MethodName := ⟨RX0, "findAxle", "(LGearTypes$Parts;II)I"⟩
abbrev cX0_findEnd : ByteArray := prog_2_method_13_code
def yX0_findEnd : MethodName := ⟨RX0, "findEnd", "(LGearTypes$Parts;II)I"⟩
abbrev cX0_findChoice : ByteArray := prog_2_method_14_code
def yX0_findChoice : MethodName := ⟨RX0, "findChoice", "(LGearTypes$Parts;II)I"⟩
def RX1 : String := "GearTypes$Names"
def TX1 : u_T := fun k => match k with
  | 0 => ("GearTypes$Names", "labels", "[I", true)
  | 1 => ("GearTypes$Names", "codes", "[[I", true)
  | 2 => ("GearTypes$Names", "lengths", "[I", true)
  | _ => ("GearTypes$Names", "around", "I", false)
def tyX1 : Nat → FieldType := fun k => match k with
  | 0 => .array .int
  | 1 => .array (.array .int)
  | 2 => .array .int
  | _ => .int
abbrev wsX10 : List Cond := u_ws RX1 TX1 4
theorem nmX1 : ∀ a, a < 4 → ∀ b, b < 4 → a ≠ b → (TX1 a).2.1 ≠ (TX1 b).2.1 := by decide +kernel
theorem tyX1_ok : ∀ k, k < 4 → parseFieldDescriptor (TX1 k).2.2.1 = some (tyX1 k) := by decide +kernel
abbrev cX1_init : ByteArray := prog_3_method_1_code
def yX1_init : MethodName := ⟨RX1, "<init>", "()V"⟩
abbrev cX1_clear : ByteArray := prog_3_method_2_code
def yX1_clear : MethodName := ⟨RX1, "clear", "()V"⟩
abbrev cX1_put : ByteArray := prog_3_method_3_code
def yX1_put : MethodName := ⟨RX1, "put", "(I[II)V"⟩
abbrev cX1_markAll : ByteArray := prog_3_method_4_code
def yX1_markAll : MethodName := ⟨RX1, "markAll", "(LGearTypes$Types;)V"⟩
abbrev cX1_dropLast : ByteArray := prog_3_method_5_code
def yX1_dropLast : MethodName := ⟨RX1, "dropLast", "()V"⟩
abbrev cX1_latest : ByteArray := prog_3_method_6_code
def yX1_latest : MethodName := ⟨RX1, "latest", "(I)I"⟩
abbrev cX1_rowAt : ByteArray := prog_3_method_7_code
def yX1_rowAt : MethodName := ⟨RX1, "rowAt", "(I)[I"⟩
abbrev cX1_lengthAt : ByteArray := prog_3_method_8_code
def yX1_lengthAt : MethodName := ⟨RX1, "lengthAt", "(I)I"⟩
def RX2 : String := "GearTypes$Parts"
def TX2 : u_T := fun k => match k with
  | 0 => ("GearTypes$Parts", "facts", "[[I", true)
  | _ => ("GearTypes$Parts", "made", "I", false)
def tyX2 : Nat → FieldType := fun k => match k with
  | 0 => .array (.array .int)
  | _ => .int
abbrev wsX20 : List Cond := u_ws RX2 TX2 2
theorem nmX2 : ∀ a, a < 2 → ∀ b, b < 2 → a ≠ b → (TX2 a).2.1 ≠ (TX2 b).2.1 := by decide +kernel
theorem tyX2_ok : ∀ k, k < 2 → parseFieldDescriptor (TX2 k).2.2.1 = some (tyX2 k) := by decide +kernel
abbrev cX2_init : ByteArray := prog_4_method_1_code
def yX2_init : MethodName := ⟨RX2, "<init>", "()V"⟩
abbrev cX2_made : ByteArray := prog_4_method_2_code
def yX2_made : MethodName := ⟨RX2, "made", "()I"⟩
abbrev cX2_fact : ByteArray := prog_4_method_3_code
def yX2_fact : MethodName := ⟨RX2, "fact", "(II)I"⟩
abbrev cX2_sizeOver : ByteArray := prog_4_method_4_code
def yX2_sizeOver : MethodName := ⟨RX2, "sizeOver", "(III)I"⟩
abbrev cX2_sizeOf : ByteArray := prog_4_method_5_code
def yX2_sizeOf : MethodName := ⟨RX2, "sizeOf", "(I)I"⟩
abbrev cX2_depthOf : ByteArray := prog_4_method_6_code
def yX2_depthOf : MethodName := ⟨RX2, "depthOf", "(I)I"⟩
abbrev cX2_append : ByteArray := prog_4_method_7_code
def yX2_append : MethodName := ⟨RX2, "append", "(IIIII)I"⟩
abbrev cX2_dropLast : ByteArray := prog_4_method_8_code
def yX2_dropLast : MethodName := ⟨RX2, "dropLast", "()V"⟩
def RX3 : String := "GearTypes$Rows"
def TX3 : u_T := fun k => match k with
  | 0 => ("GearTypes$Rows", "codes", "[[I", true)
  | 1 => ("GearTypes$Rows", "facts", "[[I", true)
  | 2 => ("GearTypes$Rows", "depths", "[I", true)
  | _ => ("GearTypes$Rows", "starts", "[I", true)
def tyX3 : Nat → FieldType := fun k => match k with
  | 0 => .array (.array .int)
  | 1 => .array (.array .int)
  | 2 => .array .int
  | _ => .array .int
abbrev wsX30 : List Cond := u_ws RX3 TX3 4
theorem nmX3 : ∀ a, a < 4 → ∀ b, b < 4 → a ≠ b → (TX3 a).2.1 ≠ (TX3 b).2.1 := by decide +kernel
theorem tyX3_ok : ∀ k, k < 4 → parseFieldDescriptor (TX3 k).2.2.1 = some (tyX3 k) := by decide +kernel
abbrev cX3_init : ByteArray := prog_5_method_1_code
def yX3_init : MethodName := ⟨RX3, "<init>", "()V"⟩
abbrev cX3_fact : ByteArray := prog_5_method_2_code
def yX3_fact : MethodName := ⟨RX3, "fact", "(II)I"⟩
abbrev cX3_codeAt : ByteArray := prog_5_method_3_code
def yX3_codeAt : MethodName := ⟨RX3, "codeAt", "(II)I"⟩
abbrev cX3_putFault : ByteArray := prog_5_method_4_code
def yX3_putFault : MethodName := ⟨RX3, "putFault", "(III)V"⟩
abbrev cX3_putRow : ByteArray := prog_5_method_5_code
def yX3_putRow : MethodName := ⟨RX3, "putRow", "(I[II)V"⟩
abbrev cX3_putFacts : ByteArray := prog_5_method_6_code
def yX3_putFacts : MethodName := ⟨RX3, "putFacts", "(IIII)V"⟩
abbrev cX3_variablesIn : ByteArray := prog_5_method_7_code
def yX3_variablesIn : MethodName := ⟨RX3, "variablesIn", "(II)I"⟩
abbrev cX3_depthOf : ByteArray := prog_5_method_8_code
def yX3_depthOf : MethodName := ⟨RX3, "depthOf", "(II)I"⟩
abbrev cX3_alike : ByteArray := prog_5_method_9_code
def yX3_alike : MethodName := ⟨RX3, "alike", "(II)Z"⟩
abbrev cX3_isPair : ByteArray := prog_5_method_13_code
def yX3_isPair : MethodName := ⟨RX3, "isPair", "(I)Z"⟩
def RX4 : String := "GearTypes$Types"
def TX4 : u_T := fun k => match k with
  | 0 => ("GearTypes$Types", "kind", "[I", true)
  | 1 => ("GearTypes$Types", "left", "[I", true)
  | 2 => ("GearTypes$Types", "right", "[I", true)
  | 3 => ("GearTypes$Types", "mark", "[I", true)
  | 4 => ("GearTypes$Types", "work", "[I", true)
  | 5 => ("GearTypes$Types", "pairLeft", "[I", true)
  | 6 => ("GearTypes$Types", "pairRight", "[I", true)
  | 7 => ("GearTypes$Types", "seats", "[I", true)
  | 8 => ("GearTypes$Types", "seated", "I", false)
  | 9 => ("GearTypes$Types", "used", "I", false)
  | _ => ("GearTypes$Types", "stamp", "I", false)
def tyX4 : Nat → FieldType := fun k => match k with
  | 0 => .array .int
  | 1 => .array .int
  | 2 => .array .int
  | 3 => .array .int
  | 4 => .array .int
  | 5 => .array .int
  | 6 => .array .int
  | 7 => .array .int
  | 8 => .int
  | 9 => .int
  | _ => .int
abbrev wsX40 : List Cond := u_ws RX4 TX4 11
theorem nmX4 : ∀ a, a < 11 → ∀ b, b < 11 → a ≠ b → (TX4 a).2.1 ≠ (TX4 b).2.1 := by decide +kernel
theorem tyX4_ok : ∀ k, k < 11 → parseFieldDescriptor (TX4 k).2.2.1 = some (tyX4 k) := by decide +kernel
abbrev cX4_init : ByteArray := prog_6_method_1_code
def yX4_init : MethodName := ⟨RX4, "<init>", "()V"⟩
abbrev cX4_clear : ByteArray := prog_6_method_2_code
def yX4_clear : MethodName := ⟨RX4, "clear", "()V"⟩
abbrev cX4_make : ByteArray := prog_6_method_3_code
def yX4_make : MethodName := ⟨RX4, "make", "(III)I"⟩
abbrev cX4_newVariable : ByteArray := prog_6_method_4_code
def yX4_newVariable : MethodName := ⟨RX4, "newVariable", "()I"⟩
abbrev cX4_codeOfNode : ByteArray := prog_6_method_5_code
def yX4_codeOfNode : MethodName := ⟨RX4, "codeOfNode", "(I)I"⟩
abbrev cX4_forgetMarks : ByteArray := prog_6_method_6_code
def yX4_forgetMarks : MethodName := ⟨RX4, "forgetMarks", "()V"⟩
abbrev cX4_isNode : ByteArray := prog_6_method_7_code
def yX4_isNode : MethodName := ⟨RX4, "isNode", "(I)Z"⟩
abbrev cX4_nodeOfCode : ByteArray := prog_6_method_8_code
def yX4_nodeOfCode : MethodName := ⟨RX4, "nodeOfCode", "(I)I"⟩
abbrev cX4_markWithin : ByteArray := prog_6_method_9_code
def yX4_markWithin : MethodName := ⟨RX4, "markWithin", "(I)V"⟩
abbrev cX4_resolve : ByteArray := prog_6_method_10_code
def yX4_resolve : MethodName := ⟨RX4, "resolve", "(I)I"⟩
abbrev cX4_isPair : ByteArray := prog_6_method_11_code
def yX4_isPair : MethodName := ⟨RX4, "isPair", "(I)Z"⟩
abbrev cX4_match : ByteArray := prog_6_method_12_code
def yX4_match : MethodName := ⟨RX4, "match", "(II)I"⟩
abbrev cX4_putPair : ByteArray := prog_6_method_13_code
def yX4_putPair : MethodName := ⟨RX4, "putPair", "(III)I"⟩
abbrev cX4_give : ByteArray := prog_6_method_14_code
def yX4_give : MethodName := ⟨RX4, "give", "(II)V"⟩
abbrev cX4_write : ByteArray := prog_6_method_15_code
def yX4_write : MethodName := ⟨RX4, "write", "(I[I)I"⟩
abbrev cX4_codeOf : ByteArray := prog_6_method_16_code
def yX4_codeOf : MethodName := ⟨RX4, "codeOf", "(I)I"⟩
abbrev cX4_seatOf : ByteArray := prog_6_method_17_code
def yX4_seatOf : MethodName := ⟨RX4, "seatOf", "(I)I"⟩
abbrev cX4_build : ByteArray := prog_6_method_18_code
def yX4_build : MethodName := ⟨RX4, "build", "([II)I"⟩
abbrev cX4_variableAt : ByteArray := prog_6_method_19_code
def yX4_variableAt : MethodName := ⟨RX4, "variableAt", "(I)I"⟩
def RX5 : String := "GearTypes"
def TX5 : u_T := fun k => match k with
  | 0 => ("GearTypes", "parts", "LGearTypes$Parts;", true)
  | 1 => ("GearTypes", "rows", "LGearTypes$Rows;", true)
  | _ => ("GearTypes", "finder", "LGearTypes$Finder;", true)
def tyX5 : Nat → FieldType := fun k => match k with
  | 0 => .object "GearTypes$Parts"
  | 1 => .object "GearTypes$Rows"
  | _ => .object "GearTypes$Finder"
abbrev wsX50 : List Cond := u_ws RX5 TX5 3
theorem nmX5 : ∀ a, a < 3 → ∀ b, b < 3 → a ≠ b → (TX5 a).2.1 ≠ (TX5 b).2.1 := by decide +kernel
theorem tyX5_ok : ∀ k, k < 3 → parseFieldDescriptor (TX5 k).2.2.1 = some (tyX5 k) := by decide +kernel
abbrev cX5_init : ByteArray := prog_1_method_1_code
def yX5_init : MethodName := ⟨RX5, "<init>", "()V"⟩
abbrev cX5_plain : ByteArray := prog_1_method_2_code
def yX5_plain : MethodName := ⟨RX5, "plain", "(I)I"⟩
abbrev cX5_name : ByteArray := prog_1_method_3_code
def yX5_name : MethodName := ⟨RX5, "name", "(I)I"⟩
abbrev cX5_wheel : ByteArray := prog_1_method_4_code
def yX5_wheel : MethodName := ⟨RX5, "wheel", "(II)I"⟩
abbrev cX5_turn : ByteArray := prog_1_method_5_code
def yX5_turn : MethodName := ⟨RX5, "turn", "(II)I"⟩
abbrev cX5_tell : ByteArray := prog_1_method_6_code
def yX5_tell : MethodName := ⟨RX5, "tell", "(III)I"⟩
abbrev cX5_axle : ByteArray := prog_1_method_7_code
def yX5_axle : MethodName := ⟨RX5, "axle", "(II)I"⟩
abbrev cX5_end : ByteArray := prog_1_method_8_code
def yX5_end : MethodName := ⟨RX5, "end", "(II)I"⟩
abbrev cX5_either : ByteArray := prog_1_method_9_code
def yX5_either : MethodName := ⟨RX5, "either", "(III)I"⟩
abbrev cX5_undo : ByteArray := prog_1_method_10_code
def yX5_undo : MethodName := ⟨RX5, "undo", "()I"⟩
abbrev cX5_part : ByteArray := prog_1_method_11_code
def yX5_part : MethodName := ⟨RX5, "part", "(II)I"⟩
abbrev cX5_type : ByteArray := prog_1_method_12_code
def yX5_type : MethodName := ⟨RX5, "type", "(II)I"⟩
abbrev cX5_code : ByteArray := prog_1_method_13_code
def yX5_code : MethodName := ⟨RX5, "code", "(II)I"⟩
abbrev cX5_count : ByteArray := prog_1_method_14_code
def yX5_count : MethodName := ⟨RX5, "count", "(I)I"⟩
abbrev cX5_same : ByteArray := prog_1_method_15_code
def yX5_same : MethodName := ⟨RX5, "same", "(II)Z"⟩
abbrev cX5_goes : ByteArray := prog_1_method_17_code
def yX5_goes : MethodName := ⟨RX5, "goes", "(II)I"⟩
abbrev cX5_needPart : ByteArray := prog_1_method_22_code
def yX5_needPart : MethodName := ⟨RX5, "needPart", "(I)V"⟩
abbrev cX5_needPlace : ByteArray := prog_1_method_23_code
def yX5_needPlace : MethodName := ⟨RX5, "needPlace", "(II)V"⟩
abbrev cX5_needBetween : ByteArray := prog_1_method_24_code
def yX5_needBetween : MethodName := ⟨RX5, "needBetween", "(III)V"⟩
abbrev cX5_add : ByteArray := prog_1_method_25_code
def yX5_add : MethodName := ⟨RX5, "add", "(IIIII)I"⟩
abbrev cX5_counted : ByteArray := prog_1_method_26_code
def yX5_counted : MethodName := ⟨RX5, "counted", "(I)I"⟩
abbrev cX5_bothTyped : ByteArray := prog_1_method_27_code
def yX5_bothTyped : MethodName := ⟨RX5, "bothTyped", "(II)Z"⟩
abbrev cX5_faultOfTurning : ByteArray := prog_1_method_28_code
def yX5_faultOfTurning : MethodName := ⟨RX5, "faultOfTurning", "(II)I"⟩
def RX6 : String := "GearTypesLaw$Look"
def TX6 : u_T := fun k => match k with
  | _ => ("", "", "", false)
def tyX6 : Nat → FieldType := fun k => match k with
  | _ => .int
abbrev wsX60 : List Cond := u_ws RX6 TX6 0
theorem nmX6 : ∀ a, a < 0 → ∀ b, b < 0 → a ≠ b → (TX6 a).2.1 ≠ (TX6 b).2.1 := by decide +kernel
theorem tyX6_ok : ∀ k, k < 0 → parseFieldDescriptor (TX6 k).2.2.1 = some (tyX6 k) := by decide +kernel
def RX7 : String := "GearTypesModel"
def TX7 : u_T := fun k => match k with
  | _ => ("", "", "", false)
def tyX7 : Nat → FieldType := fun k => match k with
  | _ => .int
abbrev wsX70 : List Cond := u_ws RX7 TX7 0
theorem nmX7 : ∀ a, a < 0 → ∀ b, b < 0 → a ≠ b → (TX7 a).2.1 ≠ (TX7 b).2.1 := by decide +kernel
theorem tyX7_ok : ∀ k, k < 0 → parseFieldDescriptor (TX7 k).2.2.1 = some (tyX7 k) := by decide +kernel
def RL : String := "GearTypesLaw"
abbrev cL_below : ByteArray := method_2_code
def yL_below : MethodName := ⟨RL, "below", "(II)I"⟩
abbrev cL_cell : ByteArray := method_3_code
def yL_cell : MethodName := ⟨RL, "cell", "([II)I"⟩
abbrev cL_size : ByteArray := method_5_code
def yL_size : MethodName := ⟨RL, "size", "([[II)I"⟩
abbrev cL_more : ByteArray := method_7_code
def yL_more : MethodName := ⟨RL, "more", "(LGearTypes;[[II)[[I"⟩
abbrev cL_build : ByteArray := method_8_code
def yL_build : MethodName := ⟨RL, "build", "(LGearTypes;[I)[[I"⟩
abbrev cL_law : ByteArray := code
def yL_law : MethodName := ⟨RL, "law", "([I)Z"⟩
abbrev cL_isFault : ByteArray := method_10_code
def yL_isFault : MethodName := ⟨RL, "isFault", "(LGearTypes;II[I)Z"⟩
abbrev vwCl : List vw_C := [(RX0, TX0, 5), (RX1, TX1, 4), (RX2, TX2, 2), (RX3, TX3, 4), (RX4, TX4, 11), (RX5, TX5, 3)]
end
section
/-! THE WHOLE SYSTEM'S MEMORY AS ONE FUNCTION OF TWO NUMBERS: cell, place ↦ Int32. Every cell of the class, of the reference and of the law has a fixed number ('logical cell'). -/
/-- the words of the tables that a call may take along -/
def gtb : List Cond := lw_tbl.filter goodWord
theorem g_tb {w : Cond} (h : w ∈ lw_tbl) (hg : goodWord w = true) : w ∈ gtb := List.mem_filter.mpr ⟨h, hg⟩
def g_ws (y : MethodName) (b : ByteArray) (n : Nat) (r : Option FieldType) : List Cond := Cond.code y b n r :: gtb
theorem g_word {w : Cond} (h : w ∈ gtb) : goodWord w = true := (List.mem_filter.mp h).2
theorem g_inL {z : MethodName} {b2 : ByteArray} {n2 : Nat} {r2 : Option FieldType} (h : Cond.code z b2 n2 r2 ∈ gtb) : GoodIn gtb (g_ws z b2 n2 r2) := by
  intro w hw
  rcases List.mem_cons.mp hw with rfl | hw
  · exact ⟨h, good_of_word (g_word h)⟩
  · exact ⟨hw, good_of_word (g_word hw)⟩
abbrev gM : Type := Nat → Nat → Int32
/-- class ids of int[], int[][] -/
abbrev gT : Type := ClassId × ClassId
abbrev gV : Type := Nat ⊕ Value
abbrev gi (x : Int32) : gV := .inr (.int x)
abbrev gl (x : Int64) : gV := .inr (.long x)
abbrev gd (x : UInt64) : gV := .inr (.double x)
abbrev gr (i : Nat) : gV := .inl i
def g_v (ad : Nat → Nat) : gV → Value
  | .inl i => .ref (ad i)
  | .inr v => v
def g_q (ad : Nat → Nat) (q : Nat × gV) : Nat × Value := (q.1, g_v ad q.2)
/-- the outer array of rows b, b + 1, .. -/
def g_out (ad : Nat → Nat) (b : Nat) : vp_A := (40, .inr (.inr (.inr (.inr (fun j => if j < 40 then some (ad (b + j)) else none)))))
/-- the law's arrays of rows: a place names a cell ahead of its own, or none -/
def g_rf (ad : Nat → Nat) (f : Nat → Int32) (i : Nat) : Nat → Option Nat := fun j => if f j < 0 ∨ i ≤ (f j).toNatClampNeg then none else some (ad (f j).toNatClampNeg)
/-- what a cell of number i with row f is (n: its places; 1000 and more: an array of rows, of n - 1000 places) -/
def g_ce (g : gT) (ad : Nat → Nat) (n : Nat) (f : Nat → Int32) (i : Nat) : va_E :=
  if i = 129 then .inr (4, [.ref (ad 130), .ref (ad 131), .ref (ad 132), .ref (ad 133), .ref (ad 134), .ref (ad 135), .ref (ad 136), .ref (ad 137), .int (f 8), .int (f 9), .int (f 10)])
  else if i = 0 then .inr (5, [.ref (ad 1), .ref (ad 43), .ref (ad 128)])
  else if i = 1 then .inr (2, [.ref (ad 2), .int (f 1)])
  else if i = 43 then .inr (3, [.ref (ad 44), .ref (ad 85), .ref (ad 126), .ref (ad 127)])
  else if i = 128 then .inr (0, [.ref (ad 129), .ref (ad 138), .ref (ad 182), .int (f 3), .int (f 4)])
  else if i = 138 then .inr (1, [.ref (ad 139), .ref (ad 140), .ref (ad 181), .int (f 3)])
  else if i = 2 then .inl (g.2, g_out ad 3)
  else if i = 44 then .inl (g.2, g_out ad 45)
  else if i = 85 then .inl (g.2, g_out ad 86)
  else if i = 140 then .inl (g.2, g_out ad 141)
  else if 183 ≤ i ∧ 1000 ≤ n then .inl (g.2, n - 1000, .inr (.inr (.inr (.inr (g_rf ad f i)))))
  else .inl (g.1, n, .inl f)
/-- the plain int arrays of the class -/
def g_isI (i : Nat) : Bool := decide (i < 183) && !([129, 0, 1, 43, 128, 138, 2, 44, 85, 140].contains i)
theorem g_ce_I {g : gT} {ad : Nat → Nat} {n : Nat} {f : Nat → Int32} {i : Nat} (h : g_isI i = true) : g_ce g ad n f i = .inl (g.1, n, .inl f) := by
  have h : i < 183 ∧ ¬ (i = 129 ∨ i = 0 ∨ i = 1 ∨ i = 43 ∨ i = 128 ∨ i = 138 ∨ i = 2 ∨ i = 44 ∨ i = 85 ∨ i = 140) := by
    simpa [g_isI] using h
  unfold g_ce
  rw [if_neg (by omega), if_neg (by omega), if_neg (by omega), if_neg (by omega), if_neg (by omega), if_neg (by omega), if_neg (by omega), if_neg (by omega), if_neg (by omega), if_neg (by omega), if_neg (by omega)]
/-- the law's rows of numbers, and its arrays of rows -/
theorem g_ce_J {g : gT} {ad : Nat → Nat} {n : Nat} {f : Nat → Int32} {i : Nat} (h : 183 ≤ i) (hn : n < 1000) : g_ce g ad n f i = .inl (g.1, n, .inl f) := by
  unfold g_ce
  rw [if_neg (by omega), if_neg (by omega), if_neg (by omega), if_neg (by omega), if_neg (by omega), if_neg (by omega), if_neg (by omega), if_neg (by omega), if_neg (by omega), if_neg (by omega), if_neg (by omega)]
theorem g_ce_R {g : gT} {ad : Nat → Nat} {n : Nat} {f : Nat → Int32} {i : Nat} (h : 183 ≤ i) (hn : 1000 ≤ n) : g_ce g ad n f i = .inl (g.2, n - 1000, .inr (.inr (.inr (.inr (g_rf ad f i))))) := by
  unfold g_ce
  rw [if_neg (by omega), if_neg (by omega), if_neg (by omega), if_neg (by omega), if_neg (by omega), if_neg (by omega), if_neg (by omega), if_neg (by omega), if_neg (by omega), if_neg (by omega), if_pos ⟨h, hn⟩]
def g_len (i : Nat) : Nat :=
  if i < 43 then 7 else if i < 85 then 60 else if i < 126 then 5 else if i < 128 then 60 else if i < 134 then 2600 else if i < 137 then 5208 else if i < 138 then 60 else if i < 140 then 40 else if i < 181 then 60 else if i < 182 then 40 else 60
/-- how many places cell i has: ln says it of the law's -/
def g_ln (ln : Nat → Nat) (i : Nat) : Nat := if 183 ≤ i then ln i else g_len i
theorem g_ln_c {ln : Nat → Nat} {i : Nat} (h : i < 183) : g_ln ln i = g_len i := if_neg (by omega)
theorem g_ln_b {ln : Nat → Nat} {i : Nat} (h : 183 ≤ i) : g_ln ln i = ln i := if_pos h
def gw (g : gT) (ad ln : Nat → Nat) (A : gM) (N : Nat) : va_W := (List.range N).map (fun i => (ad i, g_ce g ad (g_ln ln i) (A i) i))
theorem gw_at {g : gT} {ad ln : Nat → Nat} {A : gM} {N i : Nat} (h : i < N) : (gw g ad ln A N)[i]? = some (ad i, g_ce g ad (g_ln ln i) (A i) i) := by
  simp [gw, h]
theorem gw_of {g : gT} {ad ln : Nat → Nat} {A : gM} {N k : Nat} {q : Nat × va_E} (h : (gw g ad ln A N)[k]? = some q) : k < N ∧ q = (ad k, g_ce g ad (g_ln ln k) (A k) k) := by
  have hk : k < N := by
    have := (List.getElem?_eq_some_iff.mp h).1
    simpa [gw] using this
  refine ⟨hk, ?_⟩
  rw [gw_at hk] at h
  exact (Option.some.inj h).symm
/-- row i of A becomes f -/
def g_row (A : gM) (i : Nat) (f : Nat → Int32) : gM := fun a => if a = i then f else A a
/-- place j of cell i becomes v -/
def g_up (A : gM) (i j : Nat) (v : Int32) : gM := g_row A i (upd (A i) j v)
theorem g_row_s {A : gM} {i : Nat} {f : Nat → Int32} : g_row A i f i = f := if_pos rfl
theorem g_row_n {A : gM} {i a : Nat} {f : Nat → Int32} (h : a ≠ i) : g_row A i f a = A a := if_neg h
theorem gw_set {g : gT} {ad ln : Nat → Nat} {A : gM} {N i : Nat} {f : Nat → Int32} (h : i < N) : (gw g ad ln A N).set i (ad i, g_ce g ad (g_ln ln i) f i) = gw g ad ln (g_row A i f) N := by
  apply List.ext_getElem?
  intro k
  rw [List.getElem?_set]
  by_cases hk : k < N
  · rw [gw_at hk]
    by_cases e : i = k
    · subst e
      rw [if_pos rfl, if_pos (by simpa [gw] using h), gw_at h, g_row_s]
    · rw [if_neg e, gw_at hk, g_row_n (fun q => e q.symm)]
  · have h2 : (gw g ad ln (g_row A i f) N)[k]? = none := by
      rw [List.getElem?_eq_none_iff]; simp [gw]; omega
    rw [h2, if_neg (by omega), List.getElem?_eq_none_iff]
    simp [gw]; omega
abbrev g_tys (g : gT) : List (ClassId × FieldType) := [(g.1, .int), (g.2, .array .int)]
section GJ
variable {p : Program} {l : Launch} {e : Env} {R : Room} {s : State} {m : MethodId} {args : Array Value} {below : List Frame} {meth : Method} {c : Code} {Q : State → Prop} {nL : Nat} {D : va_G} {g : gT} {As : Nat → Prop} {N : Nat} {ad ln : Nat → Nat} {A : gM} {loc loc' : List (Nat × gV)} {k n pc : Nat} {st : List gV} {cc : ByteArray} {own : String} {d : Nat}
/-- the machine at pc, the world gw, locals loc, operands st, comes to Q -/
def gJ (p : Program) (l : Launch) (e : Env) (R : Room) (s : State) (m : MethodId) (args : Array Value) (below : List Frame) (meth : Method) (c : Code) (Q : State → Prop) (nL : Nat) (D : va_G) (g : gT) (As : Nat → Prop) (N : Nat) (ad ln : Nat → Nat) (A : gM) (loc : List (Nat × gV)) (k n pc : Nat) (st : List gV) : Prop :=
  ∀ (H : Heap) (locs : List Loc) (ls : Array Slot), va_P D vwCl (gw g ad ln A N) H → va_D As (gw g ad ln A N) → va_S As s.heap H locs → lv_has ls nL (loc.map (g_q ad)) → W p l e R s m args below meth c H locs k n Q (F0 m pc ls (st.map (g_v ad)))
/-- what stays while a method runs -/
def gC (p : Program) (R : Room) (s : State) (m : MethodId) (args : Array Value) (meth : Method) (c : Code) (cc : ByteArray) (own : String) (nL : Nat) (D : va_G) (g : gT) (As : Nat → Prop) (d : Nat) : Prop :=
  p.tables.exec = Jvm.exec ∧ c.code = cc ∧ c.maxLocals = nL ∧ s.vm.findClass own = some m.cls ∧ (∀ w ∈ gtb, w.before args s = true) ∧ va_K D vwCl (g_tys g) s ∧ (∀ q : Nat, s.heap.size ≤ q → As q) ∧ meth.locks = false ∧ d ≤ R.frames ∧ 40 * d ≤ R.locals
theorem g_pc {pc2 : Nat} (h : pc = pc2) (kk : gJ p l e R s m args below meth c Q nL D g As N ad ln A loc k n pc2 st) : gJ p l e R s m args below meth c Q nL D g As N ad ln A loc k n pc st := h ▸ kk
theorem g_mem {A2 : gM} (h : A = A2) (kk : gJ p l e R s m args below meth c Q nL D g As N ad ln A2 loc k n pc st) : gJ p l e R s m args below meth c Q nL D g As N ad ln A loc k n pc st := h ▸ kk
theorem g_sub (ks : List Nat) (h : ks.filterMap (fun i => loc[i]?) = loc') (kk : gJ p l e R s m args below meth c Q nL D g As N ad ln A loc' k n pc st) : gJ p l e R s m args below meth c Q nL D g As N ad ln A loc k n pc st := by
  intro H locs ls hP hD hS hl
  refine kk H locs ls hP hD hS ⟨hl.1, hl.2.1, fun q hq => hl.2.2 q ?_⟩
  obtain ⟨q0, h0, rfl⟩ := List.mem_map.mp hq
  rw [← h] at h0
  obtain ⟨i, -, hi⟩ := List.mem_filterMap.mp h0
  exact List.mem_map.mpr ⟨q0, List.mem_of_getElem? hi, rfl⟩
variable (C : gC p R s m args meth c cc own nL D g As d)
theorem g_at {ad : Nat → Nat} {loc : List (Nat × gV)} {ls : Array Slot} {q i : Nat} {v : gV} (hl : lv_has ls nL (loc.map (g_q ad))) (h : loc[q]? = some (i, v)) : ls[i]? = some (.val (g_v ad v)) :=
  lv_at hl q (by rw [List.getElem?_map, h]; rfl)
theorem g_iconst (C : gC p R s m args meth c cc own nL D g As d) {v : Int32} {z : Int} (hdg : decode cc pc = .ok (.iconst z, 1)) (hv : Int32.ofInt z = v) (kk : gJ p l e R s m args below meth c Q nL D g As N ad ln A loc k n (pc + 1) (gi v :: st)) : gJ p l e R s m args below meth c Q nL D g As N ad ln A loc k n pc (st) := fun H locs ls hP hD hS hl => lv_iconst C.1 C.2.1 hdg hv (kk H locs ls hP hD hS hl)
theorem g_bipush (C : gC p R s m args meth c cc own nL D g As d) {v : Int32} {z : Int} (hdg : decode cc pc = .ok (.bipush z, 2)) (hv : (Int8.ofInt z).toInt32 = v) (kk : gJ p l e R s m args below meth c Q nL D g As N ad ln A loc k n (pc + 2) (gi v :: st)) : gJ p l e R s m args below meth c Q nL D g As N ad ln A loc k n pc (st) := fun H locs ls hP hD hS hl => lv_bipush C.1 C.2.1 hdg hv (kk H locs ls hP hD hS hl)
theorem g_sipush (C : gC p R s m args meth c cc own nL D g As d) {v : Int32} {z : Int} (hdg : decode cc pc = .ok (.sipush z, 3)) (hv : (Int16.ofInt z).toInt32 = v) (kk : gJ p l e R s m args below meth c Q nL D g As N ad ln A loc k n (pc + 3) (gi v :: st)) : gJ p l e R s m args below meth c Q nL D g As N ad ln A loc k n pc (st) := fun H locs ls hP hD hS hl => lv_sipush C.1 C.2.1 hdg hv (kk H locs ls hP hD hS hl)
theorem g_lconst (C : gC p R s m args meth c cc own nL D g As d) {v : Int64} {z : Fin 2} (hdg : decode cc pc = .ok (.lconst z, 1)) (hv : Int64.ofNat (z : Nat) = v) (kk : gJ p l e R s m args below meth c Q nL D g As N ad ln A loc k n (pc + 1) (gl v :: st)) : gJ p l e R s m args below meth c Q nL D g As N ad ln A loc k n pc (st) := fun H locs ls hP hD hS hl => lv_lconst C.1 C.2.1 hdg hv (kk H locs ls hP hD hS hl)
theorem g_ldc (C : gC p R s m args meth c cc own nL D g As d) {v : Int32} {ix : Nat} (hw : Cond.constant own ix v ∈ gtb) (hdg : decode cc pc = .ok (.ldc ix, 2)) (kk : gJ p l e R s m args below meth c Q nL D g As N ad ln A loc k n (pc + 2) (gi v :: st)) : gJ p l e R s m args below meth c Q nL D g As N ad ln A loc k n pc (st) := fun H locs ls hP hD hS hl => lv_ldc C.1 C.2.1 C.2.2.2.1 (C.2.2.2.2.1 _ hw) hdg (kk H locs ls hP hD hS hl)
theorem g_ldc2 (C : gC p R s m args meth c cc own nL D g As d) {v : Int64} {ix : Nat} (hw : Cond.constantLong own ix v ∈ gtb) (hdg : decode cc pc = .ok (.ldc2_w ix, 3)) (kk : gJ p l e R s m args below meth c Q nL D g As N ad ln A loc k n (pc + 3) (gl v :: st)) : gJ p l e R s m args below meth c Q nL D g As N ad ln A loc k n pc (st) := fun H locs ls hP hD hS hl => lv_ldc2 C.1 C.2.1 C.2.2.2.1 (C.2.2.2.2.1 _ hw) hdg (kk H locs ls hP hD hS hl)
theorem g_dconst0 (C : gC p R s m args meth c cc own nL D g As d) (hdg : decode cc pc = .ok (.dconst 0, 1)) (kk : gJ p l e R s m args below meth c Q nL D g As N ad ln A loc k n (pc + 1) (gd 0 :: st)) : gJ p l e R s m args below meth c Q nL D g As N ad ln A loc k n pc (st) := fun H locs ls hP hD hS hl => lv_dconst0 C.1 C.2.1 hdg (kk H locs ls hP hD hS hl)
theorem g_iload_n (C : gC p R s m args meth c cc own nL D g As d) (q : Nat) {x : Int32} {z : Fin 4} (hdg : decode cc pc = .ok (.iload_n z, 1)) (h : loc[q]? = some ((z : Nat), gi x)) (kk : gJ p l e R s m args below meth c Q nL D g As N ad ln A loc k n (pc + 1) (gi x :: st)) : gJ p l e R s m args below meth c Q nL D g As N ad ln A loc k n pc (st) := fun H locs ls hP hD hS hl => lv_iload_n C.1 C.2.1 hdg rfl (g_at hl h) (kk H locs ls hP hD hS hl)
theorem g_iload (C : gC p R s m args meth c cc own nL D g As d) (q : Nat) {x : Int32} {i : Nat} (hdg : decode cc pc = .ok (.iload i, 2)) (h : loc[q]? = some (i, gi x)) (kk : gJ p l e R s m args below meth c Q nL D g As N ad ln A loc k n (pc + 2) (gi x :: st)) : gJ p l e R s m args below meth c Q nL D g As N ad ln A loc k n pc (st) := fun H locs ls hP hD hS hl => lv_iload C.1 C.2.1 hdg (g_at hl h) (kk H locs ls hP hD hS hl)
theorem g_lload_n (C : gC p R s m args meth c cc own nL D g As d) (q : Nat) {x : Int64} {z : Fin 4} (hdg : decode cc pc = .ok (.lload_n z, 1)) (h : loc[q]? = some ((z : Nat), gl x)) (kk : gJ p l e R s m args below meth c Q nL D g As N ad ln A loc k n (pc + 1) (gl x :: st)) : gJ p l e R s m args below meth c Q nL D g As N ad ln A loc k n pc (st) := fun H locs ls hP hD hS hl => lv_lload_n C.1 C.2.1 hdg rfl (g_at hl h) (kk H locs ls hP hD hS hl)
theorem g_lload (C : gC p R s m args meth c cc own nL D g As d) (q : Nat) {x : Int64} {i : Nat} (hdg : decode cc pc = .ok (.lload i, 2)) (h : loc[q]? = some (i, gl x)) (kk : gJ p l e R s m args below meth c Q nL D g As N ad ln A loc k n (pc + 2) (gl x :: st)) : gJ p l e R s m args below meth c Q nL D g As N ad ln A loc k n pc (st) := fun H locs ls hP hD hS hl => lv_lload C.1 C.2.1 hdg (g_at hl h) (kk H locs ls hP hD hS hl)
theorem g_aload_n (C : gC p R s m args meth c cc own nL D g As d) (q : Nat) {x : Nat} {z : Fin 4} (hdg : decode cc pc = .ok (.aload_n z, 1)) (h : loc[q]? = some ((z : Nat), gr x)) (kk : gJ p l e R s m args below meth c Q nL D g As N ad ln A loc k n (pc + 1) (gr x :: st)) : gJ p l e R s m args below meth c Q nL D g As N ad ln A loc k n pc (st) := fun H locs ls hP hD hS hl => lv_aload_n C.1 C.2.1 hdg rfl (g_at hl h) (kk H locs ls hP hD hS hl)
theorem g_aload (C : gC p R s m args meth c cc own nL D g As d) (q : Nat) {x : Nat} {i : Nat} (hdg : decode cc pc = .ok (.aload i, 2)) (h : loc[q]? = some (i, gr x)) (kk : gJ p l e R s m args below meth c Q nL D g As N ad ln A loc k n (pc + 2) (gr x :: st)) : gJ p l e R s m args below meth c Q nL D g As N ad ln A loc k n pc (st) := fun H locs ls hP hD hS hl => lv_aload C.1 C.2.1 hdg (g_at hl h) (kk H locs ls hP hD hS hl)
theorem g_dload_n (C : gC p R s m args meth c cc own nL D g As d) (q : Nat) {x : UInt64} {z : Fin 4} (hdg : decode cc pc = .ok (.dload_n z, 1)) (h : loc[q]? = some ((z : Nat), gd x)) (kk : gJ p l e R s m args below meth c Q nL D g As N ad ln A loc k n (pc + 1) (gd x :: st)) : gJ p l e R s m args below meth c Q nL D g As N ad ln A loc k n pc (st) := fun H locs ls hP hD hS hl => lv_dload_n C.1 C.2.1 hdg rfl (g_at hl h) (kk H locs ls hP hD hS hl)
theorem g_dload (C : gC p R s m args meth c cc own nL D g As d) (q : Nat) {x : UInt64} {i : Nat} (hdg : decode cc pc = .ok (.dload i, 2)) (h : loc[q]? = some (i, gd x)) (kk : gJ p l e R s m args below meth c Q nL D g As N ad ln A loc k n (pc + 2) (gd x :: st)) : gJ p l e R s m args below meth c Q nL D g As N ad ln A loc k n pc (st) := fun H locs ls hP hD hS hl => lv_dload C.1 C.2.1 hdg (g_at hl h) (kk H locs ls hP hD hS hl)
theorem g_iadd (C : gC p R s m args meth c cc own nL D g As d) {x y : Int32} (hdg : decode cc pc = .ok (.iadd, 1)) (kk : gJ p l e R s m args below meth c Q nL D g As N ad ln A loc k n (pc + 1) (gi (x + y) :: st)) : gJ p l e R s m args below meth c Q nL D g As N ad ln A loc k n pc (gi y :: gi x :: st) := fun H locs ls hP hD hS hl => lv_iadd C.1 C.2.1 hdg (kk H locs ls hP hD hS hl)
theorem g_isub (C : gC p R s m args meth c cc own nL D g As d) {x y : Int32} (hdg : decode cc pc = .ok (.isub, 1)) (kk : gJ p l e R s m args below meth c Q nL D g As N ad ln A loc k n (pc + 1) (gi (x - y) :: st)) : gJ p l e R s m args below meth c Q nL D g As N ad ln A loc k n pc (gi y :: gi x :: st) := fun H locs ls hP hD hS hl => lv_isub C.1 C.2.1 hdg (kk H locs ls hP hD hS hl)
theorem g_imul (C : gC p R s m args meth c cc own nL D g As d) {x y : Int32} (hdg : decode cc pc = .ok (.imul, 1)) (kk : gJ p l e R s m args below meth c Q nL D g As N ad ln A loc k n (pc + 1) (gi (x * y) :: st)) : gJ p l e R s m args below meth c Q nL D g As N ad ln A loc k n pc (gi y :: gi x :: st) := fun H locs ls hP hD hS hl => lv_imul C.1 C.2.1 hdg (kk H locs ls hP hD hS hl)
theorem g_iand (C : gC p R s m args meth c cc own nL D g As d) {x y : Int32} (hdg : decode cc pc = .ok (.iand, 1)) (kk : gJ p l e R s m args below meth c Q nL D g As N ad ln A loc k n (pc + 1) (gi (x &&& y) :: st)) : gJ p l e R s m args below meth c Q nL D g As N ad ln A loc k n pc (gi y :: gi x :: st) := fun H locs ls hP hD hS hl => lv_iand C.1 C.2.1 hdg (kk H locs ls hP hD hS hl)
theorem g_ladd (C : gC p R s m args meth c cc own nL D g As d) {x y : Int64} (hdg : decode cc pc = .ok (.ladd, 1)) (kk : gJ p l e R s m args below meth c Q nL D g As N ad ln A loc k n (pc + 1) (gl (x + y) :: st)) : gJ p l e R s m args below meth c Q nL D g As N ad ln A loc k n pc (gl y :: gl x :: st) := fun H locs ls hP hD hS hl => lv_ladd C.1 C.2.1 hdg (kk H locs ls hP hD hS hl)
theorem g_lmul (C : gC p R s m args meth c cc own nL D g As d) {x y : Int64} (hdg : decode cc pc = .ok (.lmul, 1)) (kk : gJ p l e R s m args below meth c Q nL D g As N ad ln A loc k n (pc + 1) (gl (x * y) :: st)) : gJ p l e R s m args below meth c Q nL D g As N ad ln A loc k n pc (gl y :: gl x :: st) := fun H locs ls hP hD hS hl => lv_lmul C.1 C.2.1 hdg (kk H locs ls hP hD hS hl)
theorem g_i2l (C : gC p R s m args meth c cc own nL D g As d) {x : Int32} (hdg : decode cc pc = .ok (.i2l, 1)) (kk : gJ p l e R s m args below meth c Q nL D g As N ad ln A loc k n (pc + 1) (gl x.toInt64 :: st)) : gJ p l e R s m args below meth c Q nL D g As N ad ln A loc k n pc (gi x :: st) := fun H locs ls hP hD hS hl => lv_i2l C.1 C.2.1 hdg rfl (kk H locs ls hP hD hS hl)
theorem g_i2d (C : gC p R s m args meth c cc own nL D g As d) {x : Int32} (hdg : decode cc pc = .ok (.i2d, 1)) (kk : gJ p l e R s m args below meth c Q nL D g As N ad ln A loc k n (pc + 1) (gd (FP.i2d x) :: st)) : gJ p l e R s m args below meth c Q nL D g As N ad ln A loc k n pc (gi x :: st) := fun H locs ls hP hD hS hl => lv_i2d C.1 C.2.1 hdg (kk H locs ls hP hD hS hl)
theorem g_lcmp (C : gC p R s m args meth c cc own nL D g As d) {x y : Int64} (hdg : decode cc pc = .ok (.lcmp, 1)) (kk : gJ p l e R s m args below meth c Q nL D g As N ad ln A loc k n (pc + 1) (gi (lg_cmp x y) :: st)) : gJ p l e R s m args below meth c Q nL D g As N ad ln A loc k n pc (gl y :: gl x :: st) := fun H locs ls hP hD hS hl => W.lcmp C.1 C.2.1 hdg (kk H locs ls hP hD hS hl)
theorem g_dcmp (C : gC p R s m args meth c cc own nL D g As d) {x y : UInt64} {op : CmpOp} (hdg : decode cc pc = .ok (.dcmp op, 1)) (kk : gJ p l e R s m args below meth c Q nL D g As N ad ln A loc k n (pc + 1) (gi (Op.cmpValue (FP.dcmp x y) op) :: st)) : gJ p l e R s m args below meth c Q nL D g As N ad ln A loc k n pc (gd y :: gd x :: st) := fun H locs ls hP hD hS hl => lv_dcmp C.1 C.2.1 hdg (kk H locs ls hP hD hS hl)
theorem g_dup_r (C : gC p R s m args meth c cc own nL D g As d) {x : Nat} (hdg : decode cc pc = .ok (.dup, 1)) (kk : gJ p l e R s m args below meth c Q nL D g As N ad ln A loc k n (pc + 1) (gr x :: gr x :: st)) : gJ p l e R s m args below meth c Q nL D g As N ad ln A loc k n pc (gr x :: st) := fun H locs ls hP hD hS hl => lv_dup C.1 C.2.1 hdg rfl (kk H locs ls hP hD hS hl)
theorem g_dup_i (C : gC p R s m args meth c cc own nL D g As d) {x : Int32} (hdg : decode cc pc = .ok (.dup, 1)) (kk : gJ p l e R s m args below meth c Q nL D g As N ad ln A loc k n (pc + 1) (gi x :: gi x :: st)) : gJ p l e R s m args below meth c Q nL D g As N ad ln A loc k n pc (gi x :: st) := fun H locs ls hP hD hS hl => lv_dup C.1 C.2.1 hdg rfl (kk H locs ls hP hD hS hl)
theorem g_pop_i (C : gC p R s m args meth c cc own nL D g As d) {x : Int32} (hdg : decode cc pc = .ok (.pop, 1)) (kk : gJ p l e R s m args below meth c Q nL D g As N ad ln A loc k n (pc + 1) (st)) : gJ p l e R s m args below meth c Q nL D g As N ad ln A loc k n pc (gi x :: st) := fun H locs ls hP hD hS hl => lv_pop C.1 C.2.1 hdg rfl (kk H locs ls hP hD hS hl)
theorem g_if_eq (C : gC p R s m args meth c cc own nL D g As d) {x : Int32} {off : Int} {tgt : Nat} (hdg : decode cc pc = .ok (.ifCond .eq off, 3)) (ht : (pc : Int) + off = (tgt : Int)) (kt : x = 0 → gJ p l e R s m args below meth c Q nL D g As N ad ln A loc k n tgt st) (kf : ¬ x = 0 → gJ p l e R s m args below meth c Q nL D g As N ad ln A loc k n (pc + 3) st) : gJ p l e R s m args below meth c Q nL D g As N ad ln A loc k n pc (gi x :: st) := fun H locs ls hP hD hS hl => lv_if_eq C.1 C.2.1 hdg ht (fun q => kt q H locs ls hP hD hS hl) (fun q => kf q H locs ls hP hD hS hl)
theorem g_if_ne (C : gC p R s m args meth c cc own nL D g As d) {x : Int32} {off : Int} {tgt : Nat} (hdg : decode cc pc = .ok (.ifCond .ne off, 3)) (ht : (pc : Int) + off = (tgt : Int)) (kt : ¬ x = 0 → gJ p l e R s m args below meth c Q nL D g As N ad ln A loc k n tgt st) (kf : x = 0 → gJ p l e R s m args below meth c Q nL D g As N ad ln A loc k n (pc + 3) st) : gJ p l e R s m args below meth c Q nL D g As N ad ln A loc k n pc (gi x :: st) := fun H locs ls hP hD hS hl => lv_if_ne C.1 C.2.1 hdg ht (fun q => kt q H locs ls hP hD hS hl) (fun q => kf q H locs ls hP hD hS hl)
theorem g_if_lt (C : gC p R s m args meth c cc own nL D g As d) {x : Int32} {off : Int} {tgt : Nat} (hdg : decode cc pc = .ok (.ifCond .lt off, 3)) (ht : (pc : Int) + off = (tgt : Int)) (kt : x < 0 → gJ p l e R s m args below meth c Q nL D g As N ad ln A loc k n tgt st) (kf : ¬ x < 0 → gJ p l e R s m args below meth c Q nL D g As N ad ln A loc k n (pc + 3) st) : gJ p l e R s m args below meth c Q nL D g As N ad ln A loc k n pc (gi x :: st) := fun H locs ls hP hD hS hl => lv_if_lt C.1 C.2.1 hdg ht (fun q => kt q H locs ls hP hD hS hl) (fun q => kf q H locs ls hP hD hS hl)
theorem g_if_ge (C : gC p R s m args meth c cc own nL D g As d) {x : Int32} {off : Int} {tgt : Nat} (hdg : decode cc pc = .ok (.ifCond .ge off, 3)) (ht : (pc : Int) + off = (tgt : Int)) (kt : 0 ≤ x → gJ p l e R s m args below meth c Q nL D g As N ad ln A loc k n tgt st) (kf : ¬ 0 ≤ x → gJ p l e R s m args below meth c Q nL D g As N ad ln A loc k n (pc + 3) st) : gJ p l e R s m args below meth c Q nL D g As N ad ln A loc k n pc (gi x :: st) := fun H locs ls hP hD hS hl => lv_if_ge C.1 C.2.1 hdg ht (fun q => kt q H locs ls hP hD hS hl) (fun q => kf q H locs ls hP hD hS hl)
theorem g_if_gt (C : gC p R s m args meth c cc own nL D g As d) {x : Int32} {off : Int} {tgt : Nat} (hdg : decode cc pc = .ok (.ifCond .gt off, 3)) (ht : (pc : Int) + off = (tgt : Int)) (kt : 0 < x → gJ p l e R s m args below meth c Q nL D g As N ad ln A loc k n tgt st) (kf : ¬ 0 < x → gJ p l e R s m args below meth c Q nL D g As N ad ln A loc k n (pc + 3) st) : gJ p l e R s m args below meth c Q nL D g As N ad ln A loc k n pc (gi x :: st) := fun H locs ls hP hD hS hl => lv_if_gt C.1 C.2.1 hdg ht (fun q => kt q H locs ls hP hD hS hl) (fun q => kf q H locs ls hP hD hS hl)
theorem g_if_le (C : gC p R s m args meth c cc own nL D g As d) {x : Int32} {off : Int} {tgt : Nat} (hdg : decode cc pc = .ok (.ifCond .le off, 3)) (ht : (pc : Int) + off = (tgt : Int)) (kt : x ≤ 0 → gJ p l e R s m args below meth c Q nL D g As N ad ln A loc k n tgt st) (kf : ¬ x ≤ 0 → gJ p l e R s m args below meth c Q nL D g As N ad ln A loc k n (pc + 3) st) : gJ p l e R s m args below meth c Q nL D g As N ad ln A loc k n pc (gi x :: st) := fun H locs ls hP hD hS hl => lv_if_le C.1 C.2.1 hdg ht (fun q => kt q H locs ls hP hD hS hl) (fun q => kf q H locs ls hP hD hS hl)
theorem g_icmp_eq (C : gC p R s m args meth c cc own nL D g As d) {x y : Int32} {off : Int} {tgt : Nat} (hdg : decode cc pc = .ok (.if_icmp .eq off, 3)) (ht : (pc : Int) + off = (tgt : Int)) (kt : x = y → gJ p l e R s m args below meth c Q nL D g As N ad ln A loc k n tgt st) (kf : ¬ x = y → gJ p l e R s m args below meth c Q nL D g As N ad ln A loc k n (pc + 3) st) : gJ p l e R s m args below meth c Q nL D g As N ad ln A loc k n pc (gi y :: gi x :: st) := fun H locs ls hP hD hS hl => lv_icmp_eq C.1 C.2.1 hdg ht (fun q => kt q H locs ls hP hD hS hl) (fun q => kf q H locs ls hP hD hS hl)
theorem g_icmp_ne (C : gC p R s m args meth c cc own nL D g As d) {x y : Int32} {off : Int} {tgt : Nat} (hdg : decode cc pc = .ok (.if_icmp .ne off, 3)) (ht : (pc : Int) + off = (tgt : Int)) (kt : ¬ x = y → gJ p l e R s m args below meth c Q nL D g As N ad ln A loc k n tgt st) (kf : x = y → gJ p l e R s m args below meth c Q nL D g As N ad ln A loc k n (pc + 3) st) : gJ p l e R s m args below meth c Q nL D g As N ad ln A loc k n pc (gi y :: gi x :: st) := fun H locs ls hP hD hS hl => lv_icmp_ne C.1 C.2.1 hdg ht (fun q => kt q H locs ls hP hD hS hl) (fun q => kf q H locs ls hP hD hS hl)
theorem g_icmp_lt (C : gC p R s m args meth c cc own nL D g As d) {x y : Int32} {off : Int} {tgt : Nat} (hdg : decode cc pc = .ok (.if_icmp .lt off, 3)) (ht : (pc : Int) + off = (tgt : Int)) (kt : x < y → gJ p l e R s m args below meth c Q nL D g As N ad ln A loc k n tgt st) (kf : ¬ x < y → gJ p l e R s m args below meth c Q nL D g As N ad ln A loc k n (pc + 3) st) : gJ p l e R s m args below meth c Q nL D g As N ad ln A loc k n pc (gi y :: gi x :: st) := fun H locs ls hP hD hS hl => lv_icmp_lt C.1 C.2.1 hdg ht (fun q => kt q H locs ls hP hD hS hl) (fun q => kf q H locs ls hP hD hS hl)
theorem g_icmp_ge (C : gC p R s m args meth c cc own nL D g As d) {x y : Int32} {off : Int} {tgt : Nat} (hdg : decode cc pc = .ok (.if_icmp .ge off, 3)) (ht : (pc : Int) + off = (tgt : Int)) (kt : y ≤ x → gJ p l e R s m args below meth c Q nL D g As N ad ln A loc k n tgt st) (kf : ¬ y ≤ x → gJ p l e R s m args below meth c Q nL D g As N ad ln A loc k n (pc + 3) st) : gJ p l e R s m args below meth c Q nL D g As N ad ln A loc k n pc (gi y :: gi x :: st) := fun H locs ls hP hD hS hl => lv_icmp_ge C.1 C.2.1 hdg ht (fun q => kt q H locs ls hP hD hS hl) (fun q => kf q H locs ls hP hD hS hl)
theorem g_icmp_gt (C : gC p R s m args meth c cc own nL D g As d) {x y : Int32} {off : Int} {tgt : Nat} (hdg : decode cc pc = .ok (.if_icmp .gt off, 3)) (ht : (pc : Int) + off = (tgt : Int)) (kt : y < x → gJ p l e R s m args below meth c Q nL D g As N ad ln A loc k n tgt st) (kf : ¬ y < x → gJ p l e R s m args below meth c Q nL D g As N ad ln A loc k n (pc + 3) st) : gJ p l e R s m args below meth c Q nL D g As N ad ln A loc k n pc (gi y :: gi x :: st) := fun H locs ls hP hD hS hl => lv_icmp_gt C.1 C.2.1 hdg ht (fun q => kt q H locs ls hP hD hS hl) (fun q => kf q H locs ls hP hD hS hl)
theorem g_icmp_le (C : gC p R s m args meth c cc own nL D g As d) {x y : Int32} {off : Int} {tgt : Nat} (hdg : decode cc pc = .ok (.if_icmp .le off, 3)) (ht : (pc : Int) + off = (tgt : Int)) (kt : x ≤ y → gJ p l e R s m args below meth c Q nL D g As N ad ln A loc k n tgt st) (kf : ¬ x ≤ y → gJ p l e R s m args below meth c Q nL D g As N ad ln A loc k n (pc + 3) st) : gJ p l e R s m args below meth c Q nL D g As N ad ln A loc k n pc (gi y :: gi x :: st) := fun H locs ls hP hD hS hl => lv_icmp_le C.1 C.2.1 hdg ht (fun q => kt q H locs ls hP hD hS hl) (fun q => kf q H locs ls hP hD hS hl)
theorem g_goto (C : gC p R s m args meth c cc own nL D g As d) {off : Int} {tgt : Nat} (hdg : decode cc pc = .ok (.goto off, 3)) (ht : (pc : Int) + off = (tgt : Int)) (kk : gJ p l e R s m args below meth c Q nL D g As N ad ln A loc k n tgt st) : gJ p l e R s m args below meth c Q nL D g As N ad ln A loc k n pc st := fun H locs ls hP hD hS hl => lv_goto C.1 C.2.1 hdg ht (kk H locs ls hP hD hS hl)
def g_cat : gV → Nat
  | .inl _ => 1
  | .inr v => v.category
theorem g_cat_v {ad : Nat → Nat} {v : gV} : (g_v ad v).category = g_cat v := by cases v <;> rfl
/-- the locals behind a store of one word, of two -/
def g_st (i : Nat) (v : gV) (loc : List (Nat × gV)) : List (Nat × gV) := (i, v) :: loc.filter (fun q => !(q.1 == i) && !(q.1 + 1 == i && g_cat q.2 == 2))
def g_st2 (i : Nat) (v : gV) (loc : List (Nat × gV)) : List (Nat × gV) := (i, v) :: loc.filter (fun q => !(q.1 == i) && (!(q.1 == i + 1) && !(q.1 + 1 == i && g_cat q.2 == 2)))
theorem g_st_map {ad : Nat → Nat} {i : Nat} {v : gV} {loc : List (Nat × gV)} : (i, g_v ad v) :: (loc.map (g_q ad)).filter (fun q => !(q.1 == i) && !(q.1 + 1 == i && q.2.category == 2)) = (g_st i v loc).map (g_q ad) := by
  show _ = (i, g_v ad v) :: _
  rw [List.filter_map]
  congr 2
  apply List.filter_congr
  intro q _
  simp [g_q, g_cat_v]
theorem g_st2_map {ad : Nat → Nat} {i : Nat} {v : gV} {loc : List (Nat × gV)} : (i, g_v ad v) :: (loc.map (g_q ad)).filter (fun q => !(q.1 == i) && (!(q.1 == i + 1) && !(q.1 + 1 == i && q.2.category == 2))) = (g_st2 i v loc).map (g_q ad) := by
  show _ = (i, g_v ad v) :: _
  rw [List.filter_map]
  congr 2
  apply List.filter_congr
  intro q _
  simp [g_q, g_cat_v]
theorem g_istore_n (C : gC p R s m args meth c cc own nL D g As d) {x : Int32} {z : Fin 4} (hdg : decode cc pc = .ok (.istore_n z, 1)) (hn : (z : Nat) < nL) (h : g_st z (gi x) loc = loc') (kk : gJ p l e R s m args below meth c Q nL D g As N ad ln A loc' k n (pc + 1) st) : gJ p l e R s m args below meth c Q nL D g As N ad ln A loc k n pc (gi x :: st) := fun H locs ls hP hD hS hl => lv_istore_n C.1 C.2.1 hdg rfl hl hn (g_st_map.trans (by rw [h])) (fun ls' hl' => kk H locs ls' hP hD hS hl')
theorem g_istore (C : gC p R s m args meth c cc own nL D g As d) {x : Int32} {i : Nat} (hdg : decode cc pc = .ok (.istore i, 2)) (hn : i < nL) (h : g_st i (gi x) loc = loc') (kk : gJ p l e R s m args below meth c Q nL D g As N ad ln A loc' k n (pc + 2) st) : gJ p l e R s m args below meth c Q nL D g As N ad ln A loc k n pc (gi x :: st) := fun H locs ls hP hD hS hl => lv_istore C.1 C.2.1 hdg hl hn (g_st_map.trans (by rw [h])) (fun ls' hl' => kk H locs ls' hP hD hS hl')
theorem g_lstore_n (C : gC p R s m args meth c cc own nL D g As d) {x : Int64} {z : Fin 4} (hdg : decode cc pc = .ok (.lstore_n z, 1)) (hn : (z : Nat) + 1 < nL) (h : g_st2 z (gl x) loc = loc') (kk : gJ p l e R s m args below meth c Q nL D g As N ad ln A loc' k n (pc + 1) st) : gJ p l e R s m args below meth c Q nL D g As N ad ln A loc k n pc (gl x :: st) := fun H locs ls hP hD hS hl => lv_lstore_n C.1 C.2.1 hdg rfl hl hn (g_st2_map.trans (by rw [h])) (fun ls' hl' => kk H locs ls' hP hD hS hl')
theorem g_lstore (C : gC p R s m args meth c cc own nL D g As d) {x : Int64} {i : Nat} (hdg : decode cc pc = .ok (.lstore i, 2)) (hn : i + 1 < nL) (h : g_st2 i (gl x) loc = loc') (kk : gJ p l e R s m args below meth c Q nL D g As N ad ln A loc' k n (pc + 2) st) : gJ p l e R s m args below meth c Q nL D g As N ad ln A loc k n pc (gl x :: st) := fun H locs ls hP hD hS hl => lv_lstore C.1 C.2.1 hdg hl hn (g_st2_map.trans (by rw [h])) (fun ls' hl' => kk H locs ls' hP hD hS hl')
theorem g_astore_n (C : gC p R s m args meth c cc own nL D g As d) {x : Nat} {z : Fin 4} (hdg : decode cc pc = .ok (.astore_n z, 1)) (hn : (z : Nat) < nL) (h : g_st z (gr x) loc = loc') (kk : gJ p l e R s m args below meth c Q nL D g As N ad ln A loc' k n (pc + 1) st) : gJ p l e R s m args below meth c Q nL D g As N ad ln A loc k n pc (gr x :: st) := fun H locs ls hP hD hS hl => lv_astore_n C.1 C.2.1 hdg rfl hl hn (g_st_map.trans (by rw [h])) (fun ls' hl' => kk H locs ls' hP hD hS hl')
theorem g_astore (C : gC p R s m args meth c cc own nL D g As d) {x : Nat} {i : Nat} (hdg : decode cc pc = .ok (.astore i, 2)) (hn : i < nL) (h : g_st i (gr x) loc = loc') (kk : gJ p l e R s m args below meth c Q nL D g As N ad ln A loc' k n (pc + 2) st) : gJ p l e R s m args below meth c Q nL D g As N ad ln A loc k n pc (gr x :: st) := fun H locs ls hP hD hS hl => lv_astore C.1 C.2.1 hdg hl hn (g_st_map.trans (by rw [h])) (fun ls' hl' => kk H locs ls' hP hD hS hl')
theorem g_dstore_n (C : gC p R s m args meth c cc own nL D g As d) {x : UInt64} {z : Fin 4} (hdg : decode cc pc = .ok (.dstore_n z, 1)) (hn : (z : Nat) + 1 < nL) (h : g_st2 z (gd x) loc = loc') (kk : gJ p l e R s m args below meth c Q nL D g As N ad ln A loc' k n (pc + 1) st) : gJ p l e R s m args below meth c Q nL D g As N ad ln A loc k n pc (gd x :: st) := fun H locs ls hP hD hS hl => lv_dstore_n C.1 C.2.1 hdg rfl hl hn (g_st2_map.trans (by rw [h])) (fun ls' hl' => kk H locs ls' hP hD hS hl')
theorem g_dstore (C : gC p R s m args meth c cc own nL D g As d) {x : UInt64} {i : Nat} (hdg : decode cc pc = .ok (.dstore i, 2)) (hn : i + 1 < nL) (h : g_st2 i (gd x) loc = loc') (kk : gJ p l e R s m args below meth c Q nL D g As N ad ln A loc' k n (pc + 2) st) : gJ p l e R s m args below meth c Q nL D g As N ad ln A loc k n pc (gd x :: st) := fun H locs ls hP hD hS hl => lv_dstore C.1 C.2.1 hdg hl hn (g_st2_map.trans (by rw [h])) (fun ls' hl' => kk H locs ls' hP hD hS hl')
theorem g_iinc (C : gC p R s m args meth c cc own nL D g As d) (q : Nat) {x v : Int32} {i : Nat} {z : Int} (hdg : decode cc pc = .ok (.iinc i z, 3)) (hq : loc[q]? = some (i, gi x)) (hv : x + Int32.ofInt z = v) (hn : i < nL) (h : g_st i (gi v) loc = loc') (kk : gJ p l e R s m args below meth c Q nL D g As N ad ln A loc' k n (pc + 3) st) : gJ p l e R s m args below meth c Q nL D g As N ad ln A loc k n pc st := fun H locs ls hP hD hS hl => lv_iinc (k := q) C.1 C.2.1 hdg hl (by rw [List.getElem?_map, hq]; rfl) hv hn (g_st_map.trans (by rw [h])) (fun ls' hl' => kk H locs ls' hP hD hS hl')
def g_in (x : Int32) (n : Nat) : Bool := decide (¬ (x < 0 ∨ n ≤ x.toNatClampNeg))
theorem g_in_vp {x : Int32} {n : Nat} (h : g_in x n = true) : vp_in x n := (of_decide_eq_true h : ¬ (x < 0 ∨ n ≤ x.toNatClampNeg))
theorem g_in_lt {x : Int32} {n : Nat} (h : g_in x n = true) : x.toNatClampNeg < n := Nat.not_le.mp fun q => g_in_vp h (Or.inr q)
theorem g_iald (C : gC p R s m args meth c cc own nL D g As d) (i : Nat) {nn : Nat} {x : Int32} (hi : i < N) (hI : g_isI i = true) (hn : g_ln ln i = nn) (hin : g_in x nn = true) (hdg : decode cc pc = .ok (.iaload, 1)) (kk : gJ p l e R s m args below meth c Q nL D g As N ad ln A loc k n (pc + 1) (gi (A i x.toNatClampNeg) :: st)) : gJ p l e R s m args below meth c Q nL D g As N ad ln A loc k n pc (gi x :: gr i :: st) := fun H locs ls hP hD hS hl => va_iald C.1 C.2.1 C.2.2.2.2.2.1 hP i 0 (f := A i) (n := nn) (cA := g.1) (by rw [gw_at hi, g_ce_I hI, hn]) rfl (g_in_vp hin) hdg (kk H locs ls hP hD hS hl)
theorem g_iast (C : gC p R s m args meth c cc own nL D g As d) (i : Nat) {nn : Nat} {x v : Int32} {A' : gM} (hi : i < N) (hI : g_isI i = true) (hn : g_ln ln i = nn) (hin : g_in x nn = true) (hA : g_up A i x.toNatClampNeg v = A') (hdg : decode cc pc = .ok (.iastore, 1)) (kk : gJ p l e R s m args below meth c Q nL D g As N ad ln A' loc k n (pc + 1) st) : gJ p l e R s m args below meth c Q nL D g As N ad ln A loc k n pc (gi v :: gi x :: gr i :: st) := fun H locs ls hP hD hS hl => va_iast C.1 C.2.1 C.2.2.2.2.2.1 hP hD hS i 0 (f := A i) (n := nn) (cA := g.1) (by rw [gw_at hi, g_ce_I hI, hn]) rfl (g_in_vp hin) hdg (fun H1 locs1 hP1 hD1 hS1 => by
  have e : (gw g ad ln A N).set i (ad i, .inl (g.1, nn, .inl (upd (A i) x.toNatClampNeg v))) = gw g ad ln A' N := by
    rw [← hA, g_up, ← gw_set hi, g_ce_I hI, hn]
  rw [e] at hP1 hD1
  exact kk H1 locs1 ls hP1 hD1 hS1 hl)
theorem g_aald (C : gC p R s m args meth c cc own nL D g As d) (i b : Nat) {x : Int32} (hi : i < N) (hc : g_ce g ad (g_ln ln i) (A i) i = .inl (g.2, g_out ad b)) (hin : g_in x 40 = true) (hdg : decode cc pc = .ok (.aaload, 1)) (kk : gJ p l e R s m args below meth c Q nL D g As N ad ln A loc k n (pc + 1) (gr (b + x.toNatClampNeg) :: st)) : gJ p l e R s m args below meth c Q nL D g As N ad ln A loc k n pc (gi x :: gr i :: st) := fun H locs ls hP hD hS hl => by
  have hlt := g_in_lt hin
  have hin := g_in_vp hin
  have ha : H[ad i]? = some (arrV g.2 40 (fun j => va_rf (if j < 40 then some (ad (b + j)) else none))) := by
    have h1 := hP i _ (gw_at hi)
    rw [hc] at h1
    exact h1
  have hv : va_rf (if x.toNatClampNeg < 40 then some (ad (b + x.toNatClampNeg)) else none) = .ref (ad (b + x.toNatClampNeg)) := by rw [if_pos hlt]; rfl
  exact W.aald (v := .ref (ad (b + x.toNatClampNeg))) (ty := .array .int) C.1 C.2.1 ha ((C.2.2.2.2.2.1.2 1 _ rfl).1 40 (fun j => va_rf (if j < 40 then some (ad (b + j)) else none))) rfl (fun q => by cases q) (by show ¬ (x < 0 ∨ (arrV _ _ _).slots.size ≤ _); rw [arrV_size]; exact hin) (by show (arrV _ _ _).slots[_]? = _; rw [arrV_read _ _ hlt, hv]) rfl rfl hdg (kk H locs ls hP hD hS hl)
theorem g_alen (C : gC p R s m args meth c cc own nL D g As d) (i : Nat) {v : Int32} (hi : i < N) (hI : g_isI i = true) (hv : Int32.ofNat (g_ln ln i) = v) (hdg : decode cc pc = .ok (.arraylength, 1)) (kk : gJ p l e R s m args below meth c Q nL D g As N ad ln A loc k n (pc + 1) (gi v :: st)) : gJ p l e R s m args below meth c Q nL D g As N ad ln A loc k n pc (gr i :: st) := fun H locs ls hP hD hS hl => va_alen C.1 C.2.1 C.2.2.2.2.2.1 hP i 0 (x := (g_ln ln i, .inl (A i))) (cA := g.1) (by rw [gw_at hi, g_ce_I hI]) rfl hv hdg (kk H locs ls hP hD hS hl)
theorem g_get (C : gC p R s m args meth c cc own nL D g As d) (i q : Nat) {ci ix Nn : Nat} {fs : List Value} {Cn : String} {T : u_T} {v : gV} (hi : i < N) (he : g_ce g ad (g_ln ln i) (A i) i = .inr (ci, fs)) (hc : vwCl[ci]? = some (Cn, T, Nn)) (hu : ∀ w ∈ u_ws Cn T Nn, w ∈ gtb) (hq : q < Nn) (hw : Cond.fieldLink own ix (T q).1 (T q).2.1 (T q).2.2.1 ∈ gtb) (hv : fs[q]? = some (g_v ad v)) (hdg : decode cc pc = .ok (.getfield ix, 3)) (kk : gJ p l e R s m args below meth c Q nL D g As N ad ln A loc k n (pc + 3) (v :: st)) : gJ p l e R s m args below meth c Q nL D g As N ad ln A loc k n pc (gr i :: st) := fun H locs ls hP hD hS hl => va_get C.1 C.2.1 C.2.2.2.2.1 hu C.2.2.2.1 C.2.2.2.2.2.1 hP i (fs := fs) (by rw [gw_at hi, he]) hc q hq (C.2.2.2.2.1 _ hw) (fun _ h9 => h9) hv hdg (kk H locs ls hP hD hS hl)
theorem g_put (C : gC p R s m args meth c cc own nL D g As d) (i q : Nat) {ci ix Nn : Nat} {fs : List Value} {Cn : String} {T : u_T} {v : Int32} {A' : gM} (ty0 : Nat → FieldType) (hty : ∀ k, k < Nn → parseFieldDescriptor (T k).2.2.1 = some (ty0 k)) (hnm : ∀ a, a < Nn → ∀ b, b < Nn → a ≠ b → (T a).2.1 ≠ (T b).2.1) (hi : i < N) (he : g_ce g ad (g_ln ln i) (A i) i = .inr (ci, fs)) (hc : vwCl[ci]? = some (Cn, T, Nn)) (hu : ∀ w ∈ u_ws Cn T Nn, w ∈ gtb) (hq : q < Nn) (hw : Cond.fieldLink own ix (T q).1 (T q).2.1 (T q).2.2.1 ∈ gtb) (hfin : (T q).2.2.2 = false) (hd : parseFieldDescriptor (T q).2.2.1 = some .int) (hlen : q < fs.length) (he2 : g_ce g ad (g_ln ln i) (upd (A i) q v) i = .inr (ci, fs.set q (.int v))) (hA : g_up A i q v = A') (hdg : decode cc pc = .ok (.putfield ix, 3)) (kk : gJ p l e R s m args below meth c Q nL D g As N ad ln A' loc k n (pc + 3) st) : gJ p l e R s m args below meth c Q nL D g As N ad ln A loc k n pc (gi v :: gr i :: st) := fun H locs ls hP hD hS hl => va_put C.1 C.2.1 C.2.2.2.2.1 hu ty0 hty hnm C.2.2.2.1 C.2.2.2.2.2.1 hP hD hS i (fs := fs) (v := .int v) (by rw [gw_at hi, he]) hc q hq (C.2.2.2.2.1 _ hw) (fun _ h9 => h9) hfin hd rfl rfl hlen hdg (fun H1 locs1 hP1 hD1 hS1 => by
  rw [← he2, gw_set hi, ← g_up, hA] at hP1 hD1
  exact kk H1 locs1 ls hP1 hD1 hS1 hl)
end GJ
end
section
/-! CONTRACTS of methods that make nothing: the memory A becomes A', the answer is r -/
def g_rm (d : Nat) : Room := { frames := d, cells := 0, slots := 0, locals := 40 * d }
def g_pre (D : va_G) (g : gT) (N : Nat) (ad ln : Nat → Nat) (A : gM) (sz : Nat) (av : List gV) : Array Value → State → Prop :=
  va_Pc (av.map (g_v ad)) (fun U => U.heap.size = sz ∧ va_P D vwCl (gw g ad ln A N) U.heap ∧ va_K D vwCl (g_tys g) U ∧ va_D (fun _ => True) (gw g ad ln A N))
def g_B (D : va_G) (g : gT) (N : Nat) (ad ln : Nat → Nat) (A A' : gM) (sz : Nat) (t : State) : Prop :=
  va_P D vwCl (gw g ad ln A' N) t.heap ∧ va_K D vwCl (g_tys g) t ∧ va_D (va_A (gw g ad ln A N) sz) (gw g ad ln A' N)
def g_Qi (D : va_G) (g : gT) (N : Nat) (ad ln : Nat → Nat) (A : gM) (sz : Nat) (A' : gM) (r : Int32) : Array Value → State → Outcome → State → Prop :=
  va_Qi (S := Unit) (fun x _ => x = r) (fun _ t => g_B D g N ad ln A A' sz t) (va_A (gw g ad ln A N) sz)
def g_Ql (D : va_G) (g : gT) (N : Nat) (ad ln : Nat → Nat) (A : gM) (sz : Nat) (A' : gM) (r : Int64) : Array Value → State → Outcome → State → Prop :=
  va_Ql (S := Unit) (fun x _ => x = r) (fun _ t => g_B D g N ad ln A A' sz t) (va_A (gw g ad ln A N) sz)
def g_Qv (D : va_G) (g : gT) (N : Nat) (ad ln : Nat → Nat) (A : gM) (sz : Nat) (A' : gM) : Array Value → State → Outcome → State → Prop :=
  va_Qv (S := Unit) (fun _ => True) (fun _ t => g_B D g N ad ln A A' sz t) (va_A (gw g ad ln A N) sz)
def g_Qr (D : va_G) (g : gT) (N : Nat) (ad ln : Nat → Nat) (A : gM) (sz : Nat) (A' : gM) (r : Nat) : Array Value → State → Outcome → State → Prop :=
  va_Qr (S := Unit) (fun _ => True) (fun _ a t => a = ad r ∧ g_B D g N ad ln A A' sz t) (va_A (gw g ad ln A N) sz)
/-- the contract of method y at depth d: from memory A with arguments av it answers r and leaves A' -/
def gKi (l : Launch) (y : MethodName) (b : ByteArray) (nl : Nat) (rt : Option FieldType) (d : Nat) (D : va_G) (g : gT) (N : Nat) (ad ln : Nat → Nat) (A : gM) (av : List gV) (A' : gM) (r : Int32) : Prop :=
  ∀ sz, Met l y (g_ws y b nl rt) (g_rm d) (g_pre D g N ad ln A sz av) (g_Qi D g N ad ln A sz A' r) 0 0 (va_A (gw g ad ln A N) sz)
def gKl (l : Launch) (y : MethodName) (b : ByteArray) (nl : Nat) (rt : Option FieldType) (d : Nat) (D : va_G) (g : gT) (N : Nat) (ad ln : Nat → Nat) (A : gM) (av : List gV) (A' : gM) (r : Int64) : Prop :=
  ∀ sz, Met l y (g_ws y b nl rt) (g_rm d) (g_pre D g N ad ln A sz av) (g_Ql D g N ad ln A sz A' r) 0 0 (va_A (gw g ad ln A N) sz)
def gKv (l : Launch) (y : MethodName) (b : ByteArray) (nl : Nat) (rt : Option FieldType) (d : Nat) (D : va_G) (g : gT) (N : Nat) (ad ln : Nat → Nat) (A : gM) (av : List gV) (A' : gM) : Prop :=
  ∀ sz, Met l y (g_ws y b nl rt) (g_rm d) (g_pre D g N ad ln A sz av) (g_Qv D g N ad ln A sz A') 0 0 (va_A (gw g ad ln A N) sz)
def gKr (l : Launch) (y : MethodName) (b : ByteArray) (nl : Nat) (rt : Option FieldType) (d : Nat) (D : va_G) (g : gT) (N : Nat) (ad ln : Nat → Nat) (A : gM) (av : List gV) (A' : gM) (r : Nat) : Prop :=
  ∀ sz, Met l y (g_ws y b nl rt) (g_rm d) (g_pre D g N ad ln A sz av) (g_Qr D g N ad ln A sz A' r) 0 0 (va_A (gw g ad ln A N) sz)
theorem g_blind {D : va_G} {g : gT} {N : Nat} {ad ln : Nat → Nat} {A : gM} {sz : Nat} {av : List gV} : FrameBlind (g_pre D g N ad ln A sz av) := fun a U q mk h => by
  obtain ⟨q0, q1, qP, qK, qD⟩ := h
  exact ⟨q0, q1, qP, va_K.moved (u := U) (U := U.calling q mk a) (Vm.Alike.refl U.vm) qK, qD⟩
section GK
variable {p : Program} {l : Launch} {e : Env} {R : Room} {s : State} {m : MethodId} {args : Array Value} {below : List Frame} {meth : Method} {c : Code} {Q : State → Prop} {nL : Nat} {D : va_G} {g : gT} {As : Nat → Prop} {N : Nat} {ad ln : Nat → Nat} {A A' : gM} {loc loc' : List (Nat × gV)} {k n pc : Nat} {st : List gV} {cc : ByteArray} {own : String} {d : Nat}
theorem g_frees {H : Heap} {locs : List Loc} (hD : va_D As (gw g ad ln A N)) (hS : va_S As s.heap H locs) (hA : ∀ q : Nat, s.heap.size ≤ q → As q) : ∀ q, va_A (gw g ad ln A N) H.size q → As q := by
  intro q h
  rcases h with ⟨k, e, h⟩ | h
  · exact hD.2 k (q, e) h
  · exact hA q (Nat.le_trans hS.1 h)
theorem g_room {d d' mL : Nat} {R : Room} (h1 : d ≤ R.frames ∧ 40 * d ≤ R.locals) (h2 : d' + 1 ≤ d) (h3 : mL ≤ 20) : (g_rm d').frames + 1 ≤ R.frames ∧ 8 + (mL + 11) + (g_rm d').locals ≤ R.locals := by
  show d' + 1 ≤ R.frames ∧ 8 + (mL + 11) + 40 * d' ≤ R.locals
  omega
/-- the words of a call by name: link, receiver's method, code -/
def g_site (own C : String) (ix : Nat) (z : MethodName) (b : ByteArray) (mL : Nat) (rt : Option FieldType) (np : Nat) : Prop :=
  Cond.methodLink own ix z ∈ gtb ∧ Cond.instanceMethod z ∈ gtb ∧ Cond.selects C z z ∈ gtb ∧ Cond.initialized C ∈ gtb ∧ Cond.code z b mL rt ∈ gtb ∧ (z.cls = C ∧ z.cls ≠ "java/lang/invoke/MethodHandle" ∧ z.cls ≠ "java/lang/invoke/VarHandle" ∧ (parseMethodDescriptor z.desc).map (fun d => d.parameters.length) = some np) ∧ mL ≤ 20
/-- of a static call -/
def g_siteS (own : String) (ix : Nat) (z : MethodName) (b : ByteArray) (mL : Nat) (rt : Option FieldType) (np : Nat) : Prop :=
  Cond.methodLink own ix z ∈ gtb ∧ Cond.static z ∈ gtb ∧ Cond.initialized own ∈ gtb ∧ Cond.code z b mL rt ∈ gtb ∧ (z.cls = own ∧ z.cls ≠ "java/lang/invoke/MethodHandle" ∧ z.cls ≠ "java/lang/invoke/VarHandle" ∧ (parseMethodDescriptor z.desc).map (fun d => d.parameters.length) = some np) ∧ mL ≤ 20
theorem g_goodV {own Cn : String} {ix : Nat} {z : MethodName} {b : ByteArray} {mL np : Nat} {rt : Option FieldType} (h : g_site own Cn ix z b mL rt np) : GoodIn gtb (wsV own ix Cn z (g_ws z b mL rt)) := by
  intro w hw
  rcases List.mem_append.mp hw with hw | hw
  · have hm : w ∈ gtb := by
      rcases List.mem_cons.mp hw with rfl | hw
      · exact h.1
      · rcases List.mem_cons.mp hw with rfl | hw
        · exact h.2.1
        · rcases List.mem_cons.mp hw with rfl | hw
          · exact h.2.2.1
          · rcases List.mem_cons.mp hw with rfl | hw
            · exact h.2.2.2.1
            · cases hw
    exact ⟨hm, good_of_word (g_word hm)⟩
  · exact g_inL h.2.2.2.2.1 w hw
theorem g_goodS {own : String} {ix : Nat} {z : MethodName} {b : ByteArray} {mL np : Nat} {rt : Option FieldType} (h : g_siteS own ix z b mL rt np) : GoodIn gtb (wsS own ix z (g_ws z b mL rt)) := by
  intro w hw
  rcases List.mem_append.mp hw with hw | hw
  · have hm : w ∈ gtb := by
      rcases List.mem_cons.mp hw with rfl | hw
      · exact h.1
      · rcases List.mem_cons.mp hw with rfl | hw
        · exact h.2.1
        · rcases List.mem_cons.mp hw with rfl | hw
          · exact h.2.2.1
          · cases hw
    exact ⟨hm, good_of_word (g_word hm)⟩
  · exact g_inL h.2.2.2.1 w hw
theorem g_lv {ad : Nat → Nat} {st : List gV} (h : (st.map g_cat).sum ≤ 8) : 2 * 0 + ((st.map (g_v ad)).map fun v => v.category).sum ≤ 8 := by
  have : (st.map (g_v ad)).map (fun v => v.category) = st.map g_cat := by
    rw [List.map_map]
    exact List.map_congr_left fun v _ => g_cat_v
  rw [this]; omega
theorem g_calliV (C : gC p R s m args meth c cc own nL D g As d) (i : Nat) (as : List gV) {st0 : List gV} {Cn : String} {ci ix np mL d' : Nat} {z : MethodName} {b : ByteArray} {rt : Option FieldType} {fs : List Value} {T : u_T} {Nn : Nat} {r : Int32} (hM : gKi l z b mL rt d' D g N ad ln A (gr i :: as) A' r) (hs : g_site own Cn ix z b mL rt np) (hd : d' + 1 ≤ d) (hi : i < N) (he : g_ce g ad (g_ln ln i) (A i) i = .inr (ci, fs)) (hc : vwCl[ci]? = some (Cn, T, Nn)) (hn : as.length = np) (hst : st0 = as.reverse ++ gr i :: st) (hcat : (st.map g_cat).sum ≤ 8) (hkn : k ≤ R.cells ∧ n ≤ R.slots) (hdg : decode cc pc = .ok (.invokevirtual ix, 3)) (kk : gJ p l e R s m args below meth c Q nL D g As N ad ln A' loc k n (pc + 3) (gi r :: st)) : gJ p l e R s m args below meth c Q nL D g As N ad ln A loc k n pc st0 := by
  intro H locs ls hP hD hS hl
  have hF := g_frees hD hS C.2.2.2.2.2.2.1
  refine va_calli (va_runV (C := Cn) (b := ad i) (As := as.map (g_v ad)) (rest := st.map (g_v ad)) ⟨C.1, C.2.1, C.2.2.1, C.2.2.2.1, C.2.2.2.2.1⟩ (hM H.size) (cwV np C.2.2.2.2.1 (g_goodV hs) rfl rfl rfl hs.2.2.2.2.2.1 (g_room C.2.2.2.2.2.2.2.2 hd hs.2.2.2.2.2.2)) ⟨g_blind, va_recv C.2.2.2.2.2.1 hP (q0 := i) hc (by rw [gw_at hi, he]), fun U hU hW => ⟨rfl, by rw [hU], by rw [hU]; exact hP, va_K.moved hW.alike C.2.2.2.2.2.1, hD.weaken (fun _ _ _ _ => trivial)⟩⟩ rfl (by rw [List.length_map]; exact hn) hl.1 (by show st0.map (g_v ad) = _; rw [hst]; simp [g_v]) (g_lv hcat) hdg ⟨by omega, by omega⟩) hS (fun q _ h => hF q h) hF (fun r u t H1 locs1 ht hvm hw hB hz1 hk1 hS => ?_)
  subst hw
  obtain ⟨hP1, hK1, hD1⟩ := hB
  rw [ht] at hP1
  exact kk H1 locs1 ls hP1 (hD1.weaken (fun _ _ _ h => hF _ h)) hS hl
theorem g_calliS (C : gC p R s m args meth c cc own nL D g As d) (as : List gV) {st0 : List gV} {ix np mL d' : Nat} {z : MethodName} {b : ByteArray} {rt : Option FieldType} {r : Int32} (hM : gKi l z b mL rt d' D g N ad ln A as A' r) (hs : g_siteS own ix z b mL rt np) (hd : d' + 1 ≤ d) (hn : as.length = np) (hst : st0 = as.reverse ++ st) (hcat : (st.map g_cat).sum ≤ 8) (hkn : k ≤ R.cells ∧ n ≤ R.slots) (hdg : decode cc pc = .ok (.invokestatic ix, 3)) (kk : gJ p l e R s m args below meth c Q nL D g As N ad ln A' loc k n (pc + 3) (gi r :: st)) : gJ p l e R s m args below meth c Q nL D g As N ad ln A loc k n pc st0 := by
  intro H locs ls hP hD hS hl
  have hF := g_frees hD hS C.2.2.2.2.2.2.1
  refine va_calli (va_runS (As := as.map (g_v ad)) (rest := st.map (g_v ad)) ⟨C.1, C.2.1, C.2.2.1, C.2.2.2.1, C.2.2.2.2.1⟩ (hM H.size) (cwS np C.2.2.2.2.1 (g_goodS hs) rfl rfl rfl hs.2.2.2.2.1 (g_room C.2.2.2.2.2.2.2.2 hd hs.2.2.2.2.2)) ⟨g_blind, fun U hU hW => ⟨rfl, by rw [hU], by rw [hU]; exact hP, va_K.moved hW.alike C.2.2.2.2.2.1, hD.weaken (fun _ _ _ _ => trivial)⟩⟩ rfl (by rw [List.length_map]; exact hn) hl.1 (by show st0.map (g_v ad) = _; rw [hst]; simp [g_v]) (g_lv hcat) hdg ⟨by omega, by omega⟩) hS (fun q _ h => hF q h) hF (fun r u t H1 locs1 ht hvm hw hB hz1 hk1 hS => ?_)
  subst hw
  obtain ⟨hP1, hK1, hD1⟩ := hB
  rw [ht] at hP1
  exact kk H1 locs1 ls hP1 (hD1.weaken (fun _ _ _ h => hF _ h)) hS hl
theorem g_calllV (C : gC p R s m args meth c cc own nL D g As d) (i : Nat) (as : List gV) {st0 : List gV} {Cn : String} {ci ix np mL d' : Nat} {z : MethodName} {b : ByteArray} {rt : Option FieldType} {fs : List Value} {T : u_T} {Nn : Nat} {r : Int64} (hM : gKl l z b mL rt d' D g N ad ln A (gr i :: as) A' r) (hs : g_site own Cn ix z b mL rt np) (hd : d' + 1 ≤ d) (hi : i < N) (he : g_ce g ad (g_ln ln i) (A i) i = .inr (ci, fs)) (hc : vwCl[ci]? = some (Cn, T, Nn)) (hn : as.length = np) (hst : st0 = as.reverse ++ gr i :: st) (hcat : (st.map g_cat).sum ≤ 8) (hkn : k ≤ R.cells ∧ n ≤ R.slots) (hdg : decode cc pc = .ok (.invokevirtual ix, 3)) (kk : gJ p l e R s m args below meth c Q nL D g As N ad ln A' loc k n (pc + 3) (gl r :: st)) : gJ p l e R s m args below meth c Q nL D g As N ad ln A loc k n pc st0 := by
  intro H locs ls hP hD hS hl
  have hF := g_frees hD hS C.2.2.2.2.2.2.1
  refine va_calll (va_runV (C := Cn) (b := ad i) (As := as.map (g_v ad)) (rest := st.map (g_v ad)) ⟨C.1, C.2.1, C.2.2.1, C.2.2.2.1, C.2.2.2.2.1⟩ (hM H.size) (cwV np C.2.2.2.2.1 (g_goodV hs) rfl rfl rfl hs.2.2.2.2.2.1 (g_room C.2.2.2.2.2.2.2.2 hd hs.2.2.2.2.2.2)) ⟨g_blind, va_recv C.2.2.2.2.2.1 hP (q0 := i) hc (by rw [gw_at hi, he]), fun U hU hW => ⟨rfl, by rw [hU], by rw [hU]; exact hP, va_K.moved hW.alike C.2.2.2.2.2.1, hD.weaken (fun _ _ _ _ => trivial)⟩⟩ rfl (by rw [List.length_map]; exact hn) hl.1 (by show st0.map (g_v ad) = _; rw [hst]; simp [g_v]) (g_lv hcat) hdg ⟨by omega, by omega⟩) hS (fun q _ h => hF q h) hF (fun r u t H1 locs1 ht hvm hw hB hz1 hk1 hS => ?_)
  subst hw
  obtain ⟨hP1, hK1, hD1⟩ := hB
  rw [ht] at hP1
  exact kk H1 locs1 ls hP1 (hD1.weaken (fun _ _ _ h => hF _ h)) hS hl
theorem g_calllS (C : gC p R s m args meth c cc own nL D g As d) (as : List gV) {st0 : List gV} {ix np mL d' : Nat} {z : MethodName} {b : ByteArray} {rt : Option FieldType} {r : Int64} (hM : gKl l z b mL rt d' D g N ad ln A as A' r) (hs : g_siteS own ix z b mL rt np) (hd : d' + 1 ≤ d) (hn : as.length = np) (hst : st0 = as.reverse ++ st) (hcat : (st.map g_cat).sum ≤ 8) (hkn : k ≤ R.cells ∧ n ≤ R.slots) (hdg : decode cc pc = .ok (.invokestatic ix, 3)) (kk : gJ p l e R s m args below meth c Q nL D g As N ad ln A' loc k n (pc + 3) (gl r :: st)) : gJ p l e R s m args below meth c Q nL D g As N ad ln A loc k n pc st0 := by
  intro H locs ls hP hD hS hl
  have hF := g_frees hD hS C.2.2.2.2.2.2.1
  refine va_calll (va_runS (As := as.map (g_v ad)) (rest := st.map (g_v ad)) ⟨C.1, C.2.1, C.2.2.1, C.2.2.2.1, C.2.2.2.2.1⟩ (hM H.size) (cwS np C.2.2.2.2.1 (g_goodS hs) rfl rfl rfl hs.2.2.2.2.1 (g_room C.2.2.2.2.2.2.2.2 hd hs.2.2.2.2.2)) ⟨g_blind, fun U hU hW => ⟨rfl, by rw [hU], by rw [hU]; exact hP, va_K.moved hW.alike C.2.2.2.2.2.1, hD.weaken (fun _ _ _ _ => trivial)⟩⟩ rfl (by rw [List.length_map]; exact hn) hl.1 (by show st0.map (g_v ad) = _; rw [hst]; simp [g_v]) (g_lv hcat) hdg ⟨by omega, by omega⟩) hS (fun q _ h => hF q h) hF (fun r u t H1 locs1 ht hvm hw hB hz1 hk1 hS => ?_)
  subst hw
  obtain ⟨hP1, hK1, hD1⟩ := hB
  rw [ht] at hP1
  exact kk H1 locs1 ls hP1 (hD1.weaken (fun _ _ _ h => hF _ h)) hS hl
theorem g_callvV (C : gC p R s m args meth c cc own nL D g As d) (i : Nat) (as : List gV) {st0 : List gV} {Cn : String} {ci ix np mL d' : Nat} {z : MethodName} {b : ByteArray} {rt : Option FieldType} {fs : List Value} {T : u_T} {Nn : Nat}  (hM : gKv l z b mL rt d' D g N ad ln A (gr i :: as) A') (hs : g_site own Cn ix z b mL rt np) (hd : d' + 1 ≤ d) (hi : i < N) (he : g_ce g ad (g_ln ln i) (A i) i = .inr (ci, fs)) (hc : vwCl[ci]? = some (Cn, T, Nn)) (hn : as.length = np) (hst : st0 = as.reverse ++ gr i :: st) (hcat : (st.map g_cat).sum ≤ 8) (hkn : k ≤ R.cells ∧ n ≤ R.slots) (hdg : decode cc pc = .ok (.invokevirtual ix, 3)) (kk : gJ p l e R s m args below meth c Q nL D g As N ad ln A' loc k n (pc + 3) (st)) : gJ p l e R s m args below meth c Q nL D g As N ad ln A loc k n pc st0 := by
  intro H locs ls hP hD hS hl
  have hF := g_frees hD hS C.2.2.2.2.2.2.1
  refine va_callv (va_runV (C := Cn) (b := ad i) (As := as.map (g_v ad)) (rest := st.map (g_v ad)) ⟨C.1, C.2.1, C.2.2.1, C.2.2.2.1, C.2.2.2.2.1⟩ (hM H.size) (cwV np C.2.2.2.2.1 (g_goodV hs) rfl rfl rfl hs.2.2.2.2.2.1 (g_room C.2.2.2.2.2.2.2.2 hd hs.2.2.2.2.2.2)) ⟨g_blind, va_recv C.2.2.2.2.2.1 hP (q0 := i) hc (by rw [gw_at hi, he]), fun U hU hW => ⟨rfl, by rw [hU], by rw [hU]; exact hP, va_K.moved hW.alike C.2.2.2.2.2.1, hD.weaken (fun _ _ _ _ => trivial)⟩⟩ rfl (by rw [List.length_map]; exact hn) hl.1 (by show st0.map (g_v ad) = _; rw [hst]; simp [g_v]) (g_lv hcat) hdg ⟨by omega, by omega⟩) hS (fun q _ h => hF q h) hF (fun u t H1 locs1 ht hvm hw hB hz1 hk1 hS => ?_)
  obtain ⟨hP1, hK1, hD1⟩ := hB
  rw [ht] at hP1
  exact kk H1 locs1 ls hP1 (hD1.weaken (fun _ _ _ h => hF _ h)) hS hl
theorem g_callvS (C : gC p R s m args meth c cc own nL D g As d) (as : List gV) {st0 : List gV} {ix np mL d' : Nat} {z : MethodName} {b : ByteArray} {rt : Option FieldType}  (hM : gKv l z b mL rt d' D g N ad ln A as A') (hs : g_siteS own ix z b mL rt np) (hd : d' + 1 ≤ d) (hn : as.length = np) (hst : st0 = as.reverse ++ st) (hcat : (st.map g_cat).sum ≤ 8) (hkn : k ≤ R.cells ∧ n ≤ R.slots) (hdg : decode cc pc = .ok (.invokestatic ix, 3)) (kk : gJ p l e R s m args below meth c Q nL D g As N ad ln A' loc k n (pc + 3) (st)) : gJ p l e R s m args below meth c Q nL D g As N ad ln A loc k n pc st0 := by
  intro H locs ls hP hD hS hl
  have hF := g_frees hD hS C.2.2.2.2.2.2.1
  refine va_callv (va_runS (As := as.map (g_v ad)) (rest := st.map (g_v ad)) ⟨C.1, C.2.1, C.2.2.1, C.2.2.2.1, C.2.2.2.2.1⟩ (hM H.size) (cwS np C.2.2.2.2.1 (g_goodS hs) rfl rfl rfl hs.2.2.2.2.1 (g_room C.2.2.2.2.2.2.2.2 hd hs.2.2.2.2.2)) ⟨g_blind, fun U hU hW => ⟨rfl, by rw [hU], by rw [hU]; exact hP, va_K.moved hW.alike C.2.2.2.2.2.1, hD.weaken (fun _ _ _ _ => trivial)⟩⟩ rfl (by rw [List.length_map]; exact hn) hl.1 (by show st0.map (g_v ad) = _; rw [hst]; simp [g_v]) (g_lv hcat) hdg ⟨by omega, by omega⟩) hS (fun q _ h => hF q h) hF (fun u t H1 locs1 ht hvm hw hB hz1 hk1 hS => ?_)
  obtain ⟨hP1, hK1, hD1⟩ := hB
  rw [ht] at hP1
  exact kk H1 locs1 ls hP1 (hD1.weaken (fun _ _ _ h => hF _ h)) hS hl
theorem g_callrV (C : gC p R s m args meth c cc own nL D g As d) (i : Nat) (as : List gV) {st0 : List gV} {Cn : String} {ci ix np mL d' : Nat} {z : MethodName} {b : ByteArray} {rt : Option FieldType} {fs : List Value} {T : u_T} {Nn : Nat} {r : Nat} (hM : gKr l z b mL rt d' D g N ad ln A (gr i :: as) A' r) (hs : g_site own Cn ix z b mL rt np) (hd : d' + 1 ≤ d) (hi : i < N) (he : g_ce g ad (g_ln ln i) (A i) i = .inr (ci, fs)) (hc : vwCl[ci]? = some (Cn, T, Nn)) (hn : as.length = np) (hst : st0 = as.reverse ++ gr i :: st) (hcat : (st.map g_cat).sum ≤ 8) (hkn : k ≤ R.cells ∧ n ≤ R.slots) (hdg : decode cc pc = .ok (.invokevirtual ix, 3)) (kk : gJ p l e R s m args below meth c Q nL D g As N ad ln A' loc k n (pc + 3) (gr r :: st)) : gJ p l e R s m args below meth c Q nL D g As N ad ln A loc k n pc st0 := by
  intro H locs ls hP hD hS hl
  have hF := g_frees hD hS C.2.2.2.2.2.2.1
  refine va_callr (va_runV (C := Cn) (b := ad i) (As := as.map (g_v ad)) (rest := st.map (g_v ad)) ⟨C.1, C.2.1, C.2.2.1, C.2.2.2.1, C.2.2.2.2.1⟩ (hM H.size) (cwV np C.2.2.2.2.1 (g_goodV hs) rfl rfl rfl hs.2.2.2.2.2.1 (g_room C.2.2.2.2.2.2.2.2 hd hs.2.2.2.2.2.2)) ⟨g_blind, va_recv C.2.2.2.2.2.1 hP (q0 := i) hc (by rw [gw_at hi, he]), fun U hU hW => ⟨rfl, by rw [hU], by rw [hU]; exact hP, va_K.moved hW.alike C.2.2.2.2.2.1, hD.weaken (fun _ _ _ _ => trivial)⟩⟩ rfl (by rw [List.length_map]; exact hn) hl.1 (by show st0.map (g_v ad) = _; rw [hst]; simp [g_v]) (g_lv hcat) hdg ⟨by omega, by omega⟩) hS (fun q _ h => hF q h) hF (fun u ra t H1 locs1 ht hvm hw hB hz1 hk1 hS => ?_)
  obtain ⟨rfl, hP1, hK1, hD1⟩ := hB
  rw [ht] at hP1
  exact kk H1 locs1 ls hP1 (hD1.weaken (fun _ _ _ h => hF _ h)) hS hl
theorem g_callrS (C : gC p R s m args meth c cc own nL D g As d) (as : List gV) {st0 : List gV} {ix np mL d' : Nat} {z : MethodName} {b : ByteArray} {rt : Option FieldType} {r : Nat} (hM : gKr l z b mL rt d' D g N ad ln A as A' r) (hs : g_siteS own ix z b mL rt np) (hd : d' + 1 ≤ d) (hn : as.length = np) (hst : st0 = as.reverse ++ st) (hcat : (st.map g_cat).sum ≤ 8) (hkn : k ≤ R.cells ∧ n ≤ R.slots) (hdg : decode cc pc = .ok (.invokestatic ix, 3)) (kk : gJ p l e R s m args below meth c Q nL D g As N ad ln A' loc k n (pc + 3) (gr r :: st)) : gJ p l e R s m args below meth c Q nL D g As N ad ln A loc k n pc st0 := by
  intro H locs ls hP hD hS hl
  have hF := g_frees hD hS C.2.2.2.2.2.2.1
  refine va_callr (va_runS (As := as.map (g_v ad)) (rest := st.map (g_v ad)) ⟨C.1, C.2.1, C.2.2.1, C.2.2.2.1, C.2.2.2.2.1⟩ (hM H.size) (cwS np C.2.2.2.2.1 (g_goodS hs) rfl rfl rfl hs.2.2.2.2.1 (g_room C.2.2.2.2.2.2.2.2 hd hs.2.2.2.2.2)) ⟨g_blind, fun U hU hW => ⟨rfl, by rw [hU], by rw [hU]; exact hP, va_K.moved hW.alike C.2.2.2.2.2.1, hD.weaken (fun _ _ _ _ => trivial)⟩⟩ rfl (by rw [List.length_map]; exact hn) hl.1 (by show st0.map (g_v ad) = _; rw [hst]; simp [g_v]) (g_lv hcat) hdg ⟨by omega, by omega⟩) hS (fun q _ h => hF q h) hF (fun u ra t H1 locs1 ht hvm hw hB hz1 hk1 hS => ?_)
  obtain ⟨rfl, hP1, hK1, hD1⟩ := hB
  rw [ht] at hP1
  exact kk H1 locs1 ls hP1 (hD1.weaken (fun _ _ _ h => hF _ h)) hS hl
end GK
end
section
/-! A METHOD'S ENTRY AND ITS ENDS -/
def g_args : Nat → List gV → List (Nat × gV)
  | _, [] => []
  | i, v :: vs => (i, v) :: g_args (if g_cat v = 2 then i + 2 else i + 1) vs
theorem g_args_map {ad : Nat → Nat} : ∀ (av : List gV) (i : Nat), lv_args i (av.map (g_v ad)) = (g_args i av).map (g_q ad)
  | [], _ => rfl
  | v :: vs, i => by
    show (i, g_v ad v) :: lv_args (if (g_v ad v).category = 2 then i + 2 else i + 1) (vs.map (g_v ad)) = _
    rw [g_cat_v, g_args_map vs]
    rfl
theorem g_sl_len {ad : Nat → Nat} : ∀ (av : List gV), (lg_sl (av.map (g_v ad))).length = (av.map g_cat).foldr (fun c n => (if c = 2 then 2 else 1) + n) 0
  | [] => rfl
  | v :: vs => by
    show (((if (g_v ad v).category = 2 then [Slot.val (g_v ad v), .second] else [.val (g_v ad v)]) : List Slot) ++ lg_sl (vs.map (g_v ad))).length = (if g_cat v = 2 then 2 else 1) + (vs.map g_cat).foldr (fun c n => (if c = 2 then 2 else 1) + n) 0
    rw [List.length_append, g_sl_len vs, g_cat_v]
    split <;> rfl
section GE
variable {p : Program} {l : Launch} {e : Env} {R : Room} {s : State} {m : MethodId} {args : Array Value} {below : List Frame} {meth : Method} {c : Code} {Q : State → Prop} {nL : Nat} {D : va_G} {g : gT} {As : Nat → Prop} {N : Nat} {ad ln : Nat → Nat} {A A' : gM} {loc loc' : List (Nat × gV)} {k n pc : Nat} {st : List gV} {cc : ByteArray} {own : String} {d : Nat}
/-- where a method that answers must come -/
def gEi (below : List Frame) (D : va_G) (g : gT) (N : Nat) (ad ln : Nat → Nat) (A A' : gM) (r : Int32) (args : Array Value) (s : State) : State → Prop := MQ below (g_Qi D g N ad ln A s.heap.size A' r) args s 0 0 (va_A (gw g ad ln A N) s.heap.size)
theorem g_meti {y : MethodName} {b : ByteArray} {nl : Nat} {rt : Option FieldType} {av : List gV} {r : Int32} (hpl : plainName y.cls = true) (hlen : (av.map g_cat).foldr (fun c n => (if c = 2 then 2 else 1) + n) 0 ≤ nl)
    (body : ∀ (p : Program) (e : Env) (s : State) (m : MethodId) (args : Array Value) (below : List Frame) (meth : Method) (c : Code), gC p (g_rm d) s m args meth c b y.cls nl D g (va_A (gw g ad ln A N) s.heap.size) d → meth.sig.returnType = rt → gJ p l e (g_rm d) s m args below meth c (gEi below D g N ad ln A A' r args s) nl D g (va_A (gw g ad ln A N) s.heap.size) N ad ln A (g_args 0 av) 0 0 0 []) : gKi l y b nl rt d D g N ad ln A av A' r := by
  intro sz
  refine Met.ofW (cc := b) (maxL := nl) (ret := rt) hpl rfl ?_
  intro p e s m args below meth c s₁ B hml hv
  obtain ⟨rfl, hsz, hP, hK, hD0⟩ := hv
  subst hsz
  have hts := atoms_spec (ws := g_ws y b nl rt) B.pre
  have hown : s.vm.findClass y.cls = some m.cls := findClass_of_methodNamed B.named
  have hl := lv_entry (av.map (g_v ad)) (n := nl) (by rw [g_sl_len]; exact hlen)
  rw [lg_entry_eq]
  rw [g_args_map] at hl
  exact body p e s m _ below meth c ⟨B.exec, B.bytes, hml, hown, fun w hw => hts w (List.mem_cons_of_mem _ hw), hK, fun q h => Or.inr h, B.notSynchronized, Nat.le_refl _, Nat.le_refl _⟩ B.returns s.heap [] _ hP hD0.self va_S.rf hl
/-- where a method that answers must come -/
def gEl (below : List Frame) (D : va_G) (g : gT) (N : Nat) (ad ln : Nat → Nat) (A A' : gM) (r : Int64) (args : Array Value) (s : State) : State → Prop := MQ below (g_Ql D g N ad ln A s.heap.size A' r) args s 0 0 (va_A (gw g ad ln A N) s.heap.size)
theorem g_metl {y : MethodName} {b : ByteArray} {nl : Nat} {rt : Option FieldType} {av : List gV} {r : Int64} (hpl : plainName y.cls = true) (hlen : (av.map g_cat).foldr (fun c n => (if c = 2 then 2 else 1) + n) 0 ≤ nl)
    (body : ∀ (p : Program) (e : Env) (s : State) (m : MethodId) (args : Array Value) (below : List Frame) (meth : Method) (c : Code), gC p (g_rm d) s m args meth c b y.cls nl D g (va_A (gw g ad ln A N) s.heap.size) d → meth.sig.returnType = rt → gJ p l e (g_rm d) s m args below meth c (gEl below D g N ad ln A A' r args s) nl D g (va_A (gw g ad ln A N) s.heap.size) N ad ln A (g_args 0 av) 0 0 0 []) : gKl l y b nl rt d D g N ad ln A av A' r := by
  intro sz
  refine Met.ofW (cc := b) (maxL := nl) (ret := rt) hpl rfl ?_
  intro p e s m args below meth c s₁ B hml hv
  obtain ⟨rfl, hsz, hP, hK, hD0⟩ := hv
  subst hsz
  have hts := atoms_spec (ws := g_ws y b nl rt) B.pre
  have hown : s.vm.findClass y.cls = some m.cls := findClass_of_methodNamed B.named
  have hl := lv_entry (av.map (g_v ad)) (n := nl) (by rw [g_sl_len]; exact hlen)
  rw [lg_entry_eq]
  rw [g_args_map] at hl
  exact body p e s m _ below meth c ⟨B.exec, B.bytes, hml, hown, fun w hw => hts w (List.mem_cons_of_mem _ hw), hK, fun q h => Or.inr h, B.notSynchronized, Nat.le_refl _, Nat.le_refl _⟩ B.returns s.heap [] _ hP hD0.self va_S.rf hl
/-- where a method that answers must come -/
def gEv (below : List Frame) (D : va_G) (g : gT) (N : Nat) (ad ln : Nat → Nat) (A A' : gM)  (args : Array Value) (s : State) : State → Prop := MQ below (g_Qv D g N ad ln A s.heap.size A') args s 0 0 (va_A (gw g ad ln A N) s.heap.size)
theorem g_metv {y : MethodName} {b : ByteArray} {nl : Nat} {rt : Option FieldType} {av : List gV}  (hpl : plainName y.cls = true) (hlen : (av.map g_cat).foldr (fun c n => (if c = 2 then 2 else 1) + n) 0 ≤ nl)
    (body : ∀ (p : Program) (e : Env) (s : State) (m : MethodId) (args : Array Value) (below : List Frame) (meth : Method) (c : Code), gC p (g_rm d) s m args meth c b y.cls nl D g (va_A (gw g ad ln A N) s.heap.size) d → meth.sig.returnType = rt → gJ p l e (g_rm d) s m args below meth c (gEv below D g N ad ln A A' args s) nl D g (va_A (gw g ad ln A N) s.heap.size) N ad ln A (g_args 0 av) 0 0 0 []) : gKv l y b nl rt d D g N ad ln A av A' := by
  intro sz
  refine Met.ofW (cc := b) (maxL := nl) (ret := rt) hpl rfl ?_
  intro p e s m args below meth c s₁ B hml hv
  obtain ⟨rfl, hsz, hP, hK, hD0⟩ := hv
  subst hsz
  have hts := atoms_spec (ws := g_ws y b nl rt) B.pre
  have hown : s.vm.findClass y.cls = some m.cls := findClass_of_methodNamed B.named
  have hl := lv_entry (av.map (g_v ad)) (n := nl) (by rw [g_sl_len]; exact hlen)
  rw [lg_entry_eq]
  rw [g_args_map] at hl
  exact body p e s m _ below meth c ⟨B.exec, B.bytes, hml, hown, fun w hw => hts w (List.mem_cons_of_mem _ hw), hK, fun q h => Or.inr h, B.notSynchronized, Nat.le_refl _, Nat.le_refl _⟩ B.returns s.heap [] _ hP hD0.self va_S.rf hl
/-- where a method that answers must come -/
def gEr (below : List Frame) (D : va_G) (g : gT) (N : Nat) (ad ln : Nat → Nat) (A A' : gM) (r : Nat) (args : Array Value) (s : State) : State → Prop := MQ below (g_Qr D g N ad ln A s.heap.size A' r) args s 0 0 (va_A (gw g ad ln A N) s.heap.size)
theorem g_metr {y : MethodName} {b : ByteArray} {nl : Nat} {rt : Option FieldType} {av : List gV} {r : Nat} (hpl : plainName y.cls = true) (hlen : (av.map g_cat).foldr (fun c n => (if c = 2 then 2 else 1) + n) 0 ≤ nl)
    (body : ∀ (p : Program) (e : Env) (s : State) (m : MethodId) (args : Array Value) (below : List Frame) (meth : Method) (c : Code), gC p (g_rm d) s m args meth c b y.cls nl D g (va_A (gw g ad ln A N) s.heap.size) d → meth.sig.returnType = rt → gJ p l e (g_rm d) s m args below meth c (gEr below D g N ad ln A A' r args s) nl D g (va_A (gw g ad ln A N) s.heap.size) N ad ln A (g_args 0 av) 0 0 0 []) : gKr l y b nl rt d D g N ad ln A av A' r := by
  intro sz
  refine Met.ofW (cc := b) (maxL := nl) (ret := rt) hpl rfl ?_
  intro p e s m args below meth c s₁ B hml hv
  obtain ⟨rfl, hsz, hP, hK, hD0⟩ := hv
  subst hsz
  have hts := atoms_spec (ws := g_ws y b nl rt) B.pre
  have hown : s.vm.findClass y.cls = some m.cls := findClass_of_methodNamed B.named
  have hl := lv_entry (av.map (g_v ad)) (n := nl) (by rw [g_sl_len]; exact hlen)
  rw [lg_entry_eq]
  rw [g_args_map] at hl
  exact body p e s m _ below meth c ⟨B.exec, B.bytes, hml, hown, fun w hw => hts w (List.mem_cons_of_mem _ hw), hK, fun q h => Or.inr h, B.notSynchronized, Nat.le_refl _, Nat.le_refl _⟩ B.returns s.heap [] _ hP hD0.self va_S.rf hl
theorem g_reti (C : gC p R s m args meth c cc own nL D g (va_A (gw g ad ln A N) s.heap.size) d) {r : Int32} (hr : meth.sig.returnType = some .int) (hdg : decode cc pc = .ok (.ireturn, 1)) : gJ p l e R s m args below meth c (gEi below D g N ad ln A A' r args s) nL D g (va_A (gw g ad ln A N) s.heap.size) N ad ln A' loc 0 0 pc [gi r] := fun H locs ls hP hD hS hl => W.iret (v := r) C.1 C.2.1 hr (fun t ht hW => ⟨⟨r, (), rfl, rfl, by rw [ht]; exact hP, va_K.moved hW.alike C.2.2.2.2.2.1, hD⟩, hS.F ht⟩) hS.2.2 hdg C.2.2.2.2.2.2.2.1
theorem g_retl (C : gC p R s m args meth c cc own nL D g (va_A (gw g ad ln A N) s.heap.size) d) {r : Int64} (hr : meth.sig.returnType = some .long) (hdg : decode cc pc = .ok (.lreturn, 1)) : gJ p l e R s m args below meth c (gEl below D g N ad ln A A' r args s) nL D g (va_A (gw g ad ln A N) s.heap.size) N ad ln A' loc 0 0 pc [gl r] := fun H locs ls hP hD hS hl => W.lret (v := r) C.1 C.2.1 hr (fun t ht hW => ⟨⟨r, (), rfl, rfl, by rw [ht]; exact hP, va_K.moved hW.alike C.2.2.2.2.2.1, hD⟩, hS.F ht⟩) hS.2.2 hdg C.2.2.2.2.2.2.2.1
theorem g_retv (C : gC p R s m args meth c cc own nL D g (va_A (gw g ad ln A N) s.heap.size) d)  (hr : meth.sig.returnType = none) (hdg : decode cc pc = .ok (.return_, 1)) : gJ p l e R s m args below meth c (gEv below D g N ad ln A A' args s) nL D g (va_A (gw g ad ln A N) s.heap.size) N ad ln A' loc 0 0 pc [] := fun H locs ls hP hD hS hl => W.vret C.1 C.2.1 hr (fun t ht hW => ⟨⟨(), rfl, trivial, by rw [ht]; exact hP, va_K.moved hW.alike C.2.2.2.2.2.1, hD⟩, hS.F ht⟩) hS.2.2 hdg C.2.2.2.2.2.2.2.1
theorem g_retz (C : gC p R s m args meth c cc own nL D g (va_A (gw g ad ln A N) s.heap.size) d) {r : Int32} (hr : meth.sig.returnType = some .boolean) (hz : r = 0 ∨ r = 1) (hdg : decode cc pc = .ok (.ireturn, 1)) : gJ p l e R s m args below meth c (gEi below D g N ad ln A A' r args s) nL D g (va_A (gw g ad ln A N) s.heap.size) N ad ln A' loc 0 0 pc [gi r] := fun H locs ls hP hD hS hl => W.zret (v := r) C.1 C.2.1 hr (by rcases hz with rfl | rfl <;> rfl) (fun t ht hW => ⟨⟨r, (), rfl, rfl, by rw [ht]; exact hP, va_K.moved hW.alike C.2.2.2.2.2.1, hD⟩, hS.F ht⟩) hS.2.2 hdg C.2.2.2.2.2.2.2.1
theorem g_retr (C : gC p R s m args meth c cc own nL D g (va_A (gw g ad ln A N) s.heap.size) d) {r : Nat} {rt : FieldType} (hr : meth.sig.returnType = some rt) (hrt : (∃ n, rt = .object n) ∨ ∃ t, rt = .array t) (hdg : decode cc pc = .ok (.areturn, 1)) : gJ p l e R s m args below meth c (gEr below D g N ad ln A A' r args s) nL D g (va_A (gw g ad ln A N) s.heap.size) N ad ln A' loc 0 0 pc [gr r] := fun H locs ls hP hD hS hl => W.aret (v := .ref (ad r)) C.1 C.2.1 hr hrt (Or.inr ⟨_, rfl⟩) (fun t ht hW => ⟨⟨(), ad r, rfl, trivial, rfl, by rw [ht]; exact hP, va_K.moved hW.alike C.2.2.2.2.2.1, hD⟩, hS.F ht⟩) hS.2.2 hdg C.2.2.2.2.2.2.2.1
theorem g_tableIn (C : gC p R s m args meth c cc own nL D g As d) {dflt lo hi : Int} {offs : Array Int} {len : Nat} {x : Int32} {off : Int} {tgt : Nat} (hdg : decode cc pc = .ok (.tableswitch dflt lo hi offs, len)) (h1 : ¬ x.toInt < lo) (h2 : ¬ hi < x.toInt) (ho : offs[(x.toInt - lo).toNat]? = some off) (ht : (pc : Int) + off = (tgt : Int)) (kk : gJ p l e R s m args below meth c Q nL D g As N ad ln A loc k n tgt st) : gJ p l e R s m args below meth c Q nL D g As N ad ln A loc k n pc (gi x :: st) := fun H locs ls hP hD hS hl => lv_tableIn C.1 C.2.1 hdg h1 h2 ho ht (kk H locs ls hP hD hS hl)
theorem g_tableOut (C : gC p R s m args meth c cc own nL D g As d) {dflt lo hi : Int} {offs : Array Int} {len : Nat} {x : Int32} {tgt : Nat} (hdg : decode cc pc = .ok (.tableswitch dflt lo hi offs, len)) (h : x.toInt < lo ∨ hi < x.toInt) (ht : (pc : Int) + dflt = (tgt : Int)) (kk : gJ p l e R s m args below meth c Q nL D g As N ad ln A loc k n tgt st) : gJ p l e R s m args below meth c Q nL D g As N ad ln A loc k n pc (gi x :: st) := fun H locs ls hP hD hS hl => lv_tableOut C.1 C.2.1 hdg h ht (kk H locs ls hP hD hS hl)
end GE
end
section
/-! THE MODELS' OWN WORDS: naming, guards, binds; and how a walk takes them apart -/
/-- the bound of every loop's model -/
def gF : Nat := 1000002
def g_let {α β : Type} (v : α) (f : α → β) : β := f v
theorem g_lt {α β : Type} {v : α} {f : α → Option β} {x : β} (h : g_let v f = some x) : ∃ w, v = w ∧ f w = some x := ⟨v, rfl, h⟩
theorem g_gd {β : Type} {c : Prop} {_ : Decidable c} {a : Option β} {x : β} (h : (if c then a else none) = some x) : c ∧ a = some x := by
  by_cases q : c
  · rw [if_pos q] at h; exact ⟨q, h⟩
  · rw [if_neg q] at h; cases h
theorem g_bd {α β : Type} {o : Option α} {f : α → Option β} {x : β} (h : o.bind f = some x) : ∃ q, o = some q ∧ f q = some x := by
  cases o with
  | none => cases h
  | some q => exact ⟨q, rfl, h⟩
theorem g_tt {β : Type} {c : Prop} {_ : Decidable c} {a b : Option β} {x : β} (q : c) (h : (if c then a else b) = some x) : a = some x := by rw [if_pos q] at h; exact h
theorem g_ff {β : Type} {c : Prop} {_ : Decidable c} {a b : Option β} {x : β} (q : ¬ c) (h : (if c then a else b) = some x) : b = some x := by rw [if_neg q] at h; exact h
theorem g_sw1_8 {x : Int32} (h1 : ¬ x = 1) (h2 : ¬ x = 2) (h3 : ¬ x = 3) (h4 : ¬ x = 4) (h5 : ¬ x = 5) (h6 : ¬ x = 6) (h7 : ¬ x = 7) (h8 : ¬ x = 8) : x.toInt < 1 ∨ 8 < x.toInt := by
  have t : ∀ y : Int32, ¬ x = y → x.toInt ≠ y.toInt := fun y h q => h (Int32.toInt_inj.mp q)
  have := t 1 h1; have := t 2 h2; have := t 3 h3; have := t 4 h4; have := t 5 h5; have := t 6 h6; have := t 7 h7; have := t 8 h8
  simp at *
  omega
theorem g_sw0_7 {x : Int32} (h0 : ¬ x = 0) (h1 : ¬ x = 1) (h2 : ¬ x = 2) (h3 : ¬ x = 3) (h4 : ¬ x = 4) (h5 : ¬ x = 5) (h6 : ¬ x = 6) (h7 : ¬ x = 7) : x.toInt < 0 ∨ 7 < x.toInt := by
  have t : ∀ y : Int32, ¬ x = y → x.toInt ≠ y.toInt := fun y h q => h (Int32.toInt_inj.mp q)
  have := t 0 h0; have := t 1 h1; have := t 2 h2; have := t 3 h3; have := t 4 h4; have := t 5 h5; have := t 6 h6; have := t 7 h7
  simp at *
  omega
theorem g_rowI : ∀ j, j < 40 → g_isI (3 + j) = true ∧ g_isI (45 + j) = true ∧ g_isI (86 + j) = true ∧ g_isI (141 + j) = true ∧ g_len (3 + j) = 7 ∧ g_len (45 + j) = 60 ∧ g_len (86 + j) = 5 ∧ g_len (141 + j) = 60 := by decide +kernel
theorem g_row3 {N : Nat} {ln : Nat → Nat} {x : Int32} (hN : 183 ≤ N) (h : g_in x 40 = true) : 3 + x.toNatClampNeg < N ∧ g_isI (3 + x.toNatClampNeg) = true ∧ g_ln ln (3 + x.toNatClampNeg) = 7 := by
  have h1 := g_in_lt h
  exact ⟨by omega, (g_rowI _ h1).1, by rw [g_ln_c (by omega)]; exact (g_rowI _ h1).2.2.2.2.1⟩
theorem g_row45 {N : Nat} {ln : Nat → Nat} {x : Int32} (hN : 183 ≤ N) (h : g_in x 40 = true) : 45 + x.toNatClampNeg < N ∧ g_isI (45 + x.toNatClampNeg) = true ∧ g_ln ln (45 + x.toNatClampNeg) = 60 := by
  have h1 := g_in_lt h
  exact ⟨by omega, (g_rowI _ h1).2.1, by rw [g_ln_c (by omega)]; exact (g_rowI _ h1).2.2.2.2.2.1⟩
theorem g_row86 {N : Nat} {ln : Nat → Nat} {x : Int32} (hN : 183 ≤ N) (h : g_in x 40 = true) : 86 + x.toNatClampNeg < N ∧ g_isI (86 + x.toNatClampNeg) = true ∧ g_ln ln (86 + x.toNatClampNeg) = 5 := by
  have h1 := g_in_lt h
  exact ⟨by omega, (g_rowI _ h1).2.2.1, by rw [g_ln_c (by omega)]; exact (g_rowI _ h1).2.2.2.2.2.2.1⟩
theorem g_row141 {N : Nat} {ln : Nat → Nat} {x : Int32} (hN : 183 ≤ N) (h : g_in x 40 = true) : 141 + x.toNatClampNeg < N ∧ g_isI (141 + x.toNatClampNeg) = true ∧ g_ln ln (141 + x.toNatClampNeg) = 60 := by
  have h1 := g_in_lt h
  exact ⟨by omega, (g_rowI _ h1).2.2.2.1, by rw [g_ln_c (by omega)]; exact (g_rowI _ h1).2.2.2.2.2.2.2⟩
/-- the words of Math.min, Math.max -/
def g_siteM (own : String) (ix : Nat) (z : MethodName) (b : ByteArray) : Prop := Cond.methodLink own ix z ∈ gtb ∧ Cond.static z ∈ gtb ∧ Cond.initialized "java/lang/Math" ∈ gtb ∧ Cond.code z b 2 (some .int) ∈ gtb
section GM
variable {p : Program} {l : Launch} {e : Env} {R : Room} {s : State} {m : MethodId} {args : Array Value} {below : List Frame} {meth : Method} {c : Code} {Q : State → Prop} {nL : Nat} {D : va_G} {g : gT} {As : Nat → Prop} {N : Nat} {ad ln : Nat → Nat} {A A' : gM} {loc loc' : List (Nat × gV)} {k n pc : Nat} {st : List gV} {cc : ByteArray} {own : String} {d : Nat}
theorem g_topi {x y : Int32} (h : x = y) (kk : gJ p l e R s m args below meth c Q nL D g As N ad ln A loc k n pc (gi y :: st)) : gJ p l e R s m args below meth c Q nL D g As N ad ln A loc k n pc (gi x :: st) := h ▸ kk
theorem g_topl {x y : Int64} (h : x = y) (kk : gJ p l e R s m args below meth c Q nL D g As N ad ln A loc k n pc (gl y :: st)) : gJ p l e R s m args below meth c Q nL D g As N ad ln A loc k n pc (gl x :: st) := h ▸ kk
theorem g_topd {x y : UInt64} (h : x = y) (kk : gJ p l e R s m args below meth c Q nL D g As N ad ln A loc k n pc (gd y :: st)) : gJ p l e R s m args below meth c Q nL D g As N ad ln A loc k n pc (gd x :: st) := h ▸ kk
theorem g_mmax (C : gC p R s m args meth c cc own nL D g As d) {x y : Int32} {ix : Nat} (hs : g_siteM own ix Lib.Math.max.name Lib.Math.max.code) (hd : 1 ≤ d) (hcat : (st.map g_cat).sum ≤ 8) (hkn : k ≤ R.cells ∧ n ≤ R.slots) (hdg : decode cc pc = .ok (.invokestatic ix, 3)) (kk : gJ p l e R s m args below meth c Q nL D g As N ad ln A loc k n (pc + 3) (gi (if x < y then y else x) :: st)) : gJ p l e R s m args below meth c Q nL D g As N ad ln A loc k n pc (gi y :: gi x :: st) := fun H locs ls hP hD hS hl => va_mmax C.1 C.2.1 (by rw [C.2.2.1]; exact hl.1.symm) C.2.2.2.1 (C.2.2.2.2.1 _ hs.1) (C.2.2.2.2.1 _ hs.2.1) (C.2.2.2.2.1 _ hs.2.2.1) (C.2.2.2.2.1 _ hs.2.2.2) (by have := C.2.2.2.2.2.2.2.2.1; omega) (by have h1 := g_lv (ad := ad) hcat; have := C.2.2.2.2.2.2.2.2.2; omega) hkn.1 hkn.2 hdg (kk H locs ls hP hD hS hl)
theorem g_mmin (C : gC p R s m args meth c cc own nL D g As d) {x y : Int32} {ix : Nat} (hs : g_siteM own ix Lib.Math.min.name Lib.Math.min.code) (hd : 1 ≤ d) (hcat : (st.map g_cat).sum ≤ 8) (hkn : k ≤ R.cells ∧ n ≤ R.slots) (hdg : decode cc pc = .ok (.invokestatic ix, 3)) (kk : gJ p l e R s m args below meth c Q nL D g As N ad ln A loc k n (pc + 3) (gi (if y < x then y else x) :: st)) : gJ p l e R s m args below meth c Q nL D g As N ad ln A loc k n pc (gi y :: gi x :: st) := fun H locs ls hP hD hS hl => va_mmin C.1 C.2.1 (by rw [C.2.2.1]; exact hl.1.symm) C.2.2.2.1 (C.2.2.2.2.1 _ hs.1) (C.2.2.2.2.1 _ hs.2.1) (C.2.2.2.2.1 _ hs.2.2.1) (C.2.2.2.2.1 _ hs.2.2.2) (by have := C.2.2.2.2.2.2.2.2.1; omega) (by have h1 := g_lv (ad := ad) hcat; have := C.2.2.2.2.2.2.2.2.2; omega) hkn.1 hkn.2 hdg (kk H locs ls hP hD hS hl)
end GM
end
section
/-- the array class over rows of ty is there -/
def va_AOA (ty : FieldType) (U : State) : Prop := (Cond.arrayOver (.array ty)).before #[] U = true
theorem va_AOA.use {ty : FieldType} {A : Array Value} {U : State} (h : va_AOA ty U) : (Cond.arrayOver (.array ty)).before A U = true := h
/-! ===== BEGIN new T[n][m]: the outer array a place, the inner ones among the pooled ===== -/
/-- f, but v at every address of l -/
def vr_up {α : Type} (f : Nat → α) (l : List Nat) (v : α) : Nat → α := fun a => if a ∈ l then v else f a
theorem vr_up_in {α : Type} {f : Nat → α} {l : List Nat} {v : α} {a : Nat} (h : a ∈ l) : vr_up f l v a = v := if_pos h
theorem vr_up_ne {α : Type} {f : Nat → α} {l : List Nat} {v : α} {a : Nat} (h : a ∉ l) : vr_up f l v a = f a := if_neg h
theorem vr_rows {L l : List Nat} {f : Nat → va_E} {e : va_E} (h : ∀ a, a ∈ l → a ∉ L) : va_pl L f ++ l.map (fun a => (a, e)) = va_pl (L ++ l) (vr_up f l e) := by
  unfold va_pl
  rw [List.map_append]
  congr 1
  · apply List.map_congr_left
    intro a ha
    rw [vr_up_ne (fun q => h a q ha)]
  · apply List.map_congr_left
    intro a ha
    rw [vr_up_in ha]
theorem vr_lay {X rows : va_W} {x : Nat × va_E} {pl : va_W} {D : va_G} {cl : List vw_C} {H : Heap} (hP : va_P D cl (((X ++ pl) ++ [x]) ++ rows) H) : va_P D cl ((X ++ [x]) ++ (pl ++ rows)) H := by
  rw [List.append_assoc (X ++ pl)] at hP
  have h := va_P.swap hP
  rw [← List.append_assoc X] at h
  have h2 := va_P.swap h
  rw [List.append_assoc (X ++ [x])] at h2
  exact h2
theorem vr_layD {X rows : va_W} {x : Nat × va_E} {pl : va_W} {A : Nat → Prop} (hD : va_D A (((X ++ pl) ++ [x]) ++ rows)) : va_D A ((X ++ [x]) ++ (pl ++ rows)) := by
  rw [List.append_assoc (X ++ pl)] at hD
  have h := va_D.swap hD
  rw [← List.append_assoc X] at h
  have h2 := va_D.swap h
  rw [List.append_assoc (X ++ [x])] at h2
  exact h2
theorem vr_outer (c : ClassId) (N h0 : Nat) : ∀ i : Nat, Jvm.Free.Multi.outerC c N h0 i = arrV c N (fun j => va_rf (if j < i then some (h0 + 1 + j) else none))
  | 0 => by
    show ({ cls := c, slots := Array.replicate N .null, vm := .none } : Cell) = _
    rw [arrV_new]
    refine congrArg (arrV c N) (funext fun j => ?_)
    simp [va_rf]
  | i + 1 => by
    show (Jvm.Free.Multi.outerC c N h0 i).setSlot i (.ref (h0 + 1 + i)) = _
    rw [vr_outer c N h0 i, arrV_store]
    refine congrArg (arrV c N) (funext fun j => ?_)
    by_cases e : j = i
    · subst e
      simp [updV, va_rf]
    · by_cases h : j < i
      · simp [updV, e, h, Nat.lt_succ_of_lt h]
      · simp [updV, e, h, show ¬ j < i + 1 by omega]
section VGM
variable {p : Program} {l : Launch} {e : Env} {R : Room} {s : State} {m : MethodId} {args : Array Value} {below : List Frame} {meth : Method} {c : Code} {H : Heap} {locs : List Loc} {cells slots : Nat} {Q : State → Prop}
variable {cc : ByteArray} {pc : Nat} {ls : Array Slot} {rest : List Value} {D : va_G} {cl : List vw_C} {A : Nat → Prop} {a : Nat} {tys : List (ClassId × FieldType)} {ws : va_W} {H0 : Heap}
theorem va_mna {X : va_W} {L : List Nat} {f : Nat → va_E} {cc : ByteArray} (hexec : p.tables.exec = Jvm.exec) (hb : c.code = cc) {own : String} {index : Nat} {ty : FieldType} {cy : ClassId} (hown : s.vm.findClass own = some m.cls) (hclink : (Cond.classLink own index ("[" ++ (FieldType.array ty).toString)).before args s = true) (hover : va_AOA ty s) (harr : (Cond.arrayClass ty).before args s = true) (hcy : s.vm.findClass (FieldType.array ty).toString = some cy)
    (hK : va_K D cl tys s) (hP : va_P D cl (X ++ va_pl L f) H) (hD : va_D A (X ++ va_pl L f)) (hS : va_S A H0 H locs) (hA : ∀ q, H0.size ≤ q → A q) {n k : Int32} {N' K' : Nat} {z : vp_A} (hn : ¬ n < 0) (hk : ¬ k < 0) (hN : n.toNatClampNeg = N') (hM : k.toNatClampNeg = K')
    (hb1 : N' * 4 ≤ 536870912) (hb2 : K' * componentBytes ty ≤ 536870912) (hb3 : K' ≤ 536870912) (hdf : fits ty (defaultValue ty) = true) (hdd : (defaultValue ty).isDefault = true) (hcells : cells + (1 + N') ≤ R.cells) (hslots : slots + (N' + N' * K') ≤ R.slots) (hz : ∀ c : ClassId, Jvm.Free.Multi.innerC c K' (defaultValue ty) = vp_cell c z) (hdg : decode cc pc = .ok (.multianewarray index 2, 4))
    (kk : ∀ (q : Nat) (r : Nat → Nat) (cA : ClassId) (H1 : Heap), (∀ i j : Nat, i < N' → j < N' → r i = r j → i = j) → (∀ i : Nat, i < N' → r i ∉ L) → va_K D cl (tys ++ [(cA, .array ty)]) s →
      va_P D cl ((X ++ [(q, .inl (cA, N', .inr (.inr (.inr (.inr (fun i => if i < N' then some (r i) else none))))))]) ++ va_pl (L ++ (List.range N').map r) (vr_up f ((List.range N').map r) (.inl (cy, z)))) H1 → va_D A ((X ++ [(q, .inl (cA, N', .inr (.inr (.inr (.inr (fun i => if i < N' then some (r i) else none))))))]) ++ va_pl (L ++ (List.range N').map r) (vr_up f ((List.range N').map r) (.inl (cy, z)))) → va_S A H0 H1 locs →
      W p l e R s m args below meth c H1 locs (cells + 1 + N') (slots + N' + N' * K') Q (F0 m (pc + 4) ls (.ref q :: rest))) : W p l e R s m args below meth c H locs cells slots Q (F0 m pc ls (.int k :: .int n :: rest)) := by
  subst hN
  subst hM
  intro T hT Xs
  obtain ⟨vm₁, cA, comp, -, fA, fC, hO, -, X', step⟩ := Xs.multianewarray2F hexec hown hclink (va_AOA.use hover) harr (g := F0 m pc ls (.int k :: .int n :: rest)) rfl (by rw [hb]; exact hdg) rfl hn hk hb1 hb2 hb3 hdf hdd hcells hslots
  have ec : some cy = some comp := hcy.symm.trans fC
  cases ec
  generalize hF : Jvm.Free.Multi.fill (T.setVm vm₁) cA cy n.toNatClampNeg k.toNatClampNeg (defaultValue ty) n.toNatClampNeg = F at X' step
  have hTh : (T.setVm vm₁).heap = H := hT
  obtain ⟨f1, f2, -, -⟩ := Jvm.Free.Multi.fill_facts (T.setVm vm₁) cA cy n.toNatClampNeg k.toNatClampNeg (defaultValue ty) n.toNatClampNeg
  rw [hF, hTh] at f1 f2
  have hold : ∀ x : Nat, x < H.size → F.heap[x]? = H[x]? := fun x hx => by
    have := Jvm.Free.Multi.fill_old (T.setVm vm₁) cA cy n.toNatClampNeg k.toNatClampNeg (defaultValue ty) (a := x) (by rw [hTh]; exact hx) n.toNatClampNeg
    rw [hF, hTh] at this
    exact this
  have hrow : ∀ j : Nat, j < n.toNatClampNeg → F.heap[H.size + 1 + j]? = some (vp_cell cy z) := fun j hj => by
    have := Jvm.Free.Multi.fill_inner (T.setVm vm₁) cA cy n.toNatClampNeg k.toNatClampNeg (defaultValue ty) n.toNatClampNeg j hj
    rw [hF, hTh, hz] at this
    exact this
  have hout : Jvm.Free.Multi.outerC cA n.toNatClampNeg H.size n.toNatClampNeg = vp_cell cA (n.toNatClampNeg, .inr (.inr (.inr (.inr (fun i => if i < n.toNatClampNeg then some (H.size + 1 + i) else none))))) := by
    rw [vp_cell_q]
    exact vr_outer cA n.toNatClampNeg H.size n.toNatClampNeg
  rw [hout] at f2
  have hlt : ∀ a, a ∈ L → a < H.size := fun a ha => by
    obtain ⟨k9, hk9⟩ := va_pl_get (X := X) (f := f) ha
    exact (hP k9 _ hk9).lt
  have hnl : ∀ i : Nat, i < n.toNatClampNeg → H.size + 1 + i ∉ L := fun i _ h => by
    have := hlt _ h
    omega
  have hnm : ∀ a, a ∈ (List.range n.toNatClampNeg).map (fun i => H.size + 1 + i) → a ∉ L := fun a ha h => by
    obtain ⟨i, -, rfl⟩ := List.mem_map.mp ha
    have := hlt _ h
    omega
  have hP0 : va_P D cl (X ++ va_pl L f) F.heap := hP.kept (fun k9 x hx => hold x.1 ((hP k9 x hx).lt))
  have hP1 : va_P D cl ((X ++ va_pl L f) ++ [(H.size, .inl (cA, n.toNatClampNeg, .inr (.inr (.inr (.inr (fun i => if i < n.toNatClampNeg then some (H.size + 1 + i) else none))))))]) F.heap := hP0.app (fun k9 x hx => by
    have h0 : k9 < 1 := (List.getElem?_eq_some_iff.mp hx).1
    rw [show k9 = 0 by omega] at hx
    cases hx
    exact f2)
  have hP2 : va_P D cl (((X ++ va_pl L f) ++ [(H.size, .inl (cA, n.toNatClampNeg, .inr (.inr (.inr (.inr (fun i => if i < n.toNatClampNeg then some (H.size + 1 + i) else none))))))]) ++ ((List.range n.toNatClampNeg).map (fun i => H.size + 1 + i)).map (fun a => (a, .inl (cy, z)))) F.heap := hP1.app (fun k9 x hx => by
    obtain ⟨a, ha, rfl⟩ := List.mem_map.mp (List.mem_of_getElem? hx)
    obtain ⟨i, hi, rfl⟩ := List.mem_map.mp ha
    exact hrow i (List.mem_range.mp hi))
  have hD2 : va_D A (((X ++ va_pl L f) ++ [(H.size, .inl (cA, n.toNatClampNeg, .inr (.inr (.inr (.inr (fun i => if i < n.toNatClampNeg then some (H.size + 1 + i) else none))))))]) ++ ((List.range n.toNatClampNeg).map (fun i => H.size + 1 + i)).map (fun a => (a, .inl (cy, z)))) := by
    have hD1 := hD.push (e := .inl (cA, n.toNatClampNeg, .inr (.inr (.inr (.inr (fun i => if i < n.toNatClampNeg then some (H.size + 1 + i) else none)))))) hP rfl (hA _ hS.1)
    generalize hW1 : (X ++ va_pl L f) ++ [(H.size, .inl (cA, n.toNatClampNeg, .inr (.inr (.inr (.inr (fun i => if i < n.toNatClampNeg then some (H.size + 1 + i) else none))))))] = W1 at hD1 hP1 ⊢
    have hle : ∀ (k9 : Nat) (x : Nat × va_E), W1[k9]? = some x → x.1 ≤ H.size := fun k9 x hx => by
      rw [← hW1] at hx
      by_cases hl : k9 < (X ++ va_pl L f).length
      · rw [List.getElem?_append_left hl] at hx
        exact Nat.le_of_lt ((hP k9 x hx).lt)
      · rw [List.getElem?_append_right (by omega)] at hx
        have h0 : k9 - (X ++ va_pl L f).length < 1 := (List.getElem?_eq_some_iff.mp hx).1
        rw [show k9 - (X ++ va_pl L f).length = 0 by omega] at hx
        cases hx
        exact Nat.le_refl _
    have hr : ∀ (k9 : Nat) (x : Nat × va_E), (((List.range n.toNatClampNeg).map (fun i => H.size + 1 + i)).map (fun a => ((a, .inl (cy, z)) : Nat × va_E)))[k9]? = some x → x.1 = H.size + 1 + k9 := fun k9 x hx => by
      rw [List.getElem?_map, List.getElem?_map] at hx
      by_cases h9 : k9 < n.toNatClampNeg
      · rw [List.getElem?_range h9] at hx
        cases hx
        rfl
      · have hn0 : (List.range n.toNatClampNeg)[k9]? = none := List.getElem?_eq_none (by rw [List.length_range]; omega)
        rw [hn0] at hx
        cases hx
    refine ⟨fun i j x y hi hj hxy => ?_, fun k9 x hx => ?_⟩
    · by_cases h1 : i < W1.length <;> by_cases h2 : j < W1.length
      · rw [List.getElem?_append_left h1] at hi
        rw [List.getElem?_append_left h2] at hj
        exact hD1.1 i j x y hi hj hxy
      · rw [List.getElem?_append_left h1] at hi
        rw [List.getElem?_append_right (by omega)] at hj
        have := hle _ _ hi
        have := hr _ _ hj
        omega
      · rw [List.getElem?_append_right (by omega)] at hi
        rw [List.getElem?_append_left h2] at hj
        have := hle _ _ hj
        have := hr _ _ hi
        omega
      · rw [List.getElem?_append_right (by omega)] at hi hj
        have := hr _ _ hi
        have := hr _ _ hj
        omega
    · by_cases h1 : k9 < W1.length
      · rw [List.getElem?_append_left h1] at hx
        exact hD1.2 k9 x hx
      · rw [List.getElem?_append_right (by omega)] at hx
        have := hr _ _ hx
        exact hA _ (by have := hS.1; omega)
  have hAr : ArrOfT s cA (.array ty) := fun N9 z9 => by
    obtain ⟨-, k9, hk9, cm9, hkk9⟩ := (hO 0 0 0).1
    exact ⟨(fun q hq => by cases hq), k9, hk9, cm9, hkk9⟩
  have hK2 : va_K D cl (tys ++ [(cA, .array ty)]) s := ⟨hK.1, fun k9 x hx => by
    by_cases hl : k9 < tys.length
    · rw [List.getElem?_append_left hl] at hx
      exact hK.2 k9 x hx
    · rw [List.getElem?_append_right (by omega)] at hx
      have h0 : k9 - tys.length < 1 := (List.getElem?_eq_some_iff.mp hx).1
      rw [show k9 - tys.length = 0 by omega] at hx
      cases hx
      exact ⟨hAr, fA⟩⟩
  obtain ⟨t, a1, b1⟩ := kk H.size (fun i => H.size + 1 + i) cA F.heap (fun i j _ _ h => by have h9 : H.size + 1 + i = H.size + 1 + j := h; omega) hnl hK2 (by rw [← vr_rows hnm]; exact vr_lay hP2) (by rw [← vr_rows hnm]; exact vr_layD hD2) ⟨by rw [f1]; have := hS.1; omega, fun x h1 h2 => (hold x (Nat.lt_of_lt_of_le h1 hS.1)).trans (hS.2.1 x h1 h2), hS.2.2⟩ F rfl X'
  refine ⟨t, step t ?_, b1⟩
  have e : T.heap.size = H.size := by rw [hT]
  rw [e]
  exact a1
end VGM
/-! ===== END ===== -/

/-! ===== BEGIN exceptions that leave a method, and their catching by the caller (launches without stack traces) ===== -/
section VXA
/-! The laws vx_back, vx_callV, vx_callS, vx_callSW, vx_throw0, vx_throwS follow proofs of the library, with one case more: JvmDerived/Free/Laws.lean (Back.of_free), Shelf42/LK1.lean (callV, callS), Shelf/KitTraced.lean (throwNew0V, throwNewS). -/
/-- where a method has thrown q: the class by its name, the cell, what was written, the world -/
def vx_T (XC : String → State → State → Prop) (st : State) (q : Addr) (t : State) (mc ms : Nat) (free : Addr → Prop) : Prop :=
  ∃ (E : String) (ce : Cell) (L : List Loc), XC E st t ∧ t.heap[q]? = some ce ∧ ce.vm = .none ∧ st.vm.findClass E = some ce.cls ∧ st.WarmedH t.vm ∧ st.sameButNew ({ t with vm := st.vm } : State) L mc ms ∧ ∀ z ∈ L, free z.base
def vx_Q (Qc : Array Value → State → Outcome → State → Prop) (XC : String → State → State → Prop) (mc ms : Nat) (free : Addr → Prop) : Array Value → State → Outcome → State → Prop := fun a st o t =>
  (Qc a st o t ∧ ∃ L, FrameEnd st o t L mc ms ∧ ∀ q ∈ L, free q.base) ∨ ∃ q, o = .threw q ∧ vx_T XC st q t mc ms free
/-- a callee that returns or throws -/
def vx_Met (l : Launch) (y : MethodName) (ws : List Cond) (rm : Room) (Pc : Array Value → State → Prop) (Qc : Array Value → State → Outcome → State → Prop) (XC : String → State → State → Prop) (mc ms : Nat) (free : Addr → Prop) : Prop :=
  MetFree l y (headSpec ws rm) Pc (fun _ _ _ _ _ => True) (vx_Q Qc XC mc ms free)
def vx_Post (XC : String → State → State → Prop) (mc ms : Nat) (free : Addr → Prop) : Pt → Array Value → Addr → Pt → Prop := fun A a q B =>
  ∃ (g : JFrame) (mk : MethodId) (t : State) (L : List Loc) (E : String) (ce : Cell), B.U.heap = t.heap ∧ B.U.vm = t.vm ∧ XC E (A.U.calling g mk a) t ∧ t.heap[q]? = some ce ∧ ce.vm = .none ∧ A.U.vm.findClass E = some ce.cls ∧ B.locs = A.locs ++ L ∧ (∀ z ∈ L, free z.base) ∧ B.cells = A.cells + mc ∧ B.slots = A.slots + ms
def vx_Back (l : Launch) (R : Room) (p : Program) (e : Env) (below : List Frame) (s : State) (sargs : Array Value) (y : MethodName) (len W9 : Nat)
    (Pre : Pt → Array Value → Prop) (Post : Pt → Array Value → Option Value → Pt → Prop) (PostX : Pt → Array Value → Addr → Pt → Prop) : Prop :=
  ∀ (m : MethodId) (meth : Method) (c : Code) (A : Pt) (g : JFrame) (ig : Instr) (mk : MethodId) (a : Array Value),
    Stand p l e R s m sargs below meth c A.U A.locs A.cells A.slots → g.method = m → g.locals.size = c.maxLocals → decode c.code g.pc = .ok (ig, len) →
    2 * g.monitorRoom + (g.stack.map fun v => v.category).sum ≤ W9 → A.U.methodNamed? y = some mk → Pre A a →
    (∃ (v : Option Value) (B : Pt), Stand p l e R s m sargs below meth c B.U B.locs B.cells B.slots ∧ Post A a v B ∧
      Steps p.tables e below (doInvoke e (A.U.setTop g) [] mk a).1 (B.U.setTop { g with pc := g.pc + len, stack := v.toList ++ g.stack })) ∨
    (∃ (q : Addr) (B : Pt), Stand p l e R s m sargs below meth c B.U B.locs B.cells B.slots ∧ PostX A a q B ∧
      Steps p.tables e below (doInvoke e (A.U.setTop g) [] mk a).1 ((B.U.setTop g).pushFrame (.throwing q)))
section Payer
variable {l : Launch} {R : Room} {p : Program} {e : Env} {below : List Frame} {s : State} {sargs : Array Value} {y : MethodName} {len W9 : Nat}
theorem vx_back {ws : List Cond} {rm : Room} {Pc : Array Value → State → Prop} {Qc : Array Value → State → Outcome → State → Prop} {XC : String → State → State → Prop} {mc ms : Nat} {free : Addr → Prop} {bytes : ByteArray} {maxL : Nat} {ret : Option FieldType}
    (hM : vx_Met l y ws rm Pc Qc XC mc ms free) (hblind : FrameBlind Pc) (hrc : rm.cells = mc) (hrs : rm.slots = ms)
    (hframes : rm.frames + 1 ≤ R.frames) (hlocals : W9 + (maxL + 11) + rm.locals ≤ R.locals)
    (hws : ∀ w ∈ ws, ∀ a' U, s.WarmedH U.vm → w.before a' U = true) (hcode : Cond.code y bytes maxL ret ∈ ws) (hinit : ∀ a' U, s.WarmedH U.vm → (Cond.initialized y.cls).before a' U = true) :
    vx_Back l R p e below s sargs y len W9 (PreOf R mc ms Pc) (PostOf Qc mc ms free) (vx_Post XC mc ms free) := by
  intro m meth c A g ig mk a X hg hsize hdg hW hn hp
  have h1 : (headSpec ws rm).pre.before a A.U = true := atoms_intro fun w hw => hws w hw _ _ X.warmed
  have h2 : (Cond.code y bytes maxL ret).before a A.U = true := hws _ hcode _ _ X.warmed
  have h3 : (Cond.initialized y.cls).before a A.U = true := hinit _ _ X.warmed
  have h4 : A.cells + (headSpec ws rm).room.cells ≤ R.cells := by rw [show (headSpec ws rm).room.cells = mc from hrc]; exact hp.1
  have h5 : A.slots + (headSpec ws rm).room.slots ≤ R.slots := by rw [show (headSpec ws rm).room.slots = ms from hrs]; exact hp.2.1
  have hPc : Pc a (A.U.calling g mk a) := hblind _ _ _ _ hp.2.2
  obtain ⟨U, Ls, c0, s0⟩ := A
  dsimp only [Pt.U, Pt.locs, Pt.cells, Pt.slots] at h1 h2 h3 h4 h5 X hn hPc ⊢
  obtain ⟨methY, cY, hmY, hcY, -, hlY, -, -, -, -⟩ := Cond.code_spec hn h2
  obtain ⟨kY, hkY, -⟩ := className_of_methodNamed hn
  have hinitY : kY.init = .initialized := Cond.initialized_spec (findClass_of_methodNamed hn) hkY h3
  have h : At U g.method c below := by rw [hg]; exact X.here
  have hlocals9 : W9 + (maxL + 11) + (headSpec ws rm).room.locals ≤ R.locals := hlocals
  have happ : (headSpec ws rm).appliesLoose y e.platform (U.calling g mk a) = true :=
    Spec.appliesLoose_calling (g := g) h hdg hn hkY hinitY
      (X.room_calling (g := g) (R' := (headSpec ws rm).room) hsize hmY hcY hframes (by rw [hlY]; omega) h4 h5) h1
  obtain ⟨mid, hmid⟩ := h.above
  have hfr : (U.setTop g).frames = (.java g :: mid) ++ below := by rw [State.frames_setTop' g h.top, hmid]; rfl
  obtain ⟨o, s₂, hsteps, -, hend, hq⟩ := Steps.callFree hM p X.admits X.cas X.clock (acts := []) hfr happ hPc trivial
  have hq' : vx_Q Qc XC mc ms free a (U.calling g mk a) o s₂ := hq
  rw [State.frames_setTop' g h.top] at hend
  obtain ⟨g₀, hg0⟩ := Option.isSome_iff_exists.mp h.top
  obtain ⟨r, hr⟩ := State.topJava?_eq_some.mp hg0
  have hr' : (({ U with heap := s₂.heap, slotsUsed := s₂.slotsUsed } : State).setVm s₂.vm).frames = .java g₀ :: r := hr
  rcases hq' with ⟨hqc, L, hfe, hL⟩ | ⟨q, rfl, E, ce, L, hx, hce, hcv, hcl, hW₂, hsm, hL⟩
  · obtain ⟨⟨v, rfl⟩, hW₂, e2, q2, q3, q4, q5, q6⟩ := id hfe
    have e3 : s₂ = ({ (U.calling g mk a).setFrames s₂.frames with heap := s₂.heap, slotsUsed := s₂.slotsUsed } : State).setVm s₂.vm := by
      have : s₂ = ({ s₂ with vm := (U.calling g mk a).vm } : State).setVm s₂.vm := rfl
      rw [e2] at this
      exact this
    obtain ⟨c₂, i₂, len₂, hc₂, hd₂, hf₂⟩ := hend
    have hW' : U.WarmedH s₂.vm := hW₂
    have hcc : c₂ = c := by
      have h1 : s₂.code? g.method = U.code? g.method := by
        rw [State.code?_eq, State.code?_eq, hW'.alike.method?]
      exact Option.some.inj (hc₂.symm.trans (h1.trans h.code))
    subst hcc
    have hlen : len₂ = len := by rw [hdg] at hd₂; cases hd₂; rfl
    subst hlen
    have hs₂ : s₂ = (({ U with heap := s₂.heap, slotsUsed := s₂.slotsUsed } : State).setVm s₂.vm).setTop { g with pc := g.pc + len₂, stack := v.toList ++ g.stack } := by
      refine e3.trans ?_
      rw [hf₂, State.calling_eq h.top, State.setFrames_setFrames, State.setTop_of_frames _ hr', hr]
      rfl
    have hsame : U.sameButNew ({ U with heap := s₂.heap, slotsUsed := s₂.slotsUsed } : State) L mc ms := by
      refine ⟨?_, q2, q3, q4, q5, q6⟩
      obtain ⟨t, ht, -⟩ := State.frames_cons hr
      show ({ U with heap := s₂.heap, slotsUsed := s₂.slotsUsed } : State) = { U.setFrames U.frames with heap := s₂.heap, slotsUsed := s₂.slotsUsed }
      rw [State.setFrames_self ht]
    subst hg
    refine Or.inl ⟨v, ⟨(({ U with heap := s₂.heap, slotsUsed := s₂.slotsUsed } : State).setVm s₂.vm), Ls ++ L, c0 + mc, s0 + ms⟩,
      ⟨X.admits, X.cas, X.clock, X.frames, X.room, X.hears, X.method, X.code, (X.here.setHeapUsed s₂.heap s₂.slotsUsed).setVm hW'.alike, X.tail, State.WarmedH.trans X.warmed hW', X.limits, X.bytes, X.same.trans (hsame.setVm s.vm)⟩,
      ⟨g, mk, s₂, L, rfl, rfl, hqc, rfl, hL, rfl, rfl⟩, ?_⟩
    show Steps p.tables e below _ ((({ U with heap := s₂.heap, slotsUsed := s₂.slotsUsed } : State).setVm s₂.vm).setTop { g with pc := g.pc + len₂, stack := v.toList ++ g.stack })
    rw [← hs₂]
    exact hsteps
  · obtain ⟨e2, q2, q3, q4, q5, q6⟩ := id hsm
    have e3 : s₂ = ({ (U.calling g mk a).setFrames s₂.frames with heap := s₂.heap, slotsUsed := s₂.slotsUsed } : State).setVm s₂.vm := by
      have : s₂ = ({ s₂ with vm := (U.calling g mk a).vm } : State).setVm s₂.vm := rfl
      rw [e2] at this
      exact this
    have hf₂ : s₂.frames = .throwing q :: .java g :: U.frames.tail := hend
    have hW' : U.WarmedH s₂.vm := hW₂
    have hs₂ : s₂ = ((({ U with heap := s₂.heap, slotsUsed := s₂.slotsUsed } : State).setVm s₂.vm).setTop g).pushFrame (.throwing q) := by
      refine e3.trans ?_
      rw [hf₂, State.calling_eq h.top, State.setFrames_setFrames, State.pushFrame, State.frames_setTop _ hr', State.setTop_of_frames _ hr', State.setFrames_setFrames, hr]
      rfl
    have hsame : U.sameButNew ({ U with heap := s₂.heap, slotsUsed := s₂.slotsUsed } : State) L mc ms := by
      refine ⟨?_, q2, q3, q4, q5, q6⟩
      obtain ⟨t, ht, -⟩ := State.frames_cons hr
      show ({ U with heap := s₂.heap, slotsUsed := s₂.slotsUsed } : State) = { U.setFrames U.frames with heap := s₂.heap, slotsUsed := s₂.slotsUsed }
      rw [State.setFrames_self ht]
    subst hg
    refine Or.inr ⟨q, ⟨(({ U with heap := s₂.heap, slotsUsed := s₂.slotsUsed } : State).setVm s₂.vm), Ls ++ L, c0 + mc, s0 + ms⟩,
      ⟨X.admits, X.cas, X.clock, X.frames, X.room, X.hears, X.method, X.code, (X.here.setHeapUsed s₂.heap s₂.slotsUsed).setVm hW'.alike, X.tail, State.WarmedH.trans X.warmed hW', X.limits, X.bytes, X.same.trans (hsame.setVm s.vm)⟩,
      ⟨g, mk, s₂, L, E, ce, rfl, rfl, hx, hce, hcv, hcl, rfl, hL, rfl, rfl⟩, ?_⟩
    show Steps p.tables e below _ (((({ U with heap := s₂.heap, slotsUsed := s₂.slotsUsed } : State).setVm s₂.vm).setTop g).pushFrame (.throwing q))
    rw [← hs₂]
    exact hsteps
end Payer
section Calls
variable {p : Program} {l : Launch} {e : Env} {R : Room} {s : State} {m : MethodId} {args : Array Value} {below : List Frame} {meth : Method} {c : Code} {T : State} {locs : List Loc} {cells slots : Nat}
theorem vx_callV (X : Stand p l e R s m args below meth c T locs cells slots) (hexec : p.tables.exec = Jvm.exec) {own C : String} {index : Nat} {y : MethodName} {bytes : ByteArray} {maxL : Nat} {ret : Option FieldType}
    (hown : s.vm.findClass own = some m.cls) (hlink : (Cond.methodLink own index y).before args s = true) (hinst : (Cond.instanceMethod y).before args s = true) (hsel : (Cond.selects C y y).before args s = true)
    (hcode : (Cond.code y bytes maxL ret).before args s = true) (hy : y.cls ≠ "java/lang/invoke/MethodHandle" ∧ y.cls ≠ "java/lang/invoke/VarHandle")
    {W9 : Nat} {Pre : Pt → Array Value → Prop} {Post : Pt → Array Value → Option Value → Pt → Prop} {PostX : Pt → Array Value → Addr → Pt → Prop} (hK : vx_Back l R p e below s args y 3 W9 Pre Post PostX)
    {b : Addr} {cellB : Cell} (hcell : T.heap[b]? = some cellB) (hobj : cellB.vm.isStatics = false) (hcls : s.vm.findClass C = some cellB.cls)
    {g : JFrame} (hg : g.method = m) (hsize : g.locals.size = c.maxLocals) {argsL rest : List Value} (hlen : ∀ sig, parseMethodDescriptor y.desc = some sig → argsL.length = sig.parameters.length)
    (hstack : g.stack = argsL.reverse ++ .ref b :: rest) (hW : 2 * g.monitorRoom + (rest.map fun v => v.category).sum ≤ W9) (hdg : decode c.code g.pc = .ok (.invokevirtual index, 3))
    (hpre : ∀ vm₁, s.WarmedH vm₁ → Pre ⟨T.setVm vm₁, locs, cells, slots⟩ (Value.ref b :: argsL).toArray) :
    (∃ (v : Option Value) (vm₁ : Vm) (B : Pt), s.WarmedH vm₁ ∧ Stand p l e R s m args below meth c B.U B.locs B.cells B.slots ∧ Post ⟨T.setVm vm₁, locs, cells, slots⟩ (Value.ref b :: argsL).toArray v B ∧
      ∀ target, Steps p.tables e below (B.U.setTop { g with pc := g.pc + 3, stack := v.toList ++ rest }) target → Steps p.tables e below (T.setTop g) target) ∨
    (∃ (q : Addr) (vm₁ : Vm) (B : Pt), s.WarmedH vm₁ ∧ Stand p l e R s m args below meth c B.U B.locs B.cells B.slots ∧ PostX ⟨T.setVm vm₁, locs, cells, slots⟩ (Value.ref b :: argsL).toArray q B ∧
      Steps p.tables e below (T.setTop g) ((B.U.setTop { g with stack := rest }).pushFrame (.throwing q))) := by
  obtain ⟨mk, methM, hnamed, hmethM, hstM, habM⟩ := Cond.instanceMethod_spec hinst
  obtain ⟨methM', cM, hmethM', -, -, -, -, -, -, hsigM⟩ := Cond.code_spec hnamed hcode
  cases hmethM.symm.trans hmethM'
  obtain ⟨c2, r2, m2, q1, q2, q3, q4, kP, hkP, hkPi⟩ := Cond.selects_spec hsel
  cases hcls.symm.trans q1
  cases (State.methodFound?_of_named hnamed hy).symm.trans q2
  cases hnamed.symm.trans q3
  have hselP : selectMethod e.platform s.vm cellB.cls mk = .method mk := by rw [Launch.admits_selectMethod X.admits]; exact q4
  obtain ⟨vm₁, X₁, hstep₁⟩ := X.invokevirtual hexec hown hlink hnamed hmethM hstM hkP hkPi hy (a := b) (cell := cellB) hcell
    (fun z h => by rw [h] at hobj; cases hobj) hselP hmethM habM hkP hkPi (g := g) hg (argsL := argsL) (rest := rest) (hlen _ hsigM) hstack hdg
  rcases hK m meth c ⟨T.setVm vm₁, locs, cells, slots⟩ { g with stack := rest } (.invokevirtual index) mk (Value.ref b :: argsL).toArray X₁ hg hsize hdg hW (X₁.named hnamed) (hpre vm₁ X₁.warmed) with ⟨v, B, X', hpost, hsteps⟩ | ⟨q, B, X', hpost, hsteps⟩
  · exact Or.inl ⟨v, vm₁, B, X₁.warmed, X', hpost, fun target h => hstep₁ _ fun acts => by rw [doInvoke_state]; exact hsteps.trans h⟩
  · exact Or.inr ⟨q, vm₁, B, X₁.warmed, X', hpost, hstep₁ _ fun acts => by rw [doInvoke_state]; exact hsteps⟩
theorem vx_callS (X : Stand p l e R s m args below meth c T locs cells slots) (hexec : p.tables.exec = Jvm.exec) {own : String} {index : Nat} {y : MethodName} {bytes : ByteArray} {maxL : Nat} {ret : Option FieldType}
    (hown : s.vm.findClass own = some m.cls) (hlink : (Cond.methodLink own index y).before args s = true) (hstat : (Cond.static y).before args s = true) (hinit : (Cond.initialized y.cls).before args s = true)
    (hcode : (Cond.code y bytes maxL ret).before args s = true) (hy : y.cls ≠ "java/lang/invoke/MethodHandle" ∧ y.cls ≠ "java/lang/invoke/VarHandle")
    {W9 : Nat} {Pre : Pt → Array Value → Prop} {Post : Pt → Array Value → Option Value → Pt → Prop} {PostX : Pt → Array Value → Addr → Pt → Prop} (hK : vx_Back l R p e below s args y 3 W9 Pre Post PostX)
    {g : JFrame} (hg : g.method = m) (hsize : g.locals.size = c.maxLocals) {argsL rest : List Value} (hlen : ∀ sig, parseMethodDescriptor y.desc = some sig → argsL.length = sig.parameters.length)
    (hstack : g.stack = argsL.reverse ++ rest) (hW : 2 * g.monitorRoom + (rest.map fun v => v.category).sum ≤ W9) (hdg : decode c.code g.pc = .ok (.invokestatic index, 3))
    (hpre : ∀ vm₁, s.WarmedH vm₁ → Pre ⟨T.setVm vm₁, locs, cells, slots⟩ argsL.toArray) :
    (∃ (v : Option Value) (vm₁ : Vm) (B : Pt), s.WarmedH vm₁ ∧ Stand p l e R s m args below meth c B.U B.locs B.cells B.slots ∧ Post ⟨T.setVm vm₁, locs, cells, slots⟩ argsL.toArray v B ∧
      ∀ target, Steps p.tables e below (B.U.setTop { g with pc := g.pc + 3, stack := v.toList ++ rest }) target → Steps p.tables e below (T.setTop g) target) ∨
    (∃ (q : Addr) (vm₁ : Vm) (B : Pt), s.WarmedH vm₁ ∧ Stand p l e R s m args below meth c B.U B.locs B.cells B.slots ∧ PostX ⟨T.setVm vm₁, locs, cells, slots⟩ argsL.toArray q B ∧
      Steps p.tables e below (T.setTop g) ((B.U.setTop { g with stack := rest }).pushFrame (.throwing q))) := by
  obtain ⟨mk, hnamed⟩ := Cond.code_named hcode
  obtain ⟨methM, cM, hmethM, -, -, -, -, -, -, hsigM⟩ := Cond.code_spec hnamed hcode
  have hstatic : methM.isStatic = true := Cond.static_spec hnamed hmethM hstat
  obtain ⟨kP, hkP, -⟩ := className_of_methodNamed hnamed
  have hinitP : kP.init = .initialized := Cond.initialized_spec (findClass_of_methodNamed hnamed) hkP hinit
  obtain ⟨vm₁, X₁, hstep₁⟩ := X.invokestatic hexec hown hlink hnamed hmethM hstatic hkP hinitP hy (g := g) hg (argsL := argsL) (rest := rest) (hlen _ hsigM) hstack hdg
  rcases hK m meth c ⟨T.setVm vm₁, locs, cells, slots⟩ { g with stack := rest } (.invokestatic index) mk argsL.toArray X₁ hg hsize hdg hW (X₁.named hnamed) (hpre vm₁ X₁.warmed) with ⟨v, B, X', hpost, hsteps⟩ | ⟨q, B, X', hpost, hsteps⟩
  · exact Or.inl ⟨v, vm₁, B, X₁.warmed, X', hpost, fun target h => hstep₁ _ fun acts => by rw [doInvoke_state]; exact hsteps.trans h⟩
  · exact Or.inr ⟨q, vm₁, B, X₁.warmed, X', hpost, hstep₁ _ fun acts => by rw [doInvoke_state]; exact hsteps⟩
end Calls
theorem vx_cls {s : State} {T : State} {vm₁ : Vm} {E : String} {k : ClassId} (hW : s.WarmedH vm₁) (h : (T.setVm vm₁).vm.findClass E = some k) : s.vm.findClass E = some k := by
  have h1 : vm₁.findClass E = some k := h
  rw [hW.alike.findClass] at h1
  exact h1
/-- the method's frame g, with q thrown over it -/
def vx_W (p : Program) (l : Launch) (e : Env) (R : Room) (s : State) (m : MethodId) (args : Array Value) (below : List Frame) (meth : Method) (c : Code) (H : Heap) (locs : List Loc) (cells slots : Nat) (Q : State → Prop) (g : JFrame) (q : Addr) : Prop :=
  ∀ T : State, T.heap = H → Stand p l e R s m args below meth c T locs cells slots → ∃ t, Steps p.tables e below ((T.setTop g).pushFrame (.throwing q)) t ∧ Q t
def vx_Run (p : Program) (l : Launch) (e : Env) (R : Room) (s : State) (m : MethodId) (args : Array Value) (below : List Frame) (meth : Method) (c : Code) (H : Heap) (locs : List Loc) (cells slots mc ms : Nat) (g : JFrame) (rest : List Value) (Qa : State → Outcome → State → Prop) (XC : String → State → State → Prop) (free : Addr → Prop) : Prop :=
  ∀ T : State, T.heap = H → Stand p l e R s m args below meth c T locs cells slots →
    (∃ (v : Option Value) (st₀ t T' : State) (L : List Loc), st₀.heap = H ∧ Stand p l e R s m args below meth c T' (locs ++ L) (cells + mc) (slots + ms) ∧ (∀ q ∈ L, free q.base) ∧ T'.heap = t.heap ∧ T'.vm = t.vm ∧ Qa st₀ (.returned v) t ∧
      Goes p e below T g T' { g with pc := g.pc + 3, stack := v.toList ++ rest }) ∨
    (∃ (q : Addr) (st₀ t T' : State) (L : List Loc) (E : String) (ce : Cell), st₀.heap = H ∧ Stand p l e R s m args below meth c T' (locs ++ L) (cells + mc) (slots + ms) ∧ (∀ z ∈ L, free z.base) ∧ T'.heap = t.heap ∧ T'.vm = t.vm ∧ XC E st₀ t ∧ t.heap[q]? = some ce ∧ ce.vm = .none ∧ s.vm.findClass E = some ce.cls ∧
      Steps p.tables e below (T.setTop g) ((T'.setTop { g with stack := rest }).pushFrame (.throwing q)))
def vx_X {S : Type} (px : S → Prop) (B : String → S → State → Prop) (A : Nat → Prop) : String → State → State → Prop := fun E st t => ∃ u : S, px u ∧ B E u t ∧ va_F A st t
section Runs
variable {p : Program} {l : Launch} {e : Env} {R : Room} {s : State} {m : MethodId} {args : Array Value} {below : List Frame} {meth : Method} {c : Code} {H : Heap} {locs : List Loc} {cells slots : Nat}
variable {y : MethodName} {bytes cc : ByteArray} {maxL nL mc ms n index : Nat} {ret : Option FieldType} {ws : List Cond} {rm : Room} {Pc : Array Value → State → Prop} {Qc : Array Value → State → Outcome → State → Prop} {XC : String → State → State → Prop} {free : Addr → Prop} {Ts : List Cond} {own C : String} {b : Addr} {As rest : List Value} {g : JFrame}
theorem vx_callBack (cb : CallB R s args own index y bytes maxL ret ws rm mc ms n) (hM : vx_Met l y ws rm Pc Qc XC mc ms free) (hbl : FrameBlind Pc) : vx_Back l R p e below s args y 3 8 (PreOf R mc ms Pc) (PostOf Qc mc ms free) (vx_Post XC mc ms free) := by
  obtain ⟨hrc, hrs, hfr, hlo, hws, hcw, -, hini, -⟩ := cb
  exact vx_back (bytes := bytes) (maxL := maxL) (ret := ret) hM hbl hrc hrs hfr hlo hws hcw (fun a' U hW => word_at hW (Or.inl (by first | rfl | simp [Cond.onTables, Cond.keeps, Cond.steady])) hini)
theorem vx_runV (S : CallFix p m c cc nL s args Ts own) (hM : vx_Met l y ws rm Pc Qc XC mc ms free) (cw : CallW R s args own C index y bytes maxL ret ws rm mc ms n) (hp : PreV s H C b Pc As)
    (hg : g.method = m) (hn : As.length = n) (hsize : g.locals.size = nL) (hstack : g.stack = As.reverse ++ .ref b :: rest) (hW : 2 * g.monitorRoom + (rest.map fun v => v.category).sum ≤ 8) (hdg : decode cc g.pc = .ok (.invokevirtual index, 3)) (hf : cells + mc ≤ R.cells ∧ slots + ms ≤ R.slots) :
    vx_Run p l e R s m args below meth c H locs cells slots mc ms g rest (Qc (Value.ref b :: As).toArray) XC free := by
  have hK : vx_Back l R p e below s args y 3 8 (PreOf R mc ms Pc) (PostOf Qc mc ms free) (vx_Post XC mc ms free) := vx_callBack cw.1 hM hp.1
  obtain ⟨⟨-, -, -, -, -, -, hcode, -, hy, hlen, hl⟩, hin, hse⟩ := cw
  obtain ⟨hx, hb, hml, ho, -⟩ := S
  obtain ⟨-, ⟨cellB, hcB, hoB, hclB⟩, hPc⟩ := hp
  intro T hT X
  rcases vx_callV X hx (C := C) (bytes := bytes) (maxL := maxL) (ret := ret) ho hl hin hse hcode hy hK (by rw [hT]; exact hcB) hoB hclB hg (hsize.trans hml.symm) (argsL := As) (rest := rest) (fun sig h => hn.trans (hlen sig h)) hstack hW (by rw [hb]; exact hdg)
    (fun vm₁ hW₁ => ⟨hf.1, hf.2, hPc (T.setVm vm₁) hT hW₁⟩) with ⟨v, vm₁, ⟨U', l2, c2, s2⟩, hW₁, X', ⟨g', mk, t, L, e1, e2, hq, h1, hL, h2, h3⟩, st⟩ | ⟨q, vm₁, ⟨U', l2, c2, s2⟩, hW₁, X', ⟨g', mk, t, L, E, ce, e1, e2, hq, hce, hcv, hcl, h1, hL, h2, h3⟩, st⟩
  · dsimp only [Pt.U, Pt.locs, Pt.cells, Pt.slots] at X' e1 e2 h1 h2 h3 st
    subst h1; subst h2; subst h3
    exact Or.inl ⟨v, (T.setVm vm₁).calling g' mk (Value.ref b :: As).toArray, t, U', L, hT, X', hL, e1, e2, hq, st⟩
  · dsimp only [Pt.U, Pt.locs, Pt.cells, Pt.slots] at X' e1 e2 h1 h2 h3 st hcl
    subst h1; subst h2; subst h3
    exact Or.inr ⟨q, (T.setVm vm₁).calling g' mk (Value.ref b :: As).toArray, t, U', L, E, ce, hT, X', hL, e1, e2, hq, hce, hcv, vx_cls hW₁ hcl, st⟩
theorem vx_runS (S : CallFix p m c cc nL s args Ts own) (hM : vx_Met l y ws rm Pc Qc XC mc ms free) (cw : CallB R s args own index y bytes maxL ret ws rm mc ms n ∧ (Cond.static y).before args s = true) (hp : PreS s H Pc As)
    (hg : g.method = m) (hn : As.length = n) (hsize : g.locals.size = nL) (hstack : g.stack = As.reverse ++ rest) (hW : 2 * g.monitorRoom + (rest.map fun v => v.category).sum ≤ 8) (hdg : decode cc g.pc = .ok (.invokestatic index, 3)) (hf : cells + mc ≤ R.cells ∧ slots + ms ≤ R.slots) :
    vx_Run p l e R s m args below meth c H locs cells slots mc ms g rest (Qc As.toArray) XC free := by
  have hK : vx_Back l R p e below s args y 3 8 (PreOf R mc ms Pc) (PostOf Qc mc ms free) (vx_Post XC mc ms free) := vx_callBack cw.1 hM hp.1
  obtain ⟨⟨-, -, -, -, -, -, hcode, hini, hy, hlen, hl⟩, hstt⟩ := cw
  obtain ⟨hx, hb, hml, ho, -⟩ := S
  intro T hT X
  rcases vx_callS X hx (bytes := bytes) (maxL := maxL) (ret := ret) ho hl hstt hini hcode hy hK hg (hsize.trans hml.symm) (argsL := As) (rest := rest) (fun sig h => hn.trans (hlen sig h)) hstack hW (by rw [hb]; exact hdg)
    (fun vm₁ hW₁ => ⟨hf.1, hf.2, hp.2 (T.setVm vm₁) hT hW₁⟩) with ⟨v, vm₁, ⟨U', l2, c2, s2⟩, hW₁, X', ⟨g', mk, t, L, e1, e2, hq, h1, hL, h2, h3⟩, st⟩ | ⟨q, vm₁, ⟨U', l2, c2, s2⟩, hW₁, X', ⟨g', mk, t, L, E, ce, e1, e2, hq, hce, hcv, hcl, h1, hL, h2, h3⟩, st⟩
  · dsimp only [Pt.U, Pt.locs, Pt.cells, Pt.slots] at X' e1 e2 h1 h2 h3 st
    subst h1; subst h2; subst h3
    exact Or.inl ⟨v, (T.setVm vm₁).calling g' mk As.toArray, t, U', L, hT, X', hL, e1, e2, hq, st⟩
  · dsimp only [Pt.U, Pt.locs, Pt.cells, Pt.slots] at X' e1 e2 h1 h2 h3 st hcl
    subst h1; subst h2; subst h3
    exact Or.inr ⟨q, (T.setVm vm₁).calling g' mk As.toArray, t, U', L, E, ce, hT, X', hL, e1, e2, hq, hce, hcv, vx_cls hW₁ hcl, st⟩
end Runs
section Rows
variable {p : Program} {l : Launch} {e : Env} {R : Room} {s : State} {m : MethodId} {args : Array Value} {below : List Frame} {meth : Method} {c : Code} {H : Heap} {locs : List Loc} {cells slots : Nat} {Q : State → Prop}
variable {mc ms : Nat} {free : Addr → Prop} {A0 A1 : Nat → Prop} {H0 : Heap} {a : Array Value} {pc : Nat} {ls : Array Slot} {st0 rest : List Value}
theorem vx_keep {st₀ t T' : State} {L : List Loc} (h0 : st₀.heap = H) (e1 : T'.heap = t.heap) (hS : va_S A0 H0 H locs) (hA : ∀ q, q < H.size → A1 q → A0 q) (hf : ∀ q, free q → A0 q) (hL : ∀ q ∈ L, free q.base) (hF : va_F A1 st₀ t) :
    H.size ≤ T'.heap.size ∧ (∀ q : Nat, q < H.size → ¬ A1 q → T'.heap[q]? = H[q]?) ∧ va_S A0 H0 T'.heap (locs ++ L) := by
  obtain ⟨hz, hk⟩ := hF
  rw [h0] at hz hk
  exact ⟨by rw [e1]; exact hz, fun q h1 h2 => by rw [e1]; exact hk q h1 h2,
    ⟨Nat.le_trans hS.1 (by rw [e1]; exact hz), fun q h1 h2 => by rw [e1, hk q (Nat.lt_of_lt_of_le h1 hS.1) (fun z => h2 (hA q (Nat.lt_of_lt_of_le h1 hS.1) z))]; exact hS.2.1 q h1 h2, fun q hq => by
      rcases List.mem_append.mp hq with h | h
      · exact hS.2.2 q h
      · exact hf _ (hL q h)⟩⟩
theorem vx_calli {S SX : Type} {post : Int32 → S → Prop} {px : SX → Prop} {B : S → State → Prop} {BX : String → SX → State → Prop} {AX : Nat → Prop} (hr : vx_Run p l e R s m args below meth c H locs cells slots mc ms (F0 m pc ls st0) rest (va_Qi post B A1 a) (vx_X px BX AX) free) (hS : va_S A0 H0 H locs) (hA : ∀ q, q < H.size → A1 q → A0 q) (hf : ∀ q, free q → A0 q) (hAX : ∀ q, q < H.size → AX q → A0 q)
    (kx : ∀ (E : String) (ce : Cell) (q9 : Addr) (u : SX) (t : State) (H1 : Heap) (locs1 : List Loc), t.heap = H1 → s.vm.Alike t.vm → px u → BX E u t → H.size ≤ H1.size → (∀ q : Nat, q < H.size → ¬ AX q → H1[q]? = H[q]?) → va_S A0 H0 H1 locs1 → H1[q9]? = some ce → ce.vm = .none → s.vm.findClass E = some ce.cls → vx_W p l e R s m args below meth c H1 locs1 (cells + mc) (slots + ms) Q (F0 m pc ls rest) q9)
    (kk : ∀ (r : Int32) (u : S) (t : State) (H1 : Heap) (locs1 : List Loc), t.heap = H1 → s.vm.Alike t.vm → post r u → B u t → H.size ≤ H1.size → (∀ q : Nat, q < H.size → ¬ A1 q → H1[q]? = H[q]?) → va_S A0 H0 H1 locs1 → W p l e R s m args below meth c H1 locs1 (cells + mc) (slots + ms) Q (F0 m (pc + 3) ls (.int r :: rest))) : W p l e R s m args below meth c H locs cells slots Q (F0 m pc ls st0) := by
  intro T hT X
  rcases hr T hT X with ⟨v, st₀, t, T', L, h0, X', hL, e1, e2, ⟨⟨r, u, hv, hp, hb⟩, hF⟩, st⟩ | ⟨q, st₀, t, T', L, E, ce, h0, X', hL, e1, e2, ⟨u, hp, hb, hF⟩, hce, hcv, hcl, st⟩
  · cases hv
    obtain ⟨k1, k2, k3⟩ := vx_keep h0 e1 hS hA hf hL hF
    obtain ⟨t2, a1, b1⟩ := kk r u t T'.heap (locs ++ L) e1.symm (by rw [← e2]; exact X'.warmed.alike) hp hb k1 k2 k3 T' rfl X'
    exact ⟨t2, st t2 a1, b1⟩
  · obtain ⟨k1, k2, k3⟩ := vx_keep h0 e1 hS hAX hf hL hF
    obtain ⟨t2, a1, b1⟩ := kx E ce q u t T'.heap (locs ++ L) e1.symm (by rw [← e2]; exact X'.warmed.alike) hp hb k1 k2 k3 (by rw [e1]; exact hce) hcv hcl T' rfl X'
    exact ⟨t2, st.trans a1, b1⟩
theorem vx_calll {S SX : Type} {post : Int64 → S → Prop} {px : SX → Prop} {B : S → State → Prop} {BX : String → SX → State → Prop} {AX : Nat → Prop} (hr : vx_Run p l e R s m args below meth c H locs cells slots mc ms (F0 m pc ls st0) rest (va_Ql post B A1 a) (vx_X px BX AX) free) (hS : va_S A0 H0 H locs) (hA : ∀ q, q < H.size → A1 q → A0 q) (hf : ∀ q, free q → A0 q) (hAX : ∀ q, q < H.size → AX q → A0 q)
    (kx : ∀ (E : String) (ce : Cell) (q9 : Addr) (u : SX) (t : State) (H1 : Heap) (locs1 : List Loc), t.heap = H1 → s.vm.Alike t.vm → px u → BX E u t → H.size ≤ H1.size → (∀ q : Nat, q < H.size → ¬ AX q → H1[q]? = H[q]?) → va_S A0 H0 H1 locs1 → H1[q9]? = some ce → ce.vm = .none → s.vm.findClass E = some ce.cls → vx_W p l e R s m args below meth c H1 locs1 (cells + mc) (slots + ms) Q (F0 m pc ls rest) q9)
    (kk : ∀ (r : Int64) (u : S) (t : State) (H1 : Heap) (locs1 : List Loc), t.heap = H1 → s.vm.Alike t.vm → post r u → B u t → H.size ≤ H1.size → (∀ q : Nat, q < H.size → ¬ A1 q → H1[q]? = H[q]?) → va_S A0 H0 H1 locs1 → W p l e R s m args below meth c H1 locs1 (cells + mc) (slots + ms) Q (F0 m (pc + 3) ls (.long r :: rest))) : W p l e R s m args below meth c H locs cells slots Q (F0 m pc ls st0) := by
  intro T hT X
  rcases hr T hT X with ⟨v, st₀, t, T', L, h0, X', hL, e1, e2, ⟨⟨r, u, hv, hp, hb⟩, hF⟩, st⟩ | ⟨q, st₀, t, T', L, E, ce, h0, X', hL, e1, e2, ⟨u, hp, hb, hF⟩, hce, hcv, hcl, st⟩
  · cases hv
    obtain ⟨k1, k2, k3⟩ := vx_keep h0 e1 hS hA hf hL hF
    obtain ⟨t2, a1, b1⟩ := kk r u t T'.heap (locs ++ L) e1.symm (by rw [← e2]; exact X'.warmed.alike) hp hb k1 k2 k3 T' rfl X'
    exact ⟨t2, st t2 a1, b1⟩
  · obtain ⟨k1, k2, k3⟩ := vx_keep h0 e1 hS hAX hf hL hF
    obtain ⟨t2, a1, b1⟩ := kx E ce q u t T'.heap (locs ++ L) e1.symm (by rw [← e2]; exact X'.warmed.alike) hp hb k1 k2 k3 (by rw [e1]; exact hce) hcv hcl T' rfl X'
    exact ⟨t2, st.trans a1, b1⟩
theorem vx_callf {S SX : Type} {post : UInt32 → S → Prop} {px : SX → Prop} {B : S → State → Prop} {BX : String → SX → State → Prop} {AX : Nat → Prop} (hr : vx_Run p l e R s m args below meth c H locs cells slots mc ms (F0 m pc ls st0) rest (va_Qf post B A1 a) (vx_X px BX AX) free) (hS : va_S A0 H0 H locs) (hA : ∀ q, q < H.size → A1 q → A0 q) (hf : ∀ q, free q → A0 q) (hAX : ∀ q, q < H.size → AX q → A0 q)
    (kx : ∀ (E : String) (ce : Cell) (q9 : Addr) (u : SX) (t : State) (H1 : Heap) (locs1 : List Loc), t.heap = H1 → s.vm.Alike t.vm → px u → BX E u t → H.size ≤ H1.size → (∀ q : Nat, q < H.size → ¬ AX q → H1[q]? = H[q]?) → va_S A0 H0 H1 locs1 → H1[q9]? = some ce → ce.vm = .none → s.vm.findClass E = some ce.cls → vx_W p l e R s m args below meth c H1 locs1 (cells + mc) (slots + ms) Q (F0 m pc ls rest) q9)
    (kk : ∀ (r : UInt32) (u : S) (t : State) (H1 : Heap) (locs1 : List Loc), t.heap = H1 → s.vm.Alike t.vm → post r u → B u t → H.size ≤ H1.size → (∀ q : Nat, q < H.size → ¬ A1 q → H1[q]? = H[q]?) → va_S A0 H0 H1 locs1 → W p l e R s m args below meth c H1 locs1 (cells + mc) (slots + ms) Q (F0 m (pc + 3) ls (.float r :: rest))) : W p l e R s m args below meth c H locs cells slots Q (F0 m pc ls st0) := by
  intro T hT X
  rcases hr T hT X with ⟨v, st₀, t, T', L, h0, X', hL, e1, e2, ⟨⟨r, u, hv, hp, hb⟩, hF⟩, st⟩ | ⟨q, st₀, t, T', L, E, ce, h0, X', hL, e1, e2, ⟨u, hp, hb, hF⟩, hce, hcv, hcl, st⟩
  · cases hv
    obtain ⟨k1, k2, k3⟩ := vx_keep h0 e1 hS hA hf hL hF
    obtain ⟨t2, a1, b1⟩ := kk r u t T'.heap (locs ++ L) e1.symm (by rw [← e2]; exact X'.warmed.alike) hp hb k1 k2 k3 T' rfl X'
    exact ⟨t2, st t2 a1, b1⟩
  · obtain ⟨k1, k2, k3⟩ := vx_keep h0 e1 hS hAX hf hL hF
    obtain ⟨t2, a1, b1⟩ := kx E ce q u t T'.heap (locs ++ L) e1.symm (by rw [← e2]; exact X'.warmed.alike) hp hb k1 k2 k3 (by rw [e1]; exact hce) hcv hcl T' rfl X'
    exact ⟨t2, st.trans a1, b1⟩
theorem vx_calld {S SX : Type} {post : UInt64 → S → Prop} {px : SX → Prop} {B : S → State → Prop} {BX : String → SX → State → Prop} {AX : Nat → Prop} (hr : vx_Run p l e R s m args below meth c H locs cells slots mc ms (F0 m pc ls st0) rest (va_Qd post B A1 a) (vx_X px BX AX) free) (hS : va_S A0 H0 H locs) (hA : ∀ q, q < H.size → A1 q → A0 q) (hf : ∀ q, free q → A0 q) (hAX : ∀ q, q < H.size → AX q → A0 q)
    (kx : ∀ (E : String) (ce : Cell) (q9 : Addr) (u : SX) (t : State) (H1 : Heap) (locs1 : List Loc), t.heap = H1 → s.vm.Alike t.vm → px u → BX E u t → H.size ≤ H1.size → (∀ q : Nat, q < H.size → ¬ AX q → H1[q]? = H[q]?) → va_S A0 H0 H1 locs1 → H1[q9]? = some ce → ce.vm = .none → s.vm.findClass E = some ce.cls → vx_W p l e R s m args below meth c H1 locs1 (cells + mc) (slots + ms) Q (F0 m pc ls rest) q9)
    (kk : ∀ (r : UInt64) (u : S) (t : State) (H1 : Heap) (locs1 : List Loc), t.heap = H1 → s.vm.Alike t.vm → post r u → B u t → H.size ≤ H1.size → (∀ q : Nat, q < H.size → ¬ A1 q → H1[q]? = H[q]?) → va_S A0 H0 H1 locs1 → W p l e R s m args below meth c H1 locs1 (cells + mc) (slots + ms) Q (F0 m (pc + 3) ls (.double r :: rest))) : W p l e R s m args below meth c H locs cells slots Q (F0 m pc ls st0) := by
  intro T hT X
  rcases hr T hT X with ⟨v, st₀, t, T', L, h0, X', hL, e1, e2, ⟨⟨r, u, hv, hp, hb⟩, hF⟩, st⟩ | ⟨q, st₀, t, T', L, E, ce, h0, X', hL, e1, e2, ⟨u, hp, hb, hF⟩, hce, hcv, hcl, st⟩
  · cases hv
    obtain ⟨k1, k2, k3⟩ := vx_keep h0 e1 hS hA hf hL hF
    obtain ⟨t2, a1, b1⟩ := kk r u t T'.heap (locs ++ L) e1.symm (by rw [← e2]; exact X'.warmed.alike) hp hb k1 k2 k3 T' rfl X'
    exact ⟨t2, st t2 a1, b1⟩
  · obtain ⟨k1, k2, k3⟩ := vx_keep h0 e1 hS hAX hf hL hF
    obtain ⟨t2, a1, b1⟩ := kx E ce q u t T'.heap (locs ++ L) e1.symm (by rw [← e2]; exact X'.warmed.alike) hp hb k1 k2 k3 (by rw [e1]; exact hce) hcv hcl T' rfl X'
    exact ⟨t2, st.trans a1, b1⟩
theorem vx_callv {S SX : Type} {post : S → Prop} {px : SX → Prop} {B : S → State → Prop} {BX : String → SX → State → Prop} {AX : Nat → Prop} (hr : vx_Run p l e R s m args below meth c H locs cells slots mc ms (F0 m pc ls st0) rest (va_Qv post B A1 a) (vx_X px BX AX) free) (hS : va_S A0 H0 H locs) (hA : ∀ q, q < H.size → A1 q → A0 q) (hf : ∀ q, free q → A0 q) (hAX : ∀ q, q < H.size → AX q → A0 q)
    (kx : ∀ (E : String) (ce : Cell) (q9 : Addr) (u : SX) (t : State) (H1 : Heap) (locs1 : List Loc), t.heap = H1 → s.vm.Alike t.vm → px u → BX E u t → H.size ≤ H1.size → (∀ q : Nat, q < H.size → ¬ AX q → H1[q]? = H[q]?) → va_S A0 H0 H1 locs1 → H1[q9]? = some ce → ce.vm = .none → s.vm.findClass E = some ce.cls → vx_W p l e R s m args below meth c H1 locs1 (cells + mc) (slots + ms) Q (F0 m pc ls rest) q9)
    (kk : ∀ (u : S) (t : State) (H1 : Heap) (locs1 : List Loc), t.heap = H1 → s.vm.Alike t.vm → post u → B u t → H.size ≤ H1.size → (∀ q : Nat, q < H.size → ¬ A1 q → H1[q]? = H[q]?) → va_S A0 H0 H1 locs1 → W p l e R s m args below meth c H1 locs1 (cells + mc) (slots + ms) Q (F0 m (pc + 3) ls (rest))) : W p l e R s m args below meth c H locs cells slots Q (F0 m pc ls st0) := by
  intro T hT X
  rcases hr T hT X with ⟨v, st₀, t, T', L, h0, X', hL, e1, e2, ⟨⟨u, hv, hp, hb⟩, hF⟩, st⟩ | ⟨q, st₀, t, T', L, E, ce, h0, X', hL, e1, e2, ⟨u, hp, hb, hF⟩, hce, hcv, hcl, st⟩
  · cases hv
    obtain ⟨k1, k2, k3⟩ := vx_keep h0 e1 hS hA hf hL hF
    obtain ⟨t2, a1, b1⟩ := kk u t T'.heap (locs ++ L) e1.symm (by rw [← e2]; exact X'.warmed.alike) hp hb k1 k2 k3 T' rfl X'
    exact ⟨t2, st t2 a1, b1⟩
  · obtain ⟨k1, k2, k3⟩ := vx_keep h0 e1 hS hAX hf hL hF
    obtain ⟨t2, a1, b1⟩ := kx E ce q u t T'.heap (locs ++ L) e1.symm (by rw [← e2]; exact X'.warmed.alike) hp hb k1 k2 k3 (by rw [e1]; exact hce) hcv hcl T' rfl X'
    exact ⟨t2, st.trans a1, b1⟩
/-- caught by the row x of this method's table; the rows ahead don't take it -/
theorem vx_catch {own name : String} {E : String} {ce : Cell} {q : Addr} (hown : s.vm.findClass own = some m.cls) (pre : List ExceptionTableEntry) (x : ExceptionTableEntry) (suf : List ExceptionTableEntry) (hsplit : c.exceptionTable.toList = pre ++ x :: suf)
    (hpass : ∀ z ∈ pre, covers z pc = false ∨ (z.catchType ≠ 0 ∧ ∃ nm : String, (Cond.classLink own z.catchType nm).before args s = true ∧ va_Nc E nm s)) (hx : covers x pc = true) (h0 : x.catchType ≠ 0)
    (hlink : (Cond.classLink own x.catchType name).before args s = true) (hcast : (Cond.castable E name).before args s = true) (hcell : H[q]? = some ce) (hv : ce.vm = .none) (hcl : s.vm.findClass E = some ce.cls)
    (kk : W p l e R s m args below meth c H locs cells slots Q (F0 m x.handlerPc ls [.ref q])) : vx_W p l e R s m args below meth c H locs cells slots Q (F0 m pc ls rest) q := by
  intro T hT X
  have hpl : e.platform.magicAccessors = ({} : Platform).magicAccessors := by rw [X.admits.platform]
  obtain ⟨c3, c4, hc3, hc4, hasg⟩ := Cond.castable_spec hcast
  cases Option.some.inj (hc3.symm.trans hcl)
  obtain ⟨c5, hc5, hcl5⟩ := Cond.classLink_spec hown hlink e.platform hpl
  cases Option.some.inj (hc4.symm.trans hc5)
  obtain ⟨vm', X', st⟩ := X.thenCaughtThrough q (g := F0 m pc ls rest) rfl (Steps.refl _) (by rw [hT]; exact hcell) (by rw [hv]; rfl) (by obtain ⟨k9, h9, -⟩ := Vm.findClass_spec hcl; exact ⟨k9, h9⟩) pre x suf hsplit
    (fun z hz => by
      rcases hpass z hz with h | ⟨hz0, nm, hl1, hn1⟩
      · exact Or.inl h
      · obtain ⟨c6, hc6, hcl6⟩ := Cond.classLink_spec hown hl1 e.platform hpl
        obtain ⟨a8, b8, h1, h2, h3⟩ := hn1
        cases Option.some.inj (h1.symm.trans hcl)
        cases Option.some.inj (h2.symm.trans hc6)
        exact Or.inr ⟨hz0, _, hcl6, h3⟩) hx (Or.inr ⟨h0, c4, hcl5, hasg⟩)
  obtain ⟨t, a1, b1⟩ := kk (T.setVm vm') hT X'
  exact ⟨t, st.trans a1, b1⟩
end Rows
section Ends
variable {p : Program} {l : Launch} {e : Env} {R : Room} {s : State} {m : MethodId} {args : Array Value} {below : List Frame} {meth : Method} {c : Code} {H : Heap} {locs : List Loc} {cells slots : Nat} {Q : State → Prop}
variable {mc ms : Nat} {free : Addr → Prop} {A0 A1 : Nat → Prop} {H0 : Heap} {a : Array Value} {ls : Array Slot} {st0 rest : List Value}
variable {Qc : Array Value → State → Outcome → State → Prop} {XC : String → State → State → Prop}
/-- what a body that may throw owes at its end -/
def vx_MQ (below : List Frame) (Qc : Array Value → State → Outcome → State → Prop) (XC : String → State → State → Prop) (a : Array Value) (s : State) (mc ms : Nat) (free : Addr → Prop) : State → Prop := fun t =>
  ∃ o, t.status = .running ∧ Ended t below o ∧ vx_Q Qc XC mc ms free a s o t
theorem vx_ret {g : JFrame} {mc ms : Nat} (k : W p l e R s m args below meth c H locs cells slots (MQ below Qc args s mc ms free) g) : W p l e R s m args below meth c H locs cells slots (vx_MQ below Qc XC args s mc ms free) g := by
  intro T hT X
  obtain ⟨t, a1, o, b1, b2, b3, b4⟩ := k T hT X
  exact ⟨t, a1, o, b1, b2, Or.inl ⟨b3, b4⟩⟩
/-- not caught here: it goes on to the caller -/
theorem vx_widen {g : JFrame} {q : Addr} {k n : Nat} (h1 : cells ≤ k) (h2 : slots ≤ n) (kk : vx_W p l e R s m args below meth c H locs k n Q g q) : vx_W p l e R s m args below meth c H locs cells slots Q g q := fun T hT X => kk T hT (stand_widen X h1 h2)
theorem vx_out {pc : Nat} {E : String} {ce : Cell} {q : Addr} {mc ms : Nat} (hout : ∀ x ∈ c.exceptionTable.toList, covers x pc = false) (hlocks : meth.locks = false) (hcell : H[q]? = some ce) (hv : ce.vm = .none) (hcl : s.vm.findClass E = some ce.cls)
    (hx : ∀ t : State, t.heap = H → s.vm.Alike t.vm → XC E s t) (hf : ∀ z ∈ locs, free z.base) (hc : cells ≤ mc) (hs : slots ≤ ms) :
    vx_W p l e R s m args below meth c H locs cells slots (vx_MQ below Qc XC args s mc ms free) (F0 m pc ls rest) q := by
  intro T hT X
  obtain ⟨st1, hrun, hend, hW, hsm⟩ := X.leaveThrown q (g := F0 m pc ls rest) rfl rfl rfl hout hlocks
  have hcell9 : (T.setFrames (.throwing q :: below)).heap[q]? = some ce := by
    show T.heap[q]? = some ce
    rw [hT]; exact hcell
  exact ⟨_, st1, .threw q, hrun, hend, Or.inr ⟨q, rfl, E, ce, locs, hx _ hT hW.alike, hcell9, hv, hcl, hW, hsm.mono hc hs, hf⟩⟩
theorem vx_frame {U : State} {k n : Nat} (h : s.sameButNew ({ U with vm := s.vm } : State) locs k n) : s.heap.size ≤ U.heap.size ∧ ∀ q : Nat, q < s.heap.size → (∀ z ∈ locs, z.base ≠ q) → U.heap[q]? = s.heap[q]? := by
  obtain ⟨-, h2, -, -, -, h6⟩ := h
  refine ⟨h2, fun q hq hz => ?_⟩
  obtain ⟨c9, e1, e2, e3, e4⟩ := h6 q _ (Array.getElem?_eq_getElem hq)
  have hs : c9.slots = (s.heap[q]).slots := Array.ext_getElem? fun i => e4 i fun hm => hz _ hm rfl
  have h9 : c9 = s.heap[q] := by
    rw [hs] at e2
    exact e2
  have e5 : U.heap[q]? = some c9 := e1
  rw [e5, h9, Array.getElem?_eq_getElem hq]
/-- the words of a throw but the four that speak of the heap -/
def vx_no (w : Cond) : Bool := decide (w ≠ .isRef (.static Bundle.tN "UNASSIGNED_STACK" Bundle.steD)) && decide (w ≠ .isRef (.static Bundle.tN "SUPPRESSED_SENTINEL" Bundle.listD)) && decide (w ≠ .laysStatic Bundle.tN "UNASSIGNED_STACK" Bundle.steD) && decide (w ≠ .laysStatic Bundle.tN "SUPPRESSED_SENTINEL" Bundle.listD)
def vx_at0 (own : String) (ic : Nat) (X : String) (names : List String) : List Cond := (Bundle.ownAtoms0 own ic X names).filter vx_no
def vx_atS (own : String) (ic : Nat) (X : String) (names : List String) : List Cond := (Bundle.ownAtoms own ic X names).filter vx_no
/-- a word that the tables alone decide, or a good one -/
def vx_ot (w : Cond) : Bool := w.onTables || goodWord w
theorem vx_ot_at {args a' : Array Value} {s U : State} {w : Cond} (hW : s.WarmedH U.vm) (hvm : s.vm = U.vm) (hg : vx_ot w = true) (h : w.before args s = true) : w.before a' U = true := by
  simp only [vx_ot, Bool.or_eq_true] at hg
  rcases hg with hg | hg
  · exact va_tabs hg hvm h
  · exact word_at hW (good_of_word hg) h
/-- a list's words: the good ones out of the method's own list, the others by premises of their own -/
theorem vx_hat {args : Array Value} {s : State} {L B : List Cond} (h1 : ∀ w ∈ L.filter goodWord, w.before args s = true) (h2 : ∀ w ∈ L.filter (fun w => !goodWord w), w ∈ B) (h3 : ∀ w ∈ B, w.before args s = true) : ∀ w ∈ L, w.before args s = true := by
  intro w hw
  by_cases g : goodWord w = true
  · exact h1 w (List.mem_filter.mpr ⟨hw, g⟩)
  · refine h3 w (h2 w (List.mem_filter.mpr ⟨hw, ?_⟩))
    show (!goodWord w) = true
    cases hgw : goodWord w
    · rfl
    · exact absurd hgw g
theorem vx_c {args : Array Value} {s : State} {w : Cond} {B : List Cond} (h : w.before args s = true) (t : ∀ w ∈ B, w.before args s = true) : ∀ w' ∈ w :: B, w'.before args s = true := fun w' h' => (List.mem_cons.mp h').elim (fun e => by rw [e]; exact h) (t w')
theorem vx_n {args : Array Value} {s : State} : ∀ w ∈ ([] : List Cond), w.before args s = true := fun _ h => nomatch h
theorem vx_own {args : Array Value} {s : State} {L : List Cond} (h1 : ∀ w ∈ L.filter vx_no, w.before args s = true)
    (hU : (Cond.isRef (.static Bundle.tN "UNASSIGNED_STACK" Bundle.steD)).before args s = true) (hN : (Cond.isRef (.static Bundle.tN "SUPPRESSED_SENTINEL" Bundle.listD)).before args s = true)
    (lU : (Cond.laysStatic Bundle.tN "UNASSIGNED_STACK" Bundle.steD).before args s = true) (lN : (Cond.laysStatic Bundle.tN "SUPPRESSED_SENTINEL" Bundle.listD).before args s = true) : ∀ w ∈ L, w.before args s = true := by
  intro w hw
  by_cases e1 : w = .isRef (.static Bundle.tN "UNASSIGNED_STACK" Bundle.steD)
  · rw [e1]; exact hU
  · by_cases e2 : w = .isRef (.static Bundle.tN "SUPPRESSED_SENTINEL" Bundle.listD)
    · rw [e2]; exact hN
    · by_cases e3 : w = .laysStatic Bundle.tN "UNASSIGNED_STACK" Bundle.steD
      · rw [e3]; exact lU
      · by_cases e4 : w = .laysStatic Bundle.tN "SUPPRESSED_SENTINEL" Bundle.listD
        · rw [e4]; exact lN
        · exact h1 w (List.mem_filter.mpr ⟨hw, by unfold vx_no; rw [decide_eq_true e1, decide_eq_true e2, decide_eq_true e3, decide_eq_true e4]; rfl⟩)
/-- where a static field lies, its class's statics cell in H -/
def vx_L (C n d : String) (A : Nat → Prop) (U : State) (H : Heap) : Prop := ∃ (c : ClassId) (k : Class) (i : Nat) (f : Field) (a : Nat) (cell : Cell), U.vm.findClass C = some c ∧ U.fieldFound? C n d = some (c, k, i, f) ∧ f.isStatic = true ∧ k.statics = some a ∧ H[a]? = some cell ∧ cell.vm.isStatics = true ∧ cell.cls = c ∧ f.slot < cell.slots.size ∧ k.staticTypes[f.slot]? = some f.type ∧ ¬ A a
theorem vx_L.moved {C n d : String} {A : Nat → Prop} {u U : State} {H : Heap} (hvm : u.vm.Alike U.vm) (h : vx_L C n d A u H) : vx_L C n d A U H := by
  obtain ⟨c, k, i, f, a, cell, h1, h2, h3, h4, h5, h6, h7, h8, h9, h10⟩ := h
  obtain ⟨k', hi', he⟩ := State.fieldFound?_setVm hvm h2
  exact ⟨c, k', i, f, a, cell, by rw [hvm.findClass]; exact h1, hi', h3, by rw [he]; exact h4, h5, h6, h7, h8, by rw [he]; exact h9, h10⟩
theorem vx_L.kept {C n d : String} {A : Nat → Prop} {U : State} {H H1 : Heap} (h : vx_L C n d A U H) (hq : ∀ a : Nat, a < H.size → ¬ A a → H1[a]? = H[a]?) : vx_L C n d A U H1 := by
  obtain ⟨c, k, i, f, a, cell, h1, h2, h3, h4, h5, h6, h7, h8, h9, h10⟩ := h
  exact ⟨c, k, i, f, a, cell, h1, h2, h3, h4, by rw [hq a (Array.getElem?_eq_some_iff.mp h5).1 h10]; exact h5, h6, h7, h8, h9, h10⟩
theorem vx_L.narrow {C n d : String} {A B : Nat → Prop} {U : State} {H : Heap} (h : vx_L C n d A U H) (hAB : ∀ q, B q → A q) : vx_L C n d B U H := by
  obtain ⟨c, k, i, f, a, cell, h1, h2, h3, h4, h5, h6, h7, h8, h9, h10⟩ := h
  exact ⟨c, k, i, f, a, cell, h1, h2, h3, h4, h5, h6, h7, h8, h9, fun z => h10 (hAB _ z)⟩
theorem vx_L.word {C n d : String} {A : Nat → Prop} {s : State} {args : Array Value} (h : vx_L C n d A s s.heap) : (Cond.laysStatic C n d).before args s = true := by
  obtain ⟨c, k, i, f, a, cell, h1, h2, h3, h4, h5, h6, h7, h8, h9, -⟩ := h
  show (Cond.laysStatic C n d).holds args s none s [] = true
  exact Cond.laysStatic_of h1 h2 h3 h4 h5 h6 h7 h8 h9
/-- .. and what it holds: null or some reference -/
def vx_Zq (C n d : String) (A : Nat → Prop) (U : State) (H : Heap) : Prop := va_Zq C n d A U H ∧ vx_L C n d A U H
theorem vx_Zq.moved {C n d : String} {A : Nat → Prop} {u U : State} {H : Heap} (hvm : u.vm.Alike U.vm) (h : vx_Zq C n d A u H) : vx_Zq C n d A U H := ⟨va_Zq.moved hvm h.1, vx_L.moved hvm h.2⟩
theorem vx_Zq.kept {C n d : String} {A : Nat → Prop} {U : State} {H H1 : Heap} (h : vx_Zq C n d A U H) (hq : ∀ a : Nat, a < H.size → ¬ A a → H1[a]? = H[a]?) : vx_Zq C n d A U H1 := ⟨va_Zq.kept h.1 hq, vx_L.kept h.2 hq⟩
theorem vx_Zq.narrow {C n d : String} {A B : Nat → Prop} {U : State} {H : Heap} (h : vx_Zq C n d A U H) (hAB : ∀ q, B q → A q) : vx_Zq C n d B U H := ⟨va_Zq.narrow h.1 hAB, vx_L.narrow h.2 hAB⟩
theorem vx_Zqof {args : Array Value} {s : State} {C n d : String} {A : Nat → Prop} (hl : (Cond.laysStatic C n d).before args s = true) (hini : (Cond.initialized C).before args s = true) (h : (Cond.isRef (.static C n d)).before args s = true) (hA : ∀ a : Nat, a < s.heap.size → ¬ A a) : vx_Zq C n d A s s.heap := by
  refine ⟨va_Zqof hl hini h hA, ?_⟩
  obtain ⟨c, k, i, f, a, cell, h1, h2, h3, h4, h5, h6, h7, h8, h9⟩ := Cond.laysStatic_spec hl
  exact ⟨c, k, i, f, a, cell, h1, h2, h3, h4, h5, h6, h7, h8, h9, hA a (Array.getElem?_eq_some_iff.mp h5).1⟩
theorem vx_isRef {C n d : String} {v : Value} {A : Nat → Prop} {s : State} {args : Array Value} (h : va_Z C n d v A s s.heap) (hv : v.isRef = true) : (Cond.isRef (.static C n d)).before args s = true := by
  obtain ⟨cf, kf, fi, f, a, cell, h1, h2, h3, h4, h5, h6, h7, -⟩ := h
  have he : (Term.static C n d).eval args s none [] s = some v := by
    simp [Term.eval, State.fieldNamed?, h1, h2, h4, h5, h6, h7]
  simp only [Cond.before, Cond.holds, Cond.value, he]
  cases v <;> simp_all [Value.isRef]
theorem vx_isRefq {C n d : String} {A : Nat → Prop} {s : State} {args : Array Value} (h : va_Zq C n d A s s.heap) : (Cond.isRef (.static C n d)).before args s = true := by
  rcases h with h | ⟨t, h⟩
  · exact vx_isRef h rfl
  · exact vx_isRef h rfl
/-- the same frame, seen from here: as if the method were called anew in this heap -/
theorem vx_rebase {T : State} (X : Stand p l e R s m args below meth c T locs cells slots) {R' : Room} (hf : R'.frames ≤ R.frames) (hl : R'.locals ≤ R.locals) (hc : cells + R'.cells ≤ R.cells) (hs : slots + R'.slots ≤ R.slots) :
    Stand p l e R' ((T.setVm s.vm).setFrames (.invoking m args :: below)) m args below meth c T [] 0 0 := by
  have htop : (T.setVm s.vm).topJava?.isSome := X.here.top
  have hF : ((T.setVm s.vm).setFrames (.invoking m args :: below)).frames = .invoking m args :: below := State.frames_setFrames _ (State.cur_lt_of_top htop)
  obtain ⟨g₀, hg0⟩ := Option.isSome_iff_exists.mp htop
  obtain ⟨r, hr⟩ := State.topJava?_eq_some.mp hg0
  have hl9 : e.platform.stackLimits (T.setVm s.vm).me = e.platform.stackLimits s.me := X.limits
  have hb9 : (T.setVm s.vm).me.stackBytes = s.me.stackBytes := X.bytes
  refine ⟨X.admits, X.cas, X.clock, hF, ?_, X.hears, X.method, X.code, X.here, X.tail, X.warmed, ?_, ?_, ?_⟩
  · have h := X.room
    have hU : ((T.setVm s.vm).setFrames (.invoking m args :: below)).localsInUse = s.localsInUse := by
      rw [State.localsInUse_invoking hF (meth := meth) (c := c) X.method X.code, State.localsInUse_invoking X.frames X.method X.code]
    simp only [State.hasRoom, Bool.and_eq_true, decide_eq_true_eq] at h ⊢
    obtain ⟨⟨⟨⟨h1, h2, h3, h4, h5, h6⟩, h7⟩, h8⟩, h9⟩ := h
    rw [X.frames, List.length_cons] at h2 h3
    have q1 := X.heapSize
    have q2 := X.used
    simp only [hF, hU, List.length_cons, State.stackLimits_setFrames, State.stackBytes_setFrames, hl9, hb9]
    refine ⟨⟨⟨⟨by omega, by omega, by omega, by omega, by omega, h6⟩, ?_⟩, ?_⟩, X.book⟩
    · show T.heap.size + R'.cells ≤ e.platform.maxCells
      omega
    · show T.slotsUsed + R'.slots ≤ e.platform.maxSlots
      omega
  · rw [State.stackLimits_setFrames]; rfl
  · rw [State.stackBytes_setFrames]; rfl
  · refine ⟨?_, Nat.le_refl _, Nat.le_refl _, ?_, ?_, fun a c9 h9 => ⟨c9, h9, rfl, rfl, fun _ _ => rfl⟩⟩
    · obtain ⟨t, ht, -⟩ := State.frames_cons hr
      show T.setVm s.vm = { ((T.setVm s.vm).setFrames (.invoking m args :: below)).setFrames (T.setVm s.vm).frames with heap := T.heap, slotsUsed := T.slotsUsed }
      rw [State.setFrames_setFrames, State.setFrames_self ht]
      rfl
    · show T.slotsUsed = T.slotsUsed + ((T.heap.toList.drop T.heap.size).map (·.slots.size)).sum
      rw [List.drop_eq_nil_of_le (Nat.le_of_eq Array.length_toList)]
      rfl
    · show ((T.heap.toList.drop T.heap.size).map (·.slots.size)).sum ≤ 0
      rw [List.drop_eq_nil_of_le (Nat.le_of_eq Array.length_toList)]
      exact Nat.le_refl _
/-- 'throw new E()': new; dup; invokespecial; athrow -/
theorem vx_throw0 {cc : ByteArray} {pc : Nat} (hexec : p.tables.exec = Jvm.exec) (hb : c.code = cc) (hl : l.stackTraces = false) {own cls : String} {names : List String} {ik ic mc ms : Nat} {A : Nat → Prop}
    (hown : s.vm.findClass own = some m.cls) (hcls : Bundle.fit cls = true) (hnames : ∀ n ∈ names, Bundle.fit n = true)
    (hk : (Cond.classLink own ik cls).before args s = true) (hini : (Cond.initialized cls).before args s = true) (hat : ∀ w ∈ vx_at0 own ic cls names, w.before args s = true)
    (hgood : ∀ w ∈ Cond.classLink own ik cls :: Cond.initialized cls :: vx_at0 own ic cls names, vx_ot w = true)
    (hU : vx_Zq Bundle.tN "UNASSIGNED_STACK" Bundle.steD A s s.heap) (hN : vx_Zq Bundle.tN "SUPPRESSED_SENTINEL" Bundle.listD A s s.heap) (hS : va_S A s.heap H locs) (hsize : ls.size = c.maxLocals)
    (d0 : decode cc pc = .ok (.new ik, 3)) (d3 : decode cc (pc + 3) = .ok (.dup, 1)) (d4 : decode cc (pc + 4) = .ok (.invokespecial ic, 3)) (d7 : decode cc (pc + 7) = .ok (.athrow, 1))
    (hout : ∀ x ∈ c.exceptionTable.toList, covers x (pc + 7) = false)
    (hRframes : names.length + 3 < R.frames) (hRlocals : (rest.map fun v => v.category).sum + (13 * (names.length + 1) + 42) ≤ R.locals) (hRcells : cells + 1 ≤ R.cells) (hRslots : slots + 6 ≤ R.slots) (hlocks : meth.locks = false)
    (hx : ∀ t : State, s.vm.Alike t.vm → H.size ≤ t.heap.size → (∀ q : Nat, q < H.size → t.heap[q]? = H[q]?) → XC cls s t)
    (hf : ∀ z ∈ locs, free z.base) (hc : cells + 1 ≤ mc) (hs : slots + 6 ≤ ms) :
    W p l e R s m args below meth c H locs cells slots (vx_MQ below Qc XC args s mc ms free) (F0 m pc ls rest) := by
  intro T hT X
  have htr : e.platform.stackTraces = false := (show e.platform.stackTraces = l.stackTraces by rw [X.admits.platform]).trans hl
  have Y := vx_rebase X (R' := { frames := R.frames, locals := R.locals, cells := 1, slots := 6 }) (Nat.le_refl _) (Nat.le_refl _) hRcells hRslots
  obtain ⟨s', hA⟩ : ∃ z, z = (T.setVm s.vm).setFrames (.invoking m args :: below) := ⟨_, rfl⟩
  rw [← hA] at Y
  have hvm : s'.vm = s.vm := by rw [hA]; rfl
  have hhp : s'.heap = H := by rw [hA]; exact hT
  have hW0 : s.WarmedH s'.vm := by rw [hvm]; exact State.WarmedH.refl s
  have hat' : ∀ w ∈ vx_at0 own ic cls names, w.before args s' = true := fun w hw => vx_ot_at hW0 hvm.symm (hgood w (List.mem_cons_of_mem _ (List.mem_cons_of_mem _ hw))) (hat w hw)
  have hk' : (Cond.classLink own ik cls).before args s' = true := vx_ot_at hW0 hvm.symm (hgood _ List.mem_cons_self) hk
  have hini' : (Cond.initialized cls).before args s' = true := vx_ot_at hW0 hvm.symm (hgood _ (List.mem_cons_of_mem _ List.mem_cons_self)) hini
  have hU' : vx_Zq Bundle.tN "UNASSIGNED_STACK" Bundle.steD A s' s'.heap := by rw [hhp]; exact vx_Zq.moved hW0.alike (hU.kept hS.2.1)
  have hN' : vx_Zq Bundle.tN "SUPPRESSED_SENTINEL" Bundle.listD A s' s'.heap := by rw [hhp]; exact vx_Zq.moved hW0.alike (hN.kept hS.2.1)
  have h : ∀ w ∈ Bundle.ownAtoms0 own ic cls names, w.before args s' = true := vx_own hat' (vx_isRefq hU'.1) (vx_isRefq hN'.1) hU'.2.word hN'.2.word
  have hown' : s'.vm.findClass own = some m.cls := by rw [hvm]; exact hown
  have hins : (Cond.instantiable cls 6).before args s' = true := h _ (by simp [Bundle.ownAtoms0])
  obtain ⟨vm₁, cX, kX, hfX, hkX, -, -, X₁, st1⟩ := Y.newCold hexec (own := own) (C := cls) (index := ik) (n := 6) hown' hk' hins hini'
    (g := F0 m pc ls rest) rfl (by rw [hb]; exact d0) (Nat.le_refl _) (Nat.le_refl _)
  generalize hT1 : (T.setVm vm₁).pushCell { cls := cX, slots := kX.instanceTypes.map defaultValue, vm := .none } = T1 at X₁ st1
  have hcat : (Value.ref T.heap.size).category = 1 := rfl
  have hcellA : T1.heap[T.heap.size]? = some (freshCell cX kX) := by rw [← hT1]; exact State.heap_pushCell_size _ _
  have d3' : decode c.code (pc + 3) = .ok (.dup, 1) := by rw [hb]; exact d3
  obtain ⟨U, hsteps, hrun, hend, hW, hsame, ce, hce, hO⟩ := X₁.ctorThrow0 hexec htr (own := own) (cls := cls) (names := names) (ic := ic) hown' hcls hnames h (fun x hx => nomatch hx) hfX hkX hcellA (by rw [hhp, hT]; exact Nat.le_refl _)
    (g := { method := m, pc := pc + 4, locals := ls, stack := .ref T.heap.size :: .ref T.heap.size :: rest, locked := none }) rfl hsize rfl rfl (rest := rest) rfl
    (by rw [hb]; exact d4) (by rw [hb]; exact d7) hout hRframes (by simp only [List.map_cons, List.sum_cons, hcat]; omega) hlocks
  obtain ⟨f1, f2⟩ := vx_frame hsame
  rw [hhp] at f1 f2
  have hWs : s.WarmedH U.vm := State.WarmedH.trans hW0 hW
  have hcl : s.vm.findClass cls = some ce.cls := by
    have h9 := hO.cls
    rw [hvm] at h9
    exact h9
  have hall : s.sameButNew ({ U with vm := s.vm } : State) locs mc ms := by
    subst hA
    obtain ⟨e1, e2⟩ := hsame
    rw [State.setFrames_setFrames] at e1
    have h2 : (T.setVm s.vm).sameButNew ({ U with vm := s.vm } : State) [] (0 + 1) (0 + 6) := ⟨e1, e2⟩
    have h3 := X.same.trans h2
    rw [List.append_nil] at h3
    exact h3.mono hc hs
  refine ⟨U, ?_, .threw T.heap.size, hrun, hend, Or.inr ⟨T.heap.size, rfl, cls, ce, locs, hx U hWs.alike f1 (fun q hq => f2 q hq (fun z hz => nomatch hz)), hce, hO.vm, hcl, hWs, hall, hf⟩⟩
  refine st1 _ ?_
  show Steps p.tables e below (T1.setTop { method := m, pc := pc + 3, locals := ls, stack := .ref T.heap.size :: rest, locked := none }) _
  jvm_step X₁.here [X₁.here.top, hexec, d3', Value.category]
  exact hsteps
/-- 'throw new E("text")': new; dup; ldc; invokespecial; athrow -/
theorem vx_throwS {cc : ByteArray} {pc : Nat} (hexec : p.tables.exec = Jvm.exec) (hb : c.code = cc) (hl : l.stackTraces = false) {own cls text : String} {names : List String} {ik is ic mc ms sa : Nat} {A : Nat → Prop}
    (hown : s.vm.findClass own = some m.cls) (hcls : Bundle.fit cls = true) (hnames : ∀ n ∈ names, Bundle.fit n = true)
    (hk : (Cond.classLink own ik cls).before args s = true) (hini : (Cond.initialized cls).before args s = true) (hstr : vk_R own is text sa s) (hat : ∀ w ∈ vx_atS own ic cls names, w.before args s = true)
    (hgood : ∀ w ∈ Cond.classLink own ik cls :: Cond.initialized cls :: vx_atS own ic cls names, vx_ot w = true)
    (hU : vx_Zq Bundle.tN "UNASSIGNED_STACK" Bundle.steD A s s.heap) (hN : vx_Zq Bundle.tN "SUPPRESSED_SENTINEL" Bundle.listD A s s.heap) (hS : va_S A s.heap H locs) (hsize : ls.size = c.maxLocals)
    (d0 : decode cc pc = .ok (.new ik, 3)) (d3 : decode cc (pc + 3) = .ok (.dup, 1)) (d4 : decode cc (pc + 4) = .ok (.ldc is, 2)) (d6 : decode cc (pc + 6) = .ok (.invokespecial ic, 3)) (d9 : decode cc (pc + 9) = .ok (.athrow, 1))
    (hout : ∀ x ∈ c.exceptionTable.toList, covers x (pc + 9) = false)
    (hRframes : names.length + 3 < R.frames) (hRlocals : (rest.map fun v => v.category).sum + (13 * (names.length + 1) + 43) ≤ R.locals) (hRcells : cells + 1 ≤ R.cells) (hRslots : slots + 6 ≤ R.slots) (hlocks : meth.locks = false)
    (hx : ∀ t : State, s.vm.Alike t.vm → H.size ≤ t.heap.size → (∀ q : Nat, q < H.size → t.heap[q]? = H[q]?) → XC cls s t)
    (hf : ∀ z ∈ locs, free z.base) (hc : cells + 1 ≤ mc) (hs : slots + 6 ≤ ms) :
    W p l e R s m args below meth c H locs cells slots (vx_MQ below Qc XC args s mc ms free) (F0 m pc ls rest) := by
  intro T hT X
  have htr : e.platform.stackTraces = false := (show e.platform.stackTraces = l.stackTraces by rw [X.admits.platform]).trans hl
  have Y := vx_rebase X (R' := { frames := R.frames, locals := R.locals, cells := 1, slots := 6 }) (Nat.le_refl _) (Nat.le_refl _) hRcells hRslots
  obtain ⟨s', hA⟩ : ∃ z, z = (T.setVm s.vm).setFrames (.invoking m args :: below) := ⟨_, rfl⟩
  rw [← hA] at Y
  have hvm : s'.vm = s.vm := by rw [hA]; rfl
  have hhp : s'.heap = H := by rw [hA]; exact hT
  have hW0 : s.WarmedH s'.vm := by rw [hvm]; exact State.WarmedH.refl s
  have hat' : ∀ w ∈ vx_atS own ic cls names, w.before args s' = true := fun w hw => vx_ot_at hW0 hvm.symm (hgood w (List.mem_cons_of_mem _ (List.mem_cons_of_mem _ hw))) (hat w hw)
  have hk' : (Cond.classLink own ik cls).before args s' = true := vx_ot_at hW0 hvm.symm (hgood _ List.mem_cons_self) hk
  have hini' : (Cond.initialized cls).before args s' = true := vx_ot_at hW0 hvm.symm (hgood _ (List.mem_cons_of_mem _ List.mem_cons_self)) hini
  have hU' : vx_Zq Bundle.tN "UNASSIGNED_STACK" Bundle.steD A s' s'.heap := by rw [hhp]; exact vx_Zq.moved hW0.alike (hU.kept hS.2.1)
  have hN' : vx_Zq Bundle.tN "SUPPRESSED_SENTINEL" Bundle.listD A s' s'.heap := by rw [hhp]; exact vx_Zq.moved hW0.alike (hN.kept hS.2.1)
  have h : ∀ w ∈ Bundle.ownAtoms own ic cls names, w.before args s' = true := vx_own hat' (vx_isRefq hU'.1) (vx_isRefq hN'.1) hU'.2.word hN'.2.word
  have hown' : s'.vm.findClass own = some m.cls := by rw [hvm]; exact hown
  have hins : (Cond.instantiable cls 6).before args s' = true := h _ (by simp [Bundle.ownAtoms])
  obtain ⟨vm₁, cX, kX, hfX, hkX, -, -, X₁, st1⟩ := Y.newCold hexec (own := own) (C := cls) (index := ik) (n := 6) hown' hk' hins hini'
    (g := F0 m pc ls rest) rfl (by rw [hb]; exact d0) (Nat.le_refl _) (Nat.le_refl _)
  generalize hT1 : (T.setVm vm₁).pushCell { cls := cX, slots := kX.instanceTypes.map defaultValue, vm := .none } = T1 at X₁ st1
  have hcat : (Value.ref T.heap.size).category = 1 := rfl
  have hcellA : T1.heap[T.heap.size]? = some (freshCell cX kX) := by rw [← hT1]; exact State.heap_pushCell_size _ _
  have d3' : decode c.code (pc + 3) = .ok (.dup, 1) := by rw [hb]; exact d3
  have d4' : decode c.code (pc + 4) = .ok (.ldc is, 2) := by rw [hb]; exact d4
  have hstr' : vk_R own is text sa s' := vk_R.warm hW0 hstr
  obtain ⟨U, hsteps, hrun, hend, hW, hsame, ce, hce, hO⟩ := X₁.ctorThrowS hexec htr (own := own) (cls := cls) (names := names) (ic := ic) hown' hcls hnames h (fun x hx => nomatch hx) hfX hkX hcellA (by rw [hhp, hT]; exact Nat.le_refl _) (msg := .ref sa) rfl
    (g := { method := m, pc := pc + 6, locals := ls, stack := .ref sa :: .ref T.heap.size :: .ref T.heap.size :: rest, locked := none }) rfl hsize rfl rfl (rest := rest) rfl
    (by rw [hb]; exact d6) (by rw [hb]; exact d9) hout hRframes (by simp only [List.map_cons, List.sum_cons, hcat]; omega) hlocks
  obtain ⟨f1, f2⟩ := vx_frame hsame
  rw [hhp] at f1 f2
  have hWs : s.WarmedH U.vm := State.WarmedH.trans hW0 hW
  have hcl : s.vm.findClass cls = some ce.cls := by
    have h9 := hO.cls
    rw [hvm] at h9
    exact h9
  have hall : s.sameButNew ({ U with vm := s.vm } : State) locs mc ms := by
    subst hA
    obtain ⟨e1, e2⟩ := hsame
    rw [State.setFrames_setFrames] at e1
    have h2 : (T.setVm s.vm).sameButNew ({ U with vm := s.vm } : State) [] (0 + 1) (0 + 6) := ⟨e1, e2⟩
    have h3 := X.same.trans h2
    rw [List.append_nil] at h3
    exact h3.mono hc hs
  refine ⟨U, ?_, .threw T.heap.size, hrun, hend, Or.inr ⟨T.heap.size, rfl, cls, ce, locs, hx U hWs.alike f1 (fun q hq => f2 q hq (fun z hz => nomatch hz)), hce, hO.vm, hcl, hWs, hall, hf⟩⟩
  refine st1 _ ?_
  show Steps p.tables e below (T1.setTop { method := m, pc := pc + 3, locals := ls, stack := .ref T.heap.size :: rest, locked := none }) _
  jvm_step X₁.here [X₁.here.top, hexec, d3', Value.category]
  exact X₁.ldcString hexec (own := own) (text := text) (index := is) (a := sa) hown' hstr'.1 hstr'.2
    (g := { method := m, pc := pc + 4, locals := ls, stack := .ref T.heap.size :: .ref T.heap.size :: rest, locked := none }) rfl d4' _ hsteps
/-- 'throw new E("text")', the text by a wide index -/
theorem vx_throwSW {cc : ByteArray} {pc : Nat} (hexec : p.tables.exec = Jvm.exec) (hb : c.code = cc) (hl : l.stackTraces = false) {own cls text : String} {names : List String} {ik is ic mc ms sa : Nat} {A : Nat → Prop}
    (hown : s.vm.findClass own = some m.cls) (hcls : Bundle.fit cls = true) (hnames : ∀ n ∈ names, Bundle.fit n = true)
    (hk : (Cond.classLink own ik cls).before args s = true) (hini : (Cond.initialized cls).before args s = true) (hstr : vk_R own is text sa s) (hat : ∀ w ∈ vx_atS own ic cls names, w.before args s = true)
    (hgood : ∀ w ∈ Cond.classLink own ik cls :: Cond.initialized cls :: vx_atS own ic cls names, vx_ot w = true)
    (hU : vx_Zq Bundle.tN "UNASSIGNED_STACK" Bundle.steD A s s.heap) (hN : vx_Zq Bundle.tN "SUPPRESSED_SENTINEL" Bundle.listD A s s.heap) (hS : va_S A s.heap H locs) (hsize : ls.size = c.maxLocals)
    (d0 : decode cc pc = .ok (.new ik, 3)) (d3 : decode cc (pc + 3) = .ok (.dup, 1)) (d4 : decode cc (pc + 4) = .ok (.ldc_w is, 3)) (d7 : decode cc (pc + 7) = .ok (.invokespecial ic, 3)) (d10 : decode cc (pc + 10) = .ok (.athrow, 1))
    (hout : ∀ x ∈ c.exceptionTable.toList, covers x (pc + 10) = false)
    (hRframes : names.length + 3 < R.frames) (hRlocals : (rest.map fun v => v.category).sum + (13 * (names.length + 1) + 43) ≤ R.locals) (hRcells : cells + 1 ≤ R.cells) (hRslots : slots + 6 ≤ R.slots) (hlocks : meth.locks = false)
    (hx : ∀ t : State, s.vm.Alike t.vm → H.size ≤ t.heap.size → (∀ q : Nat, q < H.size → t.heap[q]? = H[q]?) → XC cls s t)
    (hf : ∀ z ∈ locs, free z.base) (hc : cells + 1 ≤ mc) (hs : slots + 6 ≤ ms) :
    W p l e R s m args below meth c H locs cells slots (vx_MQ below Qc XC args s mc ms free) (F0 m pc ls rest) := by
  intro T hT X
  have htr : e.platform.stackTraces = false := (show e.platform.stackTraces = l.stackTraces by rw [X.admits.platform]).trans hl
  have Y := vx_rebase X (R' := { frames := R.frames, locals := R.locals, cells := 1, slots := 6 }) (Nat.le_refl _) (Nat.le_refl _) hRcells hRslots
  obtain ⟨s', hA⟩ : ∃ z, z = (T.setVm s.vm).setFrames (.invoking m args :: below) := ⟨_, rfl⟩
  rw [← hA] at Y
  have hvm : s'.vm = s.vm := by rw [hA]; rfl
  have hhp : s'.heap = H := by rw [hA]; exact hT
  have hW0 : s.WarmedH s'.vm := by rw [hvm]; exact State.WarmedH.refl s
  have hat' : ∀ w ∈ vx_atS own ic cls names, w.before args s' = true := fun w hw => vx_ot_at hW0 hvm.symm (hgood w (List.mem_cons_of_mem _ (List.mem_cons_of_mem _ hw))) (hat w hw)
  have hk' : (Cond.classLink own ik cls).before args s' = true := vx_ot_at hW0 hvm.symm (hgood _ List.mem_cons_self) hk
  have hini' : (Cond.initialized cls).before args s' = true := vx_ot_at hW0 hvm.symm (hgood _ (List.mem_cons_of_mem _ List.mem_cons_self)) hini
  have hU' : vx_Zq Bundle.tN "UNASSIGNED_STACK" Bundle.steD A s' s'.heap := by rw [hhp]; exact vx_Zq.moved hW0.alike (hU.kept hS.2.1)
  have hN' : vx_Zq Bundle.tN "SUPPRESSED_SENTINEL" Bundle.listD A s' s'.heap := by rw [hhp]; exact vx_Zq.moved hW0.alike (hN.kept hS.2.1)
  have h : ∀ w ∈ Bundle.ownAtoms own ic cls names, w.before args s' = true := vx_own hat' (vx_isRefq hU'.1) (vx_isRefq hN'.1) hU'.2.word hN'.2.word
  have hown' : s'.vm.findClass own = some m.cls := by rw [hvm]; exact hown
  have hins : (Cond.instantiable cls 6).before args s' = true := h _ (by simp [Bundle.ownAtoms])
  obtain ⟨vm₁, cX, kX, hfX, hkX, -, -, X₁, st1⟩ := Y.newCold hexec (own := own) (C := cls) (index := ik) (n := 6) hown' hk' hins hini'
    (g := F0 m pc ls rest) rfl (by rw [hb]; exact d0) (Nat.le_refl _) (Nat.le_refl _)
  generalize hT1 : (T.setVm vm₁).pushCell { cls := cX, slots := kX.instanceTypes.map defaultValue, vm := .none } = T1 at X₁ st1
  have hcat : (Value.ref T.heap.size).category = 1 := rfl
  have hcellA : T1.heap[T.heap.size]? = some (freshCell cX kX) := by rw [← hT1]; exact State.heap_pushCell_size _ _
  have d3' : decode c.code (pc + 3) = .ok (.dup, 1) := by rw [hb]; exact d3
  have d4' : decode c.code (pc + 4) = .ok (.ldc_w is, 3) := by rw [hb]; exact d4
  have hstr' : vk_R own is text sa s' := vk_R.warm hW0 hstr
  obtain ⟨U, hsteps, hrun, hend, hW, hsame, ce, hce, hO⟩ := X₁.ctorThrowS hexec htr (own := own) (cls := cls) (names := names) (ic := ic) hown' hcls hnames h (fun x hx => nomatch hx) hfX hkX hcellA (by rw [hhp, hT]; exact Nat.le_refl _) (msg := .ref sa) rfl
    (g := { method := m, pc := pc + 7, locals := ls, stack := .ref sa :: .ref T.heap.size :: .ref T.heap.size :: rest, locked := none }) rfl hsize rfl rfl (rest := rest) rfl
    (by rw [hb]; exact d7) (by rw [hb]; exact d10) hout hRframes (by simp only [List.map_cons, List.sum_cons, hcat]; omega) hlocks
  obtain ⟨f1, f2⟩ := vx_frame hsame
  rw [hhp] at f1 f2
  have hWs : s.WarmedH U.vm := State.WarmedH.trans hW0 hW
  have hcl : s.vm.findClass cls = some ce.cls := by
    have h9 := hO.cls
    rw [hvm] at h9
    exact h9
  have hall : s.sameButNew ({ U with vm := s.vm } : State) locs mc ms := by
    subst hA
    obtain ⟨e1, e2⟩ := hsame
    rw [State.setFrames_setFrames] at e1
    have h2 : (T.setVm s.vm).sameButNew ({ U with vm := s.vm } : State) [] (0 + 1) (0 + 6) := ⟨e1, e2⟩
    have h3 := X.same.trans h2
    rw [List.append_nil] at h3
    exact h3.mono hc hs
  refine ⟨U, ?_, .threw T.heap.size, hrun, hend, Or.inr ⟨T.heap.size, rfl, cls, ce, locs, hx U hWs.alike f1 (fun q hq => f2 q hq (fun z hz => nomatch hz)), hce, hO.vm, hcl, hWs, hall, hf⟩⟩
  refine st1 _ ?_
  show Steps p.tables e below (T1.setTop { method := m, pc := pc + 3, locals := ls, stack := .ref T.heap.size :: rest, locked := none }) _
  jvm_step X₁.here [X₁.here.top, hexec, d3', Value.category]
  exact X₁.ldcStringW hexec (own := own) (text := text) (index := is) (a := sa) hown' hstr'.1 hstr'.2
    (g := { method := m, pc := pc + 4, locals := ls, stack := .ref T.heap.size :: .ref T.heap.size :: rest, locked := none }) rfl d4' _ hsteps
end Ends
section Bodies
variable {l : Launch}
theorem vx_ofW {y : MethodName} {ws ws' : List Cond} {rm : Room} {Pc : Array Value → State → Prop} {Qc : Array Value → State → Outcome → State → Prop} {XC : String → State → State → Prop} {mc ms : Nat} {free : Addr → Prop} {cc : ByteArray} {maxL : Nat} {ret : Option FieldType}
    (hy : plainName y.cls = true) (hw : ws = Cond.code y cc maxL ret :: ws')
    (body : ∀ p e s m args below meth c s₁, BodyLoose p l y (headSpec ws rm) cc maxL ret e s m args below meth c s₁ → c.maxLocals = maxL → (∀ x ∈ c.exceptionTable.toList, False) → Pc args s →
      W p l e (headSpec ws rm).room s m args below meth c s.heap [] 0 0 (vx_MQ below Qc XC args s mc ms free) (entryFrame m args maxL)) : vx_Met l y ws rm Pc Qc XC mc ms free := by
  refine MetFree.of_bodyS (code := cc) (maxLocals := maxL) (ret := ret) hy ?_ ?_
  · intro args s m h hn
    obtain ⟨meth, c, h1, h2, h3, h4, h5, h6, -, -⟩ := Cond.code_spec hn (atoms_spec (ws := ws) h _ (by rw [hw]; exact List.mem_cons_self))
    exact ⟨meth, c, h1, h2, h3, h4, h5, h6⟩
  · intro p e s m args below meth c s₁ B hml hP _
    have hh0 : s₁.heap = s.heap := by rw [B.state]; rfl
    have ht : ∀ x ∈ c.exceptionTable.toList, False := by
      obtain ⟨meth9, c9, h1, h2, -, -, -, -, h7, -⟩ := Cond.code_spec B.named (atoms_spec (ws := ws) B.pre _ (by rw [hw]; exact List.mem_cons_self))
      cases Option.some.inj (h1.symm.trans B.method)
      cases Option.some.inj (h2.symm.trans (Stand.of_body B).code)
      intro x hx
      rw [Array.isEmpty_iff.mp h7] at hx
      cases hx
    obtain ⟨t, a1, o, b1, b2, b3⟩ := body p e s m args below meth c s₁ B hml ht hP s₁ hh0 (Stand.of_body B)
    exact ⟨t, o, a1, b1, b2, b3⟩
/-- the table of a body with handlers -/
theorem vx_table {p : Program} {x y : MethodName} {S : Spec} {cc bytes : ByteArray} {maxL maxL' : Nat} {ret ret' : Option FieldType} {e : Env} {s s₁ : State} {m : MethodId} {args : Array Value} {below : List Frame} {meth : Method} {c : Code} {hh : List (Nat × Nat × Nat × Nat)}
    (B : BodyLoose p l y S cc maxL ret e s m args below meth c s₁) (h : (Cond.codeWith y bytes maxL' ret' hh).before args s = true) : c.exceptionTable.toList = tableOf hh := by
  obtain ⟨m9, meth9, c9, hn9, h1, h2, -, -, h6, -⟩ := Cond.codeWith_spec h
  cases Option.some.inj (hn9.symm.trans B.named)
  cases Option.some.inj (h1.symm.trans B.method)
  cases Option.some.inj (h2.symm.trans (Stand.of_body B).code)
  rw [← h6, table_eq]
end Bodies
end VXA
/-! ===== END ===== -/
/-! ===== BEGIN a static call of a method with an exception table ===== -/
section VXS
variable {p : Program} {l : Launch} {e : Env} {R : Room} {s : State} {m : MethodId} {args : Array Value} {below : List Frame} {meth : Method} {c : Code} {T : State} {H : Heap} {locs : List Loc} {cells slots : Nat}
abbrev vx_CSW (R : Room) (s : State) (args : Array Value) (own : String) (index : Nat) (y : MethodName) (bytes : ByteArray) (maxL : Nat) (ret : Option FieldType) (hh : List (Nat × Nat × Nat × Nat)) (ws : List Cond) (rm : Room) (mc ms n : Nat) : Prop :=
  (rm.cells = mc ∧ rm.slots = ms ∧ rm.frames + 1 ≤ R.frames ∧ 8 + (maxL + 11) + rm.locals ≤ R.locals ∧ (∀ w ∈ ws, ∀ (a' : Array Value) (U : State), s.WarmedH U.vm → w.before a' U = true) ∧ Cond.codeWith y bytes maxL ret hh ∈ ws) ∧
  (Cond.codeWith y bytes maxL ret hh).before args s = true ∧ (Cond.initialized y.cls).before args s = true ∧ (y.cls ≠ "java/lang/invoke/MethodHandle" ∧ y.cls ≠ "java/lang/invoke/VarHandle") ∧
  (∀ sig, parseMethodDescriptor y.desc = some sig → n = sig.parameters.length) ∧ (Cond.methodLink own index y).before args s = true ∧ (Cond.static y).before args s = true
theorem vx_cwSW {own : String} {index maxL mc ms : Nat} {y : MethodName} {bytes : ByteArray} {ret : Option FieldType} {hh : List (Nat × Nat × Nat × Nat)} {Ts ws ws' : List Cond} {rm : Room} (n : Nat) (ht : ∀ w ∈ Ts, w.before args s = true) (hT : GoodIn Ts (va_wsS own index y ws)) (hw : ws = Cond.codeWith y bytes maxL ret hh :: ws') (hrc : rm.cells = mc) (hrs : rm.slots = ms)
    (hd : y.cls ≠ "java/lang/invoke/MethodHandle" ∧ y.cls ≠ "java/lang/invoke/VarHandle" ∧ (parseMethodDescriptor y.desc).map (fun d => d.parameters.length) = some n) (hR : rm.frames + 1 ≤ R.frames ∧ 8 + (maxL + 11) + rm.locals ≤ R.locals) :
    vx_CSW R s args own index y bytes maxL ret hh ws rm mc ms n := by
  have ok : ∀ w ∈ va_wsS own index y ws, w.before args s = true := fun w h => ht w (hT w h).1
  have hG : GoodIn Ts ws := fun w h => hT w (by unfold va_wsS; exact List.mem_append_right _ h)
  have hc : Cond.codeWith y bytes maxL ret hh ∈ ws := by rw [hw]; exact List.mem_cons_self
  refine ⟨⟨hrc, hrs, hR.1, hR.2, pay_in ht hG, hc⟩, ht _ (hG _ hc).1, ok _ (by simp [va_wsS]), ⟨hd.1, hd.2.1⟩, fun sig h => ?_, ok _ (by simp [va_wsS]), ok _ (by simp [va_wsS])⟩
  have h2 := hd.2.2
  rw [h] at h2
  exact (Option.some.inj h2).symm
theorem vx_callSW (X : Stand p l e R s m args below meth c T locs cells slots) (hexec : p.tables.exec = Jvm.exec) {own : String} {index : Nat} {y : MethodName} {bytes : ByteArray} {maxL : Nat} {ret : Option FieldType} {hh : List (Nat × Nat × Nat × Nat)}
    (hown : s.vm.findClass own = some m.cls) (hlink : (Cond.methodLink own index y).before args s = true) (hstat : (Cond.static y).before args s = true) (hinit : (Cond.initialized y.cls).before args s = true)
    (hcode : (Cond.codeWith y bytes maxL ret hh).before args s = true) (hy : y.cls ≠ "java/lang/invoke/MethodHandle" ∧ y.cls ≠ "java/lang/invoke/VarHandle")
    {W9 : Nat} {Pre : Pt → Array Value → Prop} {Post : Pt → Array Value → Option Value → Pt → Prop} (hK : Back l R p e below s args y 3 W9 Pre Post)
    {g : JFrame} (hg : g.method = m) (hsize : g.locals.size = c.maxLocals) {argsL rest : List Value} (hlen : ∀ sig, parseMethodDescriptor y.desc = some sig → argsL.length = sig.parameters.length)
    (hstack : g.stack = argsL.reverse ++ rest) (hW : 2 * g.monitorRoom + (rest.map fun v => v.category).sum ≤ W9) (hdg : decode c.code g.pc = .ok (.invokestatic index, 3))
    (hpre : ∀ vm₁, s.WarmedH vm₁ → Pre ⟨T.setVm vm₁, locs, cells, slots⟩ argsL.toArray) :
    ∃ (v : Option Value) (vm₁ : Vm) (B : Pt), s.WarmedH vm₁ ∧ Stand p l e R s m args below meth c B.U B.locs B.cells B.slots ∧ Post ⟨T.setVm vm₁, locs, cells, slots⟩ argsL.toArray v B ∧
      ∀ target, Steps p.tables e below (B.U.setTop { g with pc := g.pc + 3, stack := v.toList ++ rest }) target → Steps p.tables e below (T.setTop g) target := by
  obtain ⟨mk, methM, cM, hnamed, hmethM, -, -, -, -, -, -, hsigM⟩ := Cond.codeWith_spec hcode
  have hstatic : methM.isStatic = true := Cond.static_spec hnamed hmethM hstat
  obtain ⟨kP, hkP, -⟩ := className_of_methodNamed hnamed
  have hinitP : kP.init = .initialized := Cond.initialized_spec (findClass_of_methodNamed hnamed) hkP hinit
  obtain ⟨vm₁, X₁, hstep₁⟩ := X.invokestatic hexec hown hlink hnamed hmethM hstatic hkP hinitP hy (g := g) hg (argsL := argsL) (rest := rest) (hlen _ hsigM) hstack hdg
  obtain ⟨v, B, X', hpost, hsteps⟩ := hK m meth c ⟨T.setVm vm₁, locs, cells, slots⟩ { g with stack := rest } (.invokestatic index) mk argsL.toArray X₁ hg hsize hdg hW (X₁.named hnamed) (hpre vm₁ X₁.warmed)
  exact ⟨v, vm₁, B, X₁.warmed, X', hpost, fun target h => hstep₁ _ fun acts => by rw [doInvoke_state]; exact hsteps.trans h⟩
theorem vx_runSW {y : MethodName} {bytes cc : ByteArray} {maxL nL mc ms n index : Nat} {ret : Option FieldType} {hh : List (Nat × Nat × Nat × Nat)} {ws : List Cond} {rm : Room} {Pc : Array Value → State → Prop} {Qc : Array Value → State → Outcome → State → Prop} {free : Addr → Prop} {Ts : List Cond} {own : String} {As rest : List Value} {g : JFrame}
    (S : CallFix p m c cc nL s args Ts own) (hM : Met l y ws rm Pc Qc mc ms free) (cw : vx_CSW R s args own index y bytes maxL ret hh ws rm mc ms n) (hp : PreS s H Pc As)
    (hg : g.method = m) (hn : As.length = n) (hsize : g.locals.size = nL) (hstack : g.stack = As.reverse ++ rest) (hW : 2 * g.monitorRoom + (rest.map fun v => v.category).sum ≤ 8) (hdg : decode cc g.pc = .ok (.invokestatic index, 3)) (hf : cells + mc ≤ R.cells ∧ slots + ms ≤ R.slots) :
    va_Run p l e R s m args below meth c H locs cells slots mc ms g rest (Qc As.toArray) (free) := by
  obtain ⟨⟨hrc, hrs, hfr, hlo, hws, hcw⟩, hcode, hini, hy, hlen, hl, hstt⟩ := cw
  have hK : Back l R p e below s args y 3 8 (PreOf R mc ms Pc) (PostOf Qc mc ms free) := va_backW (hh := hh) (bytes := bytes) (maxL := maxL) (ret := ret) hM hp.1 hrc hrs hfr hlo hws hcw (fun a' U hW => word_at hW (Or.inl (by first | rfl | simp [Cond.onTables, Cond.keeps, Cond.steady])) hini)
  obtain ⟨hx, hb, hml, ho, -⟩ := S
  intro T hT X
  obtain ⟨v, vm₁, ⟨U', l2, c2, s2⟩, hW₁, X', ⟨g', mk, t, L, e1, e2, hq, h1, hL, h2, h3⟩, st⟩ := vx_callSW X hx (hh := hh) (bytes := bytes) (maxL := maxL) (ret := ret) ho hl hstt hini hcode hy hK hg (hsize.trans hml.symm) (argsL := As) (rest := rest) (fun sig h => hn.trans (hlen sig h)) hstack hW (by rw [hb]; exact hdg)
    (fun vm₁ hW₁ => ⟨hf.1, hf.2, hp.2 (T.setVm vm₁) hT hW₁⟩)
  dsimp only [Pt.U, Pt.locs, Pt.cells, Pt.slots] at X' e1 e2 h1 h2 h3 st
  subst h1; subst h2; subst h3
  exact ⟨v, (T.setVm vm₁).calling g' mk As.toArray, t, U', L, hT, X', hL, e1, e2, hq, st⟩
/-- not caught here, past rows that name other classes: it goes on to the caller -/
theorem vx_outP {p : Program} {l : Launch} {e : Env} {R : Room} {s : State} {m : MethodId} {args : Array Value} {below : List Frame} {meth : Method} {c : Code} {H : Heap} {locs : List Loc} {cells slots : Nat} {free : Addr → Prop} {ls : Array Slot} {rest : List Value} {Qc : Array Value → State → Outcome → State → Prop} {XC : String → State → State → Prop}
    {pc : Nat} {own E : String} {ce : Cell} {q : Addr} {mc ms : Nat} (hown : s.vm.findClass own = some m.cls) (hlocks : meth.locks = false)
    (hpass : ∀ z ∈ c.exceptionTable.toList, covers z pc = false ∨ (z.catchType ≠ 0 ∧ ∃ nm : String, (Cond.classLink own z.catchType nm).before args s = true ∧ va_Nc E nm s)) (hcell : H[q]? = some ce) (hv : ce.vm = .none) (hcl : s.vm.findClass E = some ce.cls)
    (hx : ∀ t : State, t.heap = H → s.vm.Alike t.vm → XC E s t) (hf : ∀ z ∈ locs, free z.base) (hc : cells ≤ mc) (hs : slots ≤ ms) :
    vx_W p l e R s m args below meth c H locs cells slots (vx_MQ below Qc XC args s mc ms free) (F0 m pc ls rest) q := by
  intro T hT X
  have hpl : e.platform.magicAccessors = ({} : Platform).magicAccessors := by rw [X.admits.platform]
  obtain ⟨vm', hW', X', st⟩ := X.outThrough hlocks q (g := F0 m pc ls rest) rfl rfl rfl (cell := ce) (by rw [hT]; exact hcell) (by rw [hv]; rfl)
    (by obtain ⟨k9, h9, -⟩ := Vm.findClass_spec hcl; exact ⟨k9, h9⟩) (fun z hz => by
      rcases hpass z hz with h | ⟨hz0, nm, hl1, hn1⟩
      · exact Or.inl h
      · obtain ⟨c6, hc6, hcl6⟩ := Cond.classLink_spec hown hl1 e.platform hpl
        obtain ⟨a8, b8, h1, h2, h3⟩ := hn1
        cases Option.some.inj (h1.symm.trans hcl)
        cases Option.some.inj (h2.symm.trans hc6)
        exact Or.inr ⟨hz0, _, hcl6, h3⟩)
  obtain ⟨g₀, hfr⟩ := X'.frames_eq
  have hcell9 : ((T.setVm vm').setFrames (.throwing q :: below)).heap[q]? = some ce := by
    show T.heap[q]? = some ce
    rw [hT]; exact hcell
  have hend : Ended ((T.setVm vm').setFrames (.throwing q :: below)) below (.threw q) := State.frames_setFrames _ (State.cur_lt_of_frames hfr)
  refine ⟨(T.setVm vm').setFrames (.throwing q :: below), ?_, .threw q, X'.here.running, hend, Or.inr ⟨q, rfl, E, ce, locs, hx _ hT (X'.ends _).1.alike, hcell9, hv, hcl, (X'.ends _).1, (X'.ends _).2.mono hc hs, hf⟩⟩
  rw [X.pushThrowing_eq]
  exact st
/-- a thing of a world lies in the heap -/
theorem vx_lt {D : va_G} {cl : List vw_C} {ws : va_W} {H1 : Heap} (h : va_P D cl ws H1) {k : Nat} {q : Nat × va_E} (hk : ws[k]? = some q) : q.1 < H1.size := (h k q hk).lt
end VXS
/-! ===== END ===== -/
/-! ===== BEGIN methods with a table of their own: called by a name, returning or throwing ===== -/
section VXH
/-! vx_backW, vx_callVX, vx_callSX, vx_callVW, vx_runVW, vx_runVX, vx_runSX, vx_ofWH follow the same proofs as their sisters above (Free/Laws.lean, Shelf42/LK1.lean); vx_outP calls Shelf42/NT130.lean (outThrough). -/
section
variable {l : Launch} {R : Room} {p : Program} {e : Env} {below : List Frame} {s : State} {sargs : Array Value} {y : MethodName} {len W9 : Nat}
theorem vx_backW {ws : List Cond} {rm : Room} {Pc : Array Value → State → Prop} {Qc : Array Value → State → Outcome → State → Prop} {XC : String → State → State → Prop} {mc ms : Nat} {free : Addr → Prop} {bytes : ByteArray} {maxL : Nat} {ret : Option FieldType} {hh : List (Nat × Nat × Nat × Nat)}
    (hM : vx_Met l y ws rm Pc Qc XC mc ms free) (hblind : FrameBlind Pc) (hrc : rm.cells = mc) (hrs : rm.slots = ms)
    (hframes : rm.frames + 1 ≤ R.frames) (hlocals : W9 + (maxL + 11) + rm.locals ≤ R.locals)
    (hws : ∀ w ∈ ws, ∀ a' U, s.WarmedH U.vm → w.before a' U = true) (hcode : Cond.codeWith y bytes maxL ret hh ∈ ws) (hinit : ∀ a' U, s.WarmedH U.vm → (Cond.initialized y.cls).before a' U = true) :
    vx_Back l R p e below s sargs y len W9 (PreOf R mc ms Pc) (PostOf Qc mc ms free) (vx_Post XC mc ms free) := by
  intro m meth c A g ig mk a X hg hsize hdg hW hn hp
  have h1 : (headSpec ws rm).pre.before a A.U = true := atoms_intro fun w hw => hws w hw _ _ X.warmed
  have h2 : (Cond.codeWith y bytes maxL ret hh).before a A.U = true := hws _ hcode _ _ X.warmed
  have h3 : (Cond.initialized y.cls).before a A.U = true := hinit _ _ X.warmed
  have h4 : A.cells + (headSpec ws rm).room.cells ≤ R.cells := by rw [show (headSpec ws rm).room.cells = mc from hrc]; exact hp.1
  have h5 : A.slots + (headSpec ws rm).room.slots ≤ R.slots := by rw [show (headSpec ws rm).room.slots = ms from hrs]; exact hp.2.1
  have hPc : Pc a (A.U.calling g mk a) := hblind _ _ _ _ hp.2.2
  obtain ⟨U, Ls, c0, s0⟩ := A
  dsimp only [Pt.U, Pt.locs, Pt.cells, Pt.slots] at h1 h2 h3 h4 h5 X hn hPc ⊢
  obtain ⟨m9, methY, cY, hn9, hmY, hcY, -, hlY, -⟩ := Cond.codeWith_spec h2
  cases Option.some.inj (hn9.symm.trans hn)
  obtain ⟨kY, hkY, -⟩ := className_of_methodNamed hn
  have hinitY : kY.init = .initialized := Cond.initialized_spec (findClass_of_methodNamed hn) hkY h3
  have h : At U g.method c below := by rw [hg]; exact X.here
  have hlocals9 : W9 + (maxL + 11) + (headSpec ws rm).room.locals ≤ R.locals := hlocals
  have happ : (headSpec ws rm).appliesLoose y e.platform (U.calling g mk a) = true :=
    Spec.appliesLoose_calling (g := g) h hdg hn hkY hinitY
      (X.room_calling (g := g) (R' := (headSpec ws rm).room) hsize hmY hcY hframes (by rw [hlY]; omega) h4 h5) h1
  obtain ⟨mid, hmid⟩ := h.above
  have hfr : (U.setTop g).frames = (.java g :: mid) ++ below := by rw [State.frames_setTop' g h.top, hmid]; rfl
  obtain ⟨o, s₂, hsteps, -, hend, hq⟩ := Steps.callFree hM p X.admits X.cas X.clock (acts := []) hfr happ hPc trivial
  have hq' : vx_Q Qc XC mc ms free a (U.calling g mk a) o s₂ := hq
  rw [State.frames_setTop' g h.top] at hend
  obtain ⟨g₀, hg0⟩ := Option.isSome_iff_exists.mp h.top
  obtain ⟨r, hr⟩ := State.topJava?_eq_some.mp hg0
  have hr' : (({ U with heap := s₂.heap, slotsUsed := s₂.slotsUsed } : State).setVm s₂.vm).frames = .java g₀ :: r := hr
  rcases hq' with ⟨hqc, L, hfe, hL⟩ | ⟨q, rfl, E, ce, L, hx, hce, hcv, hcl, hW₂, hsm, hL⟩
  · obtain ⟨⟨v, rfl⟩, hW₂, e2, q2, q3, q4, q5, q6⟩ := id hfe
    have e3 : s₂ = ({ (U.calling g mk a).setFrames s₂.frames with heap := s₂.heap, slotsUsed := s₂.slotsUsed } : State).setVm s₂.vm := by
      have : s₂ = ({ s₂ with vm := (U.calling g mk a).vm } : State).setVm s₂.vm := rfl
      rw [e2] at this
      exact this
    obtain ⟨c₂, i₂, len₂, hc₂, hd₂, hf₂⟩ := hend
    have hW' : U.WarmedH s₂.vm := hW₂
    have hcc : c₂ = c := by
      have h1 : s₂.code? g.method = U.code? g.method := by
        rw [State.code?_eq, State.code?_eq, hW'.alike.method?]
      exact Option.some.inj (hc₂.symm.trans (h1.trans h.code))
    subst hcc
    have hlen : len₂ = len := by rw [hdg] at hd₂; cases hd₂; rfl
    subst hlen
    have hs₂ : s₂ = (({ U with heap := s₂.heap, slotsUsed := s₂.slotsUsed } : State).setVm s₂.vm).setTop { g with pc := g.pc + len₂, stack := v.toList ++ g.stack } := by
      refine e3.trans ?_
      rw [hf₂, State.calling_eq h.top, State.setFrames_setFrames, State.setTop_of_frames _ hr', hr]
      rfl
    have hsame : U.sameButNew ({ U with heap := s₂.heap, slotsUsed := s₂.slotsUsed } : State) L mc ms := by
      refine ⟨?_, q2, q3, q4, q5, q6⟩
      obtain ⟨t, ht, -⟩ := State.frames_cons hr
      show ({ U with heap := s₂.heap, slotsUsed := s₂.slotsUsed } : State) = { U.setFrames U.frames with heap := s₂.heap, slotsUsed := s₂.slotsUsed }
      rw [State.setFrames_self ht]
    subst hg
    refine Or.inl ⟨v, ⟨(({ U with heap := s₂.heap, slotsUsed := s₂.slotsUsed } : State).setVm s₂.vm), Ls ++ L, c0 + mc, s0 + ms⟩,
      ⟨X.admits, X.cas, X.clock, X.frames, X.room, X.hears, X.method, X.code, (X.here.setHeapUsed s₂.heap s₂.slotsUsed).setVm hW'.alike, X.tail, State.WarmedH.trans X.warmed hW', X.limits, X.bytes, X.same.trans (hsame.setVm s.vm)⟩,
      ⟨g, mk, s₂, L, rfl, rfl, hqc, rfl, hL, rfl, rfl⟩, ?_⟩
    show Steps p.tables e below _ ((({ U with heap := s₂.heap, slotsUsed := s₂.slotsUsed } : State).setVm s₂.vm).setTop { g with pc := g.pc + len₂, stack := v.toList ++ g.stack })
    rw [← hs₂]
    exact hsteps
  · obtain ⟨e2, q2, q3, q4, q5, q6⟩ := id hsm
    have e3 : s₂ = ({ (U.calling g mk a).setFrames s₂.frames with heap := s₂.heap, slotsUsed := s₂.slotsUsed } : State).setVm s₂.vm := by
      have : s₂ = ({ s₂ with vm := (U.calling g mk a).vm } : State).setVm s₂.vm := rfl
      rw [e2] at this
      exact this
    have hf₂ : s₂.frames = .throwing q :: .java g :: U.frames.tail := hend
    have hW' : U.WarmedH s₂.vm := hW₂
    have hs₂ : s₂ = ((({ U with heap := s₂.heap, slotsUsed := s₂.slotsUsed } : State).setVm s₂.vm).setTop g).pushFrame (.throwing q) := by
      refine e3.trans ?_
      rw [hf₂, State.calling_eq h.top, State.setFrames_setFrames, State.pushFrame, State.frames_setTop _ hr', State.setTop_of_frames _ hr', State.setFrames_setFrames, hr]
      rfl
    have hsame : U.sameButNew ({ U with heap := s₂.heap, slotsUsed := s₂.slotsUsed } : State) L mc ms := by
      refine ⟨?_, q2, q3, q4, q5, q6⟩
      obtain ⟨t, ht, -⟩ := State.frames_cons hr
      show ({ U with heap := s₂.heap, slotsUsed := s₂.slotsUsed } : State) = { U.setFrames U.frames with heap := s₂.heap, slotsUsed := s₂.slotsUsed }
      rw [State.setFrames_self ht]
    subst hg
    refine Or.inr ⟨q, ⟨(({ U with heap := s₂.heap, slotsUsed := s₂.slotsUsed } : State).setVm s₂.vm), Ls ++ L, c0 + mc, s0 + ms⟩,
      ⟨X.admits, X.cas, X.clock, X.frames, X.room, X.hears, X.method, X.code, (X.here.setHeapUsed s₂.heap s₂.slotsUsed).setVm hW'.alike, X.tail, State.WarmedH.trans X.warmed hW', X.limits, X.bytes, X.same.trans (hsame.setVm s.vm)⟩,
      ⟨g, mk, s₂, L, E, ce, rfl, rfl, hx, hce, hcv, hcl, rfl, hL, rfl, rfl⟩, ?_⟩
    show Steps p.tables e below _ (((({ U with heap := s₂.heap, slotsUsed := s₂.slotsUsed } : State).setVm s₂.vm).setTop g).pushFrame (.throwing q))
    rw [← hs₂]
    exact hsteps
end
variable {p : Program} {l : Launch} {e : Env} {R : Room} {s : State} {m : MethodId} {args : Array Value} {below : List Frame} {meth : Method} {c : Code} {T : State} {H : Heap} {locs : List Loc} {cells slots : Nat}
theorem vx_callVX (X : Stand p l e R s m args below meth c T locs cells slots) (hexec : p.tables.exec = Jvm.exec) {own C : String} {index : Nat} {y : MethodName} {bytes : ByteArray} {maxL : Nat} {ret : Option FieldType} {hh : List (Nat × Nat × Nat × Nat)}
    (hown : s.vm.findClass own = some m.cls) (hlink : (Cond.methodLink own index y).before args s = true) (hinst : (Cond.instanceMethod y).before args s = true) (hsel : (Cond.selects C y y).before args s = true)
    (hcode : (Cond.codeWith y bytes maxL ret hh).before args s = true) (hy : y.cls ≠ "java/lang/invoke/MethodHandle" ∧ y.cls ≠ "java/lang/invoke/VarHandle")
    {W9 : Nat} {Pre : Pt → Array Value → Prop} {Post : Pt → Array Value → Option Value → Pt → Prop} {PostX : Pt → Array Value → Addr → Pt → Prop} (hK : vx_Back l R p e below s args y 3 W9 Pre Post PostX)
    {b : Addr} {cellB : Cell} (hcell : T.heap[b]? = some cellB) (hobj : cellB.vm.isStatics = false) (hcls : s.vm.findClass C = some cellB.cls)
    {g : JFrame} (hg : g.method = m) (hsize : g.locals.size = c.maxLocals) {argsL rest : List Value} (hlen : ∀ sig, parseMethodDescriptor y.desc = some sig → argsL.length = sig.parameters.length)
    (hstack : g.stack = argsL.reverse ++ .ref b :: rest) (hW : 2 * g.monitorRoom + (rest.map fun v => v.category).sum ≤ W9) (hdg : decode c.code g.pc = .ok (.invokevirtual index, 3))
    (hpre : ∀ vm₁, s.WarmedH vm₁ → Pre ⟨T.setVm vm₁, locs, cells, slots⟩ (Value.ref b :: argsL).toArray) :
    (∃ (v : Option Value) (vm₁ : Vm) (B : Pt), s.WarmedH vm₁ ∧ Stand p l e R s m args below meth c B.U B.locs B.cells B.slots ∧ Post ⟨T.setVm vm₁, locs, cells, slots⟩ (Value.ref b :: argsL).toArray v B ∧
      ∀ target, Steps p.tables e below (B.U.setTop { g with pc := g.pc + 3, stack := v.toList ++ rest }) target → Steps p.tables e below (T.setTop g) target) ∨
    (∃ (q : Addr) (vm₁ : Vm) (B : Pt), s.WarmedH vm₁ ∧ Stand p l e R s m args below meth c B.U B.locs B.cells B.slots ∧ PostX ⟨T.setVm vm₁, locs, cells, slots⟩ (Value.ref b :: argsL).toArray q B ∧
      Steps p.tables e below (T.setTop g) ((B.U.setTop { g with stack := rest }).pushFrame (.throwing q))) := by
  obtain ⟨mk, methM, hnamed, hmethM, hstM, habM⟩ := Cond.instanceMethod_spec hinst
  obtain ⟨m8, methM', cM, hn8, hmethM', -, -, -, -, -, -, hsigM⟩ := Cond.codeWith_spec hcode
  cases Option.some.inj (hn8.symm.trans hnamed)
  cases hmethM.symm.trans hmethM'
  obtain ⟨c2, r2, m2, q1, q2, q3, q4, kP, hkP, hkPi⟩ := Cond.selects_spec hsel
  cases hcls.symm.trans q1
  cases (State.methodFound?_of_named hnamed hy).symm.trans q2
  cases hnamed.symm.trans q3
  have hselP : selectMethod e.platform s.vm cellB.cls mk = .method mk := by rw [Launch.admits_selectMethod X.admits]; exact q4
  obtain ⟨vm₁, X₁, hstep₁⟩ := X.invokevirtual hexec hown hlink hnamed hmethM hstM hkP hkPi hy (a := b) (cell := cellB) hcell
    (fun z h => by rw [h] at hobj; cases hobj) hselP hmethM habM hkP hkPi (g := g) hg (argsL := argsL) (rest := rest) (hlen _ hsigM) hstack hdg
  rcases hK m meth c ⟨T.setVm vm₁, locs, cells, slots⟩ { g with stack := rest } (.invokevirtual index) mk (Value.ref b :: argsL).toArray X₁ hg hsize hdg hW (X₁.named hnamed) (hpre vm₁ X₁.warmed) with ⟨v, B, X', hpost, hsteps⟩ | ⟨q, B, X', hpost, hsteps⟩
  · exact Or.inl ⟨v, vm₁, B, X₁.warmed, X', hpost, fun target h => hstep₁ _ fun acts => by rw [doInvoke_state]; exact hsteps.trans h⟩
  · exact Or.inr ⟨q, vm₁, B, X₁.warmed, X', hpost, hstep₁ _ fun acts => by rw [doInvoke_state]; exact hsteps⟩
theorem vx_callSX (X : Stand p l e R s m args below meth c T locs cells slots) (hexec : p.tables.exec = Jvm.exec) {own : String} {index : Nat} {y : MethodName} {bytes : ByteArray} {maxL : Nat} {ret : Option FieldType} {hh : List (Nat × Nat × Nat × Nat)}
    (hown : s.vm.findClass own = some m.cls) (hlink : (Cond.methodLink own index y).before args s = true) (hstat : (Cond.static y).before args s = true) (hinit : (Cond.initialized y.cls).before args s = true)
    (hcode : (Cond.codeWith y bytes maxL ret hh).before args s = true) (hy : y.cls ≠ "java/lang/invoke/MethodHandle" ∧ y.cls ≠ "java/lang/invoke/VarHandle")
    {W9 : Nat} {Pre : Pt → Array Value → Prop} {Post : Pt → Array Value → Option Value → Pt → Prop} {PostX : Pt → Array Value → Addr → Pt → Prop} (hK : vx_Back l R p e below s args y 3 W9 Pre Post PostX)
    {g : JFrame} (hg : g.method = m) (hsize : g.locals.size = c.maxLocals) {argsL rest : List Value} (hlen : ∀ sig, parseMethodDescriptor y.desc = some sig → argsL.length = sig.parameters.length)
    (hstack : g.stack = argsL.reverse ++ rest) (hW : 2 * g.monitorRoom + (rest.map fun v => v.category).sum ≤ W9) (hdg : decode c.code g.pc = .ok (.invokestatic index, 3))
    (hpre : ∀ vm₁, s.WarmedH vm₁ → Pre ⟨T.setVm vm₁, locs, cells, slots⟩ argsL.toArray) :
    (∃ (v : Option Value) (vm₁ : Vm) (B : Pt), s.WarmedH vm₁ ∧ Stand p l e R s m args below meth c B.U B.locs B.cells B.slots ∧ Post ⟨T.setVm vm₁, locs, cells, slots⟩ argsL.toArray v B ∧
      ∀ target, Steps p.tables e below (B.U.setTop { g with pc := g.pc + 3, stack := v.toList ++ rest }) target → Steps p.tables e below (T.setTop g) target) ∨
    (∃ (q : Addr) (vm₁ : Vm) (B : Pt), s.WarmedH vm₁ ∧ Stand p l e R s m args below meth c B.U B.locs B.cells B.slots ∧ PostX ⟨T.setVm vm₁, locs, cells, slots⟩ argsL.toArray q B ∧
      Steps p.tables e below (T.setTop g) ((B.U.setTop { g with stack := rest }).pushFrame (.throwing q))) := by
  obtain ⟨mk, methM, cM, hnamed, hmethM, -, -, -, -, -, -, hsigM⟩ := Cond.codeWith_spec hcode
  have hstatic : methM.isStatic = true := Cond.static_spec hnamed hmethM hstat
  obtain ⟨kP, hkP, -⟩ := className_of_methodNamed hnamed
  have hinitP : kP.init = .initialized := Cond.initialized_spec (findClass_of_methodNamed hnamed) hkP hinit
  obtain ⟨vm₁, X₁, hstep₁⟩ := X.invokestatic hexec hown hlink hnamed hmethM hstatic hkP hinitP hy (g := g) hg (argsL := argsL) (rest := rest) (hlen _ hsigM) hstack hdg
  rcases hK m meth c ⟨T.setVm vm₁, locs, cells, slots⟩ { g with stack := rest } (.invokestatic index) mk argsL.toArray X₁ hg hsize hdg hW (X₁.named hnamed) (hpre vm₁ X₁.warmed) with ⟨v, B, X', hpost, hsteps⟩ | ⟨q, B, X', hpost, hsteps⟩
  · exact Or.inl ⟨v, vm₁, B, X₁.warmed, X', hpost, fun target h => hstep₁ _ fun acts => by rw [doInvoke_state]; exact hsteps.trans h⟩
  · exact Or.inr ⟨q, vm₁, B, X₁.warmed, X', hpost, hstep₁ _ fun acts => by rw [doInvoke_state]; exact hsteps⟩
theorem vx_callVW (X : Stand p l e R s m args below meth c T locs cells slots) (hexec : p.tables.exec = Jvm.exec) {own C : String} {index : Nat} {y : MethodName} {bytes : ByteArray} {maxL : Nat} {ret : Option FieldType} {hh : List (Nat × Nat × Nat × Nat)}
    (hown : s.vm.findClass own = some m.cls) (hlink : (Cond.methodLink own index y).before args s = true) (hinst : (Cond.instanceMethod y).before args s = true) (hsel : (Cond.selects C y y).before args s = true)
    (hcode : (Cond.codeWith y bytes maxL ret hh).before args s = true) (hy : y.cls ≠ "java/lang/invoke/MethodHandle" ∧ y.cls ≠ "java/lang/invoke/VarHandle")
    {W9 : Nat} {Pre : Pt → Array Value → Prop} {Post : Pt → Array Value → Option Value → Pt → Prop} (hK : Back l R p e below s args y 3 W9 Pre Post)
    {b : Addr} {cellB : Cell} (hcell : T.heap[b]? = some cellB) (hobj : cellB.vm.isStatics = false) (hcls : s.vm.findClass C = some cellB.cls)
    {g : JFrame} (hg : g.method = m) (hsize : g.locals.size = c.maxLocals) {argsL rest : List Value} (hlen : ∀ sig, parseMethodDescriptor y.desc = some sig → argsL.length = sig.parameters.length)
    (hstack : g.stack = argsL.reverse ++ .ref b :: rest) (hW : 2 * g.monitorRoom + (rest.map fun v => v.category).sum ≤ W9) (hdg : decode c.code g.pc = .ok (.invokevirtual index, 3))
    (hpre : ∀ vm₁, s.WarmedH vm₁ → Pre ⟨T.setVm vm₁, locs, cells, slots⟩ (Value.ref b :: argsL).toArray) :
    ∃ (v : Option Value) (vm₁ : Vm) (B : Pt), s.WarmedH vm₁ ∧ Stand p l e R s m args below meth c B.U B.locs B.cells B.slots ∧ Post ⟨T.setVm vm₁, locs, cells, slots⟩ (Value.ref b :: argsL).toArray v B ∧
      ∀ target, Steps p.tables e below (B.U.setTop { g with pc := g.pc + 3, stack := v.toList ++ rest }) target → Steps p.tables e below (T.setTop g) target := by
  obtain ⟨mk, methM, hnamed, hmethM, hstM, habM⟩ := Cond.instanceMethod_spec hinst
  obtain ⟨m8, methM', cM, hn8, hmethM', -, -, -, -, -, -, hsigM⟩ := Cond.codeWith_spec hcode
  cases Option.some.inj (hn8.symm.trans hnamed)
  cases hmethM.symm.trans hmethM'
  obtain ⟨c2, r2, m2, q1, q2, q3, q4, kP, hkP, hkPi⟩ := Cond.selects_spec hsel
  cases hcls.symm.trans q1
  cases (State.methodFound?_of_named hnamed hy).symm.trans q2
  cases hnamed.symm.trans q3
  have hselP : selectMethod e.platform s.vm cellB.cls mk = .method mk := by rw [Launch.admits_selectMethod X.admits]; exact q4
  obtain ⟨vm₁, X₁, hstep₁⟩ := X.invokevirtual hexec hown hlink hnamed hmethM hstM hkP hkPi hy (a := b) (cell := cellB) hcell
    (fun z h => by rw [h] at hobj; cases hobj) hselP hmethM habM hkP hkPi (g := g) hg (argsL := argsL) (rest := rest) (hlen _ hsigM) hstack hdg
  obtain ⟨v, B, X', hpost, hsteps⟩ := hK m meth c ⟨T.setVm vm₁, locs, cells, slots⟩ { g with stack := rest } (.invokevirtual index) mk (Value.ref b :: argsL).toArray X₁ hg hsize hdg hW (X₁.named hnamed) (hpre vm₁ X₁.warmed)
  exact ⟨v, vm₁, B, X₁.warmed, X', hpost, fun target h => hstep₁ _ fun acts => by rw [doInvoke_state]; exact hsteps.trans h⟩
abbrev vx_CVW (R : Room) (s : State) (args : Array Value) (own C : String) (index : Nat) (y : MethodName) (bytes : ByteArray) (maxL : Nat) (ret : Option FieldType) (hh : List (Nat × Nat × Nat × Nat)) (ws : List Cond) (rm : Room) (mc ms n : Nat) : Prop :=
  (rm.cells = mc ∧ rm.slots = ms ∧ rm.frames + 1 ≤ R.frames ∧ 8 + (maxL + 11) + rm.locals ≤ R.locals ∧ (∀ w ∈ ws, ∀ (a' : Array Value) (U : State), s.WarmedH U.vm → w.before a' U = true) ∧ Cond.codeWith y bytes maxL ret hh ∈ ws) ∧
  (Cond.codeWith y bytes maxL ret hh).before args s = true ∧ (Cond.initialized y.cls).before args s = true ∧ (y.cls ≠ "java/lang/invoke/MethodHandle" ∧ y.cls ≠ "java/lang/invoke/VarHandle") ∧
  (∀ sig, parseMethodDescriptor y.desc = some sig → n = sig.parameters.length) ∧ (Cond.methodLink own index y).before args s = true ∧ (Cond.instanceMethod y).before args s = true ∧ (Cond.selects C y y).before args s = true
theorem vx_cwVW {own C : String} {index maxL mc ms : Nat} {y : MethodName} {bytes : ByteArray} {ret : Option FieldType} {hh : List (Nat × Nat × Nat × Nat)} {Ts ws ws' : List Cond} {rm : Room} (n : Nat) (ht : ∀ w ∈ Ts, w.before args s = true) (hT : GoodIn Ts (wsV own index C y ws)) (hw : ws = Cond.codeWith y bytes maxL ret hh :: ws') (hrc : rm.cells = mc) (hrs : rm.slots = ms)
    (hd : y.cls = C ∧ y.cls ≠ "java/lang/invoke/MethodHandle" ∧ y.cls ≠ "java/lang/invoke/VarHandle" ∧ (parseMethodDescriptor y.desc).map (fun d => d.parameters.length) = some n) (hR : rm.frames + 1 ≤ R.frames ∧ 8 + (maxL + 11) + rm.locals ≤ R.locals) :
    vx_CVW R s args own C index y bytes maxL ret hh ws rm mc ms n := by
  obtain ⟨hC, hd⟩ := hd
  subst hC
  have ok : ∀ w ∈ wsV own index y.cls y ws, w.before args s = true := fun w h => ht w (hT w h).1
  have hG : GoodIn Ts ws := fun w h => hT w (by unfold wsV; exact List.mem_append_right _ h)
  have hc : Cond.codeWith y bytes maxL ret hh ∈ ws := by rw [hw]; exact List.mem_cons_self
  refine ⟨⟨hrc, hrs, hR.1, hR.2, pay_in ht hG, hc⟩, ht _ (hG _ hc).1, ok _ (by simp [wsV]), ⟨hd.1, hd.2.1⟩, fun sig h => ?_, ok _ (by simp [wsV]), ok _ (by simp [wsV]), ok _ (by simp [wsV])⟩
  have h2 := hd.2.2
  rw [h] at h2
  exact (Option.some.inj h2).symm
theorem vx_runVW {y : MethodName} {bytes cc : ByteArray} {maxL nL mc ms n index : Nat} {ret : Option FieldType} {hh : List (Nat × Nat × Nat × Nat)} {ws : List Cond} {rm : Room} {Pc : Array Value → State → Prop} {Qc : Array Value → State → Outcome → State → Prop} {free : Addr → Prop} {Ts : List Cond} {own C : String} {b : Addr} {As rest : List Value} {g : JFrame}
    (S : CallFix p m c cc nL s args Ts own) (hM : Met l y ws rm Pc Qc mc ms free) (cw : vx_CVW R s args own C index y bytes maxL ret hh ws rm mc ms n) (hp : PreV s H C b Pc As)
    (hg : g.method = m) (hn : As.length = n) (hsize : g.locals.size = nL) (hstack : g.stack = As.reverse ++ .ref b :: rest) (hW : 2 * g.monitorRoom + (rest.map fun v => v.category).sum ≤ 8) (hdg : decode cc g.pc = .ok (.invokevirtual index, 3)) (hf : cells + mc ≤ R.cells ∧ slots + ms ≤ R.slots) :
    va_Run p l e R s m args below meth c H locs cells slots mc ms g rest (Qc (Value.ref b :: As).toArray) free := by
  obtain ⟨⟨hrc, hrs, hfr, hlo, hws, hcw⟩, hcode, hini, hy, hlen, hl, hin, hse⟩ := cw
  have hK : Back l R p e below s args y 3 8 (PreOf R mc ms Pc) (PostOf Qc mc ms free) := va_backW (hh := hh) (bytes := bytes) (maxL := maxL) (ret := ret) hM hp.1 hrc hrs hfr hlo hws hcw (fun a' U hW => word_at hW (Or.inl (by first | rfl | simp [Cond.onTables, Cond.keeps, Cond.steady])) hini)
  obtain ⟨hx, hb, hml, ho, -⟩ := S
  obtain ⟨-, ⟨cellB, hcB, hoB, hclB⟩, hPc⟩ := hp
  intro T hT X
  obtain ⟨v, vm₁, ⟨U', l2, c2, s2⟩, hW₁, X', ⟨g', mk, t, L, e1, e2, hq, h1, hL, h2, h3⟩, st⟩ := vx_callVW X hx (C := C) (hh := hh) (bytes := bytes) (maxL := maxL) (ret := ret) ho hl hin hse hcode hy hK (by rw [hT]; exact hcB) hoB hclB hg (hsize.trans hml.symm) (argsL := As) (rest := rest) (fun sig h => hn.trans (hlen sig h)) hstack hW (by rw [hb]; exact hdg)
    (fun vm₁ hW₁ => ⟨hf.1, hf.2, hPc (T.setVm vm₁) hT hW₁⟩)
  dsimp only [Pt.U, Pt.locs, Pt.cells, Pt.slots] at X' e1 e2 h1 h2 h3 st
  subst h1; subst h2; subst h3
  exact ⟨v, (T.setVm vm₁).calling g' mk (Value.ref b :: As).toArray, t, U', L, hT, X', hL, e1, e2, hq, st⟩
section
variable {y : MethodName} {bytes cc : ByteArray} {maxL nL mc ms n index : Nat} {ret : Option FieldType} {ws : List Cond} {rm : Room} {Pc : Array Value → State → Prop} {Qc : Array Value → State → Outcome → State → Prop} {XC : String → State → State → Prop} {free : Addr → Prop} {Ts : List Cond} {own C : String} {b : Addr} {As rest : List Value} {g : JFrame}
theorem vx_runVX {hh : List (Nat × Nat × Nat × Nat)} (S : CallFix p m c cc nL s args Ts own) (hM : vx_Met l y ws rm Pc Qc XC mc ms free) (cw : vx_CVW R s args own C index y bytes maxL ret hh ws rm mc ms n) (hp : PreV s H C b Pc As)
    (hg : g.method = m) (hn : As.length = n) (hsize : g.locals.size = nL) (hstack : g.stack = As.reverse ++ .ref b :: rest) (hW : 2 * g.monitorRoom + (rest.map fun v => v.category).sum ≤ 8) (hdg : decode cc g.pc = .ok (.invokevirtual index, 3)) (hf : cells + mc ≤ R.cells ∧ slots + ms ≤ R.slots) :
    vx_Run p l e R s m args below meth c H locs cells slots mc ms g rest (Qc (Value.ref b :: As).toArray) XC free := by
  obtain ⟨⟨hrc, hrs, hfr, hlo, hws, hcw⟩, hcode, hini, hy, hlen, hl, hin, hse⟩ := cw
  have hK : vx_Back l R p e below s args y 3 8 (PreOf R mc ms Pc) (PostOf Qc mc ms free) (vx_Post XC mc ms free) := vx_backW (hh := hh) (bytes := bytes) (maxL := maxL) (ret := ret) hM hp.1 hrc hrs hfr hlo hws hcw (fun a' U hW => word_at hW (Or.inl (by first | rfl | simp [Cond.onTables, Cond.keeps, Cond.steady])) hini)
  obtain ⟨hx, hb, hml, ho, -⟩ := S
  obtain ⟨-, ⟨cellB, hcB, hoB, hclB⟩, hPc⟩ := hp
  intro T hT X
  rcases vx_callVX X hx (C := C) (hh := hh) (bytes := bytes) (maxL := maxL) (ret := ret) ho hl hin hse hcode hy hK (by rw [hT]; exact hcB) hoB hclB hg (hsize.trans hml.symm) (argsL := As) (rest := rest) (fun sig h => hn.trans (hlen sig h)) hstack hW (by rw [hb]; exact hdg)
    (fun vm₁ hW₁ => ⟨hf.1, hf.2, hPc (T.setVm vm₁) hT hW₁⟩) with ⟨v, vm₁, ⟨U', l2, c2, s2⟩, hW₁, X', ⟨g', mk, t, L, e1, e2, hq, h1, hL, h2, h3⟩, st⟩ | ⟨q, vm₁, ⟨U', l2, c2, s2⟩, hW₁, X', ⟨g', mk, t, L, E, ce, e1, e2, hq, hce, hcv, hcl, h1, hL, h2, h3⟩, st⟩
  · dsimp only [Pt.U, Pt.locs, Pt.cells, Pt.slots] at X' e1 e2 h1 h2 h3 st
    subst h1; subst h2; subst h3
    exact Or.inl ⟨v, (T.setVm vm₁).calling g' mk (Value.ref b :: As).toArray, t, U', L, hT, X', hL, e1, e2, hq, st⟩
  · dsimp only [Pt.U, Pt.locs, Pt.cells, Pt.slots] at X' e1 e2 h1 h2 h3 st hcl
    subst h1; subst h2; subst h3
    exact Or.inr ⟨q, (T.setVm vm₁).calling g' mk (Value.ref b :: As).toArray, t, U', L, E, ce, hT, X', hL, e1, e2, hq, hce, hcv, vx_cls hW₁ hcl, st⟩
theorem vx_runSX {hh : List (Nat × Nat × Nat × Nat)} (S : CallFix p m c cc nL s args Ts own) (hM : vx_Met l y ws rm Pc Qc XC mc ms free) (cw : vx_CSW R s args own index y bytes maxL ret hh ws rm mc ms n) (hp : PreS s H Pc As)
    (hg : g.method = m) (hn : As.length = n) (hsize : g.locals.size = nL) (hstack : g.stack = As.reverse ++ rest) (hW : 2 * g.monitorRoom + (rest.map fun v => v.category).sum ≤ 8) (hdg : decode cc g.pc = .ok (.invokestatic index, 3)) (hf : cells + mc ≤ R.cells ∧ slots + ms ≤ R.slots) :
    vx_Run p l e R s m args below meth c H locs cells slots mc ms g rest (Qc As.toArray) XC free := by
  obtain ⟨⟨hrc, hrs, hfr, hlo, hws, hcw⟩, hcode, hini, hy, hlen, hl, hstt⟩ := cw
  have hK : vx_Back l R p e below s args y 3 8 (PreOf R mc ms Pc) (PostOf Qc mc ms free) (vx_Post XC mc ms free) := vx_backW (hh := hh) (bytes := bytes) (maxL := maxL) (ret := ret) hM hp.1 hrc hrs hfr hlo hws hcw (fun a' U hW => word_at hW (Or.inl (by first | rfl | simp [Cond.onTables, Cond.keeps, Cond.steady])) hini)
  obtain ⟨hx, hb, hml, ho, -⟩ := S
  intro T hT X
  rcases vx_callSX X hx (hh := hh) (bytes := bytes) (maxL := maxL) (ret := ret) ho hl hstt hini hcode hy hK hg (hsize.trans hml.symm) (argsL := As) (rest := rest) (fun sig h => hn.trans (hlen sig h)) hstack hW (by rw [hb]; exact hdg)
    (fun vm₁ hW₁ => ⟨hf.1, hf.2, hp.2 (T.setVm vm₁) hT hW₁⟩) with ⟨v, vm₁, ⟨U', l2, c2, s2⟩, hW₁, X', ⟨g', mk, t, L, e1, e2, hq, h1, hL, h2, h3⟩, st⟩ | ⟨q, vm₁, ⟨U', l2, c2, s2⟩, hW₁, X', ⟨g', mk, t, L, E, ce, e1, e2, hq, hce, hcv, hcl, h1, hL, h2, h3⟩, st⟩
  · dsimp only [Pt.U, Pt.locs, Pt.cells, Pt.slots] at X' e1 e2 h1 h2 h3 st
    subst h1; subst h2; subst h3
    exact Or.inl ⟨v, (T.setVm vm₁).calling g' mk As.toArray, t, U', L, hT, X', hL, e1, e2, hq, st⟩
  · dsimp only [Pt.U, Pt.locs, Pt.cells, Pt.slots] at X' e1 e2 h1 h2 h3 st hcl
    subst h1; subst h2; subst h3
    exact Or.inr ⟨q, (T.setVm vm₁).calling g' mk As.toArray, t, U', L, E, ce, hT, X', hL, e1, e2, hq, hce, hcv, vx_cls hW₁ hcl, st⟩
end
end VXH
theorem vx_ofWH {l : Launch} {y : MethodName} {ws ws' : List Cond} {rm : Room} {Pc : Array Value → State → Prop} {Qc : Array Value → State → Outcome → State → Prop} {XC : String → State → State → Prop} {mc ms : Nat} {free : Addr → Prop} {cc : ByteArray} {maxL : Nat} {ret : Option FieldType} {hh : List (Nat × Nat × Nat × Nat)}
    (hy : plainName y.cls = true) (hw : ws = Cond.codeWith y cc maxL ret hh :: ws')
    (body : ∀ p e s m args below meth c s₁, BodyLoose p l y (headSpec ws rm) cc maxL ret e s m args below meth c s₁ → c.maxLocals = maxL → Pc args s →
      W p l e (headSpec ws rm).room s m args below meth c s.heap [] 0 0 (vx_MQ below Qc XC args s mc ms free) (entryFrame m args maxL)) : vx_Met l y ws rm Pc Qc XC mc ms free := by
  refine MetFree.of_bodyS (code := cc) (maxLocals := maxL) (ret := ret) hy ?_ ?_
  · intro args s m h hn
    obtain ⟨m9, meth, c, hn9, h1, h2, h3, h4, -, h5, h6, -⟩ := Cond.codeWith_spec (atoms_spec (ws := ws) h _ (by rw [hw]; exact List.mem_cons_self))
    cases hn.symm.trans hn9
    exact ⟨meth, c, h1, h2, h3, h4, h5, h6⟩
  · intro p e s m args below meth c s₁ B hml hP _
    have hh0 : s₁.heap = s.heap := by rw [B.state]; rfl
    obtain ⟨t, a1, o, b1, b2, b3⟩ := body p e s m args below meth c s₁ B hml hP s₁ hh0 (Stand.of_body B)
    exact ⟨t, o, a1, b1, b2, b3⟩
/-! ===== END ===== -/
end
section
/-! CONTRACTS of methods that may throw: the answer is .inl r, or .inr k for the exception number k -/
def g_xn : Nat → String
  | 0 => "java/lang/IndexOutOfBoundsException"
  | 1 => "java/lang/IllegalArgumentException"
  | _ => "java/lang/IllegalStateException"
/-- the words that a throw needs and that are no tables' words: they are handed on from call to call -/
def gxw : List Cond := [.declares (Bundle.init0 "java/lang/RuntimeException"), .declares (Bundle.init0 "java/lang/Exception"), .declares (Bundle.init0 "java/lang/Throwable"), .castable (g_xn 0) (g_xn 0), .castable (g_xn 1) (g_xn 1), .castable (g_xn 2) (g_xn 2)]
def gX (U : State) : Prop := ∀ w ∈ gxw, va_Nw w U
theorem gX_tab : ∀ w ∈ gxw, w.onTables = true := by decide +kernel
theorem gX.same {u U : State} (h : gX u) (hv : u.vm = U.vm) : gX U := fun w hw => va_Nw.same (gX_tab w hw) hv (h w hw)
theorem gX.warm {u U : State} (h : gX u) (hW : u.WarmedH U.vm) : gX U := by
  have h := h
  unfold gX gxw at h ⊢
  simp only [List.forall_mem_cons, List.not_mem_nil, false_implies, implies_true, and_true] at h ⊢
  obtain ⟨h1, h2, h3, h4, h5, h6⟩ := h
  exact ⟨va_Nw.warmD hW h1, va_Nw.warmD hW h2, va_Nw.warmD hW h3, va_Nw.warmC hW h4, va_Nw.warmC hW h5, va_Nw.warmC hW h6⟩
/-- the two statics of Throwable, outside A -/
def gZ (A : Nat → Prop) (U : State) (H : Heap) : Prop := vx_Zq Bundle.tN "UNASSIGNED_STACK" Bundle.steD A U H ∧ vx_Zq Bundle.tN "SUPPRESSED_SENTINEL" Bundle.listD A U H
def g_rmx (d k n : Nat) : Room := { frames := d, cells := k, slots := n, locals := 40 * d }
def g_preX (D : va_G) (g : gT) (N : Nat) (ad ln : Nat → Nat) (A : gM) (sz : Nat) (av : List gV) : Array Value → State → Prop :=
  va_Pc (av.map (g_v ad)) (fun U => U.heap.size = sz ∧ va_P D vwCl (gw g ad ln A N) U.heap ∧ va_K D vwCl (g_tys g) U ∧ va_D (fun _ => True) (gw g ad ln A N) ∧ gX U ∧ gZ (va_A (gw g ad ln A N) sz) U U.heap)
theorem g_blindX {D : va_G} {g : gT} {N : Nat} {ad ln : Nat → Nat} {A : gM} {sz : Nat} {av : List gV} : FrameBlind (g_preX D g N ad ln A sz av) := fun a U q mk h => by
  obtain ⟨q0, q1, qP, qK, qD, qX, qZ1, qZ2⟩ := h
  exact ⟨q0, q1, qP, va_K.moved (u := U) (U := U.calling q mk a) (Vm.Alike.refl U.vm) qK, qD, qX.same rfl, vx_Zq.moved (u := U) (U := U.calling q mk a) (Vm.Alike.refl U.vm) qZ1, vx_Zq.moved (u := U) (U := U.calling q mk a) (Vm.Alike.refl U.vm) qZ2⟩
def g_XC (D : va_G) (g : gT) (N : Nat) (ad ln : Nat → Nat) (A : gM) (sz : Nat) (A' : gM) (res : Int32 ⊕ Nat) : String → State → State → Prop :=
  vx_X (S := Unit) (fun _ => True) (fun E _ t => ∃ k, res = .inr k ∧ E = g_xn k ∧ g_B D g N ad ln A A' sz t) (va_A (gw g ad ln A N) sz)
def g_QXi (D : va_G) (g : gT) (N : Nat) (ad ln : Nat → Nat) (A : gM) (sz : Nat) (A' : gM) (res : Int32 ⊕ Nat) : Array Value → State → Outcome → State → Prop :=
  va_Qi (S := Unit) (fun x _ => res = .inl x) (fun _ t => g_B D g N ad ln A A' sz t) (va_A (gw g ad ln A N) sz)
def g_QXv (D : va_G) (g : gT) (N : Nat) (ad ln : Nat → Nat) (A : gM) (sz : Nat) (A' : gM) (res : Int32 ⊕ Nat) : Array Value → State → Outcome → State → Prop :=
  va_Qv (S := Unit) (fun _ => res = .inl 0) (fun _ t => g_B D g N ad ln A A' sz t) (va_A (gw g ad ln A N) sz)
def gXi (l : Launch) (y : MethodName) (b : ByteArray) (nl : Nat) (rt : Option FieldType) (d cc : Nat) (D : va_G) (g : gT) (N : Nat) (ad ln : Nat → Nat) (A : gM) (av : List gV) (A' : gM) (res : Int32 ⊕ Nat) : Prop :=
  ∀ sz, vx_Met l y (g_ws y b nl rt) (g_rmx d cc (6 * cc)) (g_preX D g N ad ln A sz av) (g_QXi D g N ad ln A sz A' res) (g_XC D g N ad ln A sz A' res) cc (6 * cc) (va_A (gw g ad ln A N) sz)
def gXv (l : Launch) (y : MethodName) (b : ByteArray) (nl : Nat) (rt : Option FieldType) (d cc : Nat) (D : va_G) (g : gT) (N : Nat) (ad ln : Nat → Nat) (A : gM) (av : List gV) (A' : gM) (res : Int32 ⊕ Nat) : Prop :=
  ∀ sz, vx_Met l y (g_ws y b nl rt) (g_rmx d cc (6 * cc)) (g_preX D g N ad ln A sz av) (g_QXv D g N ad ln A sz A' res) (g_XC D g N ad ln A sz A' res) cc (6 * cc) (va_A (gw g ad ln A N) sz)
/-- the result of a call that may throw goes on only where it answers -/
def g_tr {β : Type} (q : gM × (Int32 ⊕ Nat)) (f : Int32 → Option (gM × (β ⊕ Nat))) : Option (gM × (β ⊕ Nat)) := match q.2 with
  | .inl r => f r
  | .inr k => some (q.1, .inr k)
theorem g_trx {β : Type} {q : gM × (Int32 ⊕ Nat)} {f : Int32 → Option (gM × (β ⊕ Nat))} {A' : gM} {res : β ⊕ Nat} {k : Nat} (h : g_tr q f = some (A', res)) (hk : q.2 = .inr k) : q.1 = A' ∧ res = .inr k := by
  unfold g_tr at h
  rw [hk] at h
  have := Option.some.inj h
  exact ⟨(Prod.mk.inj this).1, (Prod.mk.inj this).2.symm⟩
theorem g_trr {β : Type} {q : gM × (Int32 ⊕ Nat)} {f : Int32 → Option (gM × (β ⊕ Nat))} {x : gM × (β ⊕ Nat)} {r : Int32} (h : g_tr q f = some x) (hk : q.2 = .inl r) : f r = some x := by
  unfold g_tr at h
  rw [hk] at h
  exact h
section GX
variable {p : Program} {l : Launch} {e : Env} {R : Room} {s : State} {m : MethodId} {args : Array Value} {below : List Frame} {meth : Method} {c : Code} {Q : State → Prop} {nL : Nat} {D : va_G} {g : gT} {As : Nat → Prop} {N : Nat} {ad ln : Nat → Nat} {A A' A1 A0 : gM} {loc loc' : List (Nat × gV)} {k n pc : Nat} {st : List gV} {cc : ByteArray} {own : String} {d mc : Nat}
/-- what stays besides, in a method that may throw -/
def gCX (l : Launch) (s : State) (c : Code) (As : Nat → Prop) : Prop := l.stackTraces = false ∧ gX s ∧ gZ As s s.heap ∧ ∀ x ∈ c.exceptionTable.toList, False
theorem g_widen {k2 n2 : Nat} (h1 : k ≤ k2) (h2 : n ≤ n2) (kk : gJ p l e R s m args below meth c Q nL D g As N ad ln A loc k2 n2 pc st) : gJ p l e R s m args below meth c Q nL D g As N ad ln A loc k n pc st := fun H locs ls hP hD hS hl => W.widen (k := k2) (n := n2) h1 h2 (kk H locs ls hP hD hS hl)
theorem g_zNow {H : Heap} {locs : List Loc} {U : State} (hC : gZ As s s.heap) (hA : ∀ q : Nat, s.heap.size ≤ q → As q) (hD : va_D As (gw g ad ln A N)) (hS : va_S As s.heap H locs) (hW : s.vm.Alike U.vm) : gZ (va_A (gw g ad ln A N) H.size) U H := by
  have hF := g_frees hD hS hA
  exact ⟨((hC.1.kept (fun a h1 h2 => hS.2.1 a h1 h2)).narrow hF).moved hW, ((hC.2.kept (fun a h1 h2 => hS.2.1 a h1 h2)).narrow hF).moved hW⟩
/-- where a method that may throw must come -/
def gEXi (below : List Frame) (D : va_G) (g : gT) (N : Nat) (ad ln : Nat → Nat) (A A' : gM) (res : Int32 ⊕ Nat) (mc : Nat) (args : Array Value) (s : State) : State → Prop := vx_MQ below (g_QXi D g N ad ln A s.heap.size A' res) (g_XC D g N ad ln A s.heap.size A' res) args s mc (6 * mc) (va_A (gw g ad ln A N) s.heap.size)
theorem g_metXi {y : MethodName} {b : ByteArray} {nl : Nat} {rt : Option FieldType} {av : List gV} {res : Int32 ⊕ Nat} (hl : l.stackTraces = false) (hpl : plainName y.cls = true) (hlen : (av.map g_cat).foldr (fun c n => (if c = 2 then 2 else 1) + n) 0 ≤ nl)
    (body : ∀ (p : Program) (e : Env) (s : State) (m : MethodId) (args : Array Value) (below : List Frame) (meth : Method) (c : Code), gC p (g_rmx d mc (6 * mc)) s m args meth c b y.cls nl D g (va_A (gw g ad ln A N) s.heap.size) d → gCX l s c (va_A (gw g ad ln A N) s.heap.size) → meth.sig.returnType = rt → gJ p l e (g_rmx d mc (6 * mc)) s m args below meth c (gEXi below D g N ad ln A A' res mc args s) nl D g (va_A (gw g ad ln A N) s.heap.size) N ad ln A (g_args 0 av) 0 0 0 []) : gXi l y b nl rt d mc D g N ad ln A av A' res := by
  intro sz
  refine vx_ofW (cc := b) (maxL := nl) (ret := rt) hpl rfl ?_
  intro p e s m args below meth c s₁ B hml hex hv
  obtain ⟨rfl, hsz, hP, hK, hD0, hX, hZ⟩ := hv
  subst hsz
  have hts := atoms_spec (ws := g_ws y b nl rt) B.pre
  have hown : s.vm.findClass y.cls = some m.cls := findClass_of_methodNamed B.named
  have hl2 := lv_entry (av.map (g_v ad)) (n := nl) (by rw [g_sl_len]; exact hlen)
  rw [lg_entry_eq]
  rw [g_args_map] at hl2
  exact body p e s m _ below meth c ⟨B.exec, B.bytes, hml, hown, fun w hw => hts w (List.mem_cons_of_mem _ hw), hK, fun q h => Or.inr h, B.notSynchronized, Nat.le_refl _, Nat.le_refl _⟩ ⟨hl, hX, hZ, hex⟩ B.returns s.heap [] _ hP hD0.self va_S.rf hl2
/-- where a method that may throw must come -/
def gEXv (below : List Frame) (D : va_G) (g : gT) (N : Nat) (ad ln : Nat → Nat) (A A' : gM) (res : Int32 ⊕ Nat) (mc : Nat) (args : Array Value) (s : State) : State → Prop := vx_MQ below (g_QXv D g N ad ln A s.heap.size A' res) (g_XC D g N ad ln A s.heap.size A' res) args s mc (6 * mc) (va_A (gw g ad ln A N) s.heap.size)
theorem g_metXv {y : MethodName} {b : ByteArray} {nl : Nat} {rt : Option FieldType} {av : List gV} {res : Int32 ⊕ Nat} (hl : l.stackTraces = false) (hpl : plainName y.cls = true) (hlen : (av.map g_cat).foldr (fun c n => (if c = 2 then 2 else 1) + n) 0 ≤ nl)
    (body : ∀ (p : Program) (e : Env) (s : State) (m : MethodId) (args : Array Value) (below : List Frame) (meth : Method) (c : Code), gC p (g_rmx d mc (6 * mc)) s m args meth c b y.cls nl D g (va_A (gw g ad ln A N) s.heap.size) d → gCX l s c (va_A (gw g ad ln A N) s.heap.size) → meth.sig.returnType = rt → gJ p l e (g_rmx d mc (6 * mc)) s m args below meth c (gEXv below D g N ad ln A A' res mc args s) nl D g (va_A (gw g ad ln A N) s.heap.size) N ad ln A (g_args 0 av) 0 0 0 []) : gXv l y b nl rt d mc D g N ad ln A av A' res := by
  intro sz
  refine vx_ofW (cc := b) (maxL := nl) (ret := rt) hpl rfl ?_
  intro p e s m args below meth c s₁ B hml hex hv
  obtain ⟨rfl, hsz, hP, hK, hD0, hX, hZ⟩ := hv
  subst hsz
  have hts := atoms_spec (ws := g_ws y b nl rt) B.pre
  have hown : s.vm.findClass y.cls = some m.cls := findClass_of_methodNamed B.named
  have hl2 := lv_entry (av.map (g_v ad)) (n := nl) (by rw [g_sl_len]; exact hlen)
  rw [lg_entry_eq]
  rw [g_args_map] at hl2
  exact body p e s m _ below meth c ⟨B.exec, B.bytes, hml, hown, fun w hw => hts w (List.mem_cons_of_mem _ hw), hK, fun q h => Or.inr h, B.notSynchronized, Nat.le_refl _, Nat.le_refl _⟩ ⟨hl, hX, hZ, hex⟩ B.returns s.heap [] _ hP hD0.self va_S.rf hl2
theorem g_retXi (C : gC p R s m args meth c cc own nL D g (va_A (gw g ad ln A N) s.heap.size) d) {r : Int32} {res : Int32 ⊕ Nat} (hres : res = .inl r) (hk : k ≤ mc) (hn : n ≤ 6 * mc) (hr : meth.sig.returnType = some .int) (hdg : decode cc pc = .ok (.ireturn, 1)) : gJ p l e R s m args below meth c (gEXi below D g N ad ln A A' res mc args s) nL D g (va_A (gw g ad ln A N) s.heap.size) N ad ln A' loc k n pc [gi r] := fun H locs ls hP hD hS hl => W.widen (k := mc) (n := 6 * mc) hk hn (vx_ret (W.iret (v := r) C.1 C.2.1 hr (fun t ht hW => ⟨⟨r, (), rfl, hres, by rw [ht]; exact hP, va_K.moved hW.alike C.2.2.2.2.2.1, hD⟩, hS.F ht⟩) hS.2.2 hdg C.2.2.2.2.2.2.2.1))
theorem g_retXv (C : gC p R s m args meth c cc own nL D g (va_A (gw g ad ln A N) s.heap.size) d) {res : Int32 ⊕ Nat} (hres : res = .inl 0) (hk : k ≤ mc) (hn : n ≤ 6 * mc) (hr : meth.sig.returnType = none) (hdg : decode cc pc = .ok (.return_, 1)) : gJ p l e R s m args below meth c (gEXv below D g N ad ln A A' res mc args s) nL D g (va_A (gw g ad ln A N) s.heap.size) N ad ln A' loc k n pc [] := fun H locs ls hP hD hS hl => W.widen (k := mc) (n := 6 * mc) hk hn (vx_ret (W.vret C.1 C.2.1 hr (fun t ht hW => ⟨⟨(), rfl, hres, by rw [ht]; exact hP, va_K.moved hW.alike C.2.2.2.2.2.1, hD⟩, hS.F ht⟩) hS.2.2 hdg C.2.2.2.2.2.2.2.1))
theorem g_retXz (C : gC p R s m args meth c cc own nL D g (va_A (gw g ad ln A N) s.heap.size) d) {r : Int32} {res : Int32 ⊕ Nat} (hres : res = .inl r) (hk : k ≤ mc) (hn : n ≤ 6 * mc) (hr : meth.sig.returnType = some .boolean) (hz : r = 0 ∨ r = 1) (hdg : decode cc pc = .ok (.ireturn, 1)) : gJ p l e R s m args below meth c (gEXi below D g N ad ln A A' res mc args s) nL D g (va_A (gw g ad ln A N) s.heap.size) N ad ln A' loc k n pc [gi r] := fun H locs ls hP hD hS hl => W.widen (k := mc) (n := 6 * mc) hk hn (vx_ret (W.zret (v := r) C.1 C.2.1 hr (by rcases hz with rfl | rfl <;> rfl) (fun t ht hW => ⟨⟨r, (), rfl, hres, by rw [ht]; exact hP, va_K.moved hW.alike C.2.2.2.2.2.1, hD⟩, hS.F ht⟩) hS.2.2 hdg C.2.2.2.2.2.2.2.1))
theorem g_calliXi (C : gC p R s m args meth c cc own nL D g (va_A (gw g ad ln A0 N) s.heap.size) d) (CX : gCX l s c (va_A (gw g ad ln A0 N) s.heap.size)) (i : Nat) (as : List gV) {st0 : List gV} {Cn : String} {ci ix np mL d' c1 : Nat} {z : MethodName} {b : ByteArray} {rt : Option FieldType} {fs : List Value} {T : u_T} {Nn : Nat} {res1 res : Int32 ⊕ Nat} (hM : gXi l z b mL rt d' c1 D g N ad ln A (gr i :: as) A1 res1) (hs : g_site own Cn ix z b mL rt np) (hd : d' + 1 ≤ d) (hi : i < N) (he : g_ce g ad (g_ln ln i) (A i) i = .inr (ci, fs)) (hc : vwCl[ci]? = some (Cn, T, Nn)) (hn : as.length = np) (hst : st0 = as.reverse ++ gr i :: st) (hcat : (st.map g_cat).sum ≤ 8) (hk1 : k + c1 ≤ R.cells ∧ n + 6 * c1 ≤ R.slots) (hkm : k + c1 ≤ mc ∧ n + 6 * c1 ≤ 6 * mc) (hdg : decode cc pc = .ok (.invokevirtual ix, 3)) (hx : ∀ k, res1 = .inr k → A1 = A' ∧ res = .inr k) (kk : ∀ r : Int32, res1 = .inl r → gJ p l e R s m args below meth c (gEXi below D g N ad ln A0 A' res mc args s) nL D g (va_A (gw g ad ln A0 N) s.heap.size) N ad ln A1 loc (k + c1) (n + 6 * c1) (pc + 3) (gi r :: st)) : gJ p l e R s m args below meth c (gEXi below D g N ad ln A0 A' res mc args s) nL D g (va_A (gw g ad ln A0 N) s.heap.size) N ad ln A loc k n pc st0 := by
  intro H locs ls hP hD hS hl
  have hF := g_frees hD hS C.2.2.2.2.2.2.1
  refine vx_calli (vx_runV (C := Cn) (b := ad i) (As := as.map (g_v ad)) (rest := st.map (g_v ad)) ⟨C.1, C.2.1, C.2.2.1, C.2.2.2.1, C.2.2.2.2.1⟩ (hM H.size) (cwV np C.2.2.2.2.1 (g_goodV hs) rfl rfl rfl hs.2.2.2.2.2.1 (g_room C.2.2.2.2.2.2.2.2 hd hs.2.2.2.2.2.2)) ⟨g_blindX, va_recv C.2.2.2.2.2.1 hP (q0 := i) hc (by rw [gw_at hi, he]), fun U hU hW => ⟨rfl, by rw [hU], by rw [hU]; exact hP, va_K.moved hW.alike C.2.2.2.2.2.1, hD.weaken (fun _ _ _ _ => trivial), CX.2.1.warm hW, by rw [hU]; exact g_zNow CX.2.2.1 C.2.2.2.2.2.2.1 hD hS hW.alike⟩⟩ rfl (by rw [List.length_map]; exact hn) hl.1 (by show st0.map (g_v ad) = _; rw [hst]; simp [g_v]) (g_lv hcat) hdg ⟨hk1.1, hk1.2⟩) hS (fun q _ h => hF q h) hF (fun q _ h => hF q h) (fun E ce q9 u t H1 locs1 ht hvm hw hB hz1 hk1 hS hce hcv hcl => ?_) (fun r u t H1 locs1 ht hvm hw hB hz1 hk1 hS => ?_)
  · obtain ⟨j, hj, rfl, hP1, hK1, hD1⟩ := hB
    obtain ⟨rfl, hres⟩ := hx j hj
    rw [ht] at hP1
    refine vx_out (E := g_xn j) (fun x hx => absurd (CX.2.2.2 x hx) id) C.2.2.2.2.2.2.2.1 hce hcv hcl (fun t2 ht2 hW2 => ⟨(), trivial, ⟨j, hres, rfl, by rw [ht2]; exact hP1, va_K.moved hW2 C.2.2.2.2.2.1, hD1.weaken (fun _ _ _ h => hF _ h)⟩, hS.F ht2⟩) hS.2.2 hkm.1 hkm.2
  · obtain ⟨hP1, hK1, hD1⟩ := hB
    rw [ht] at hP1
    exact kk r hw H1 locs1 ls hP1 (hD1.weaken (fun _ _ _ h => hF _ h)) hS hl
theorem g_calliXv (C : gC p R s m args meth c cc own nL D g (va_A (gw g ad ln A0 N) s.heap.size) d) (CX : gCX l s c (va_A (gw g ad ln A0 N) s.heap.size)) (i : Nat) (as : List gV) {st0 : List gV} {Cn : String} {ci ix np mL d' c1 : Nat} {z : MethodName} {b : ByteArray} {rt : Option FieldType} {fs : List Value} {T : u_T} {Nn : Nat} {res1 res : Int32 ⊕ Nat} (hM : gXi l z b mL rt d' c1 D g N ad ln A (gr i :: as) A1 res1) (hs : g_site own Cn ix z b mL rt np) (hd : d' + 1 ≤ d) (hi : i < N) (he : g_ce g ad (g_ln ln i) (A i) i = .inr (ci, fs)) (hc : vwCl[ci]? = some (Cn, T, Nn)) (hn : as.length = np) (hst : st0 = as.reverse ++ gr i :: st) (hcat : (st.map g_cat).sum ≤ 8) (hk1 : k + c1 ≤ R.cells ∧ n + 6 * c1 ≤ R.slots) (hkm : k + c1 ≤ mc ∧ n + 6 * c1 ≤ 6 * mc) (hdg : decode cc pc = .ok (.invokevirtual ix, 3)) (hx : ∀ k, res1 = .inr k → A1 = A' ∧ res = .inr k) (kk : ∀ r : Int32, res1 = .inl r → gJ p l e R s m args below meth c (gEXv below D g N ad ln A0 A' res mc args s) nL D g (va_A (gw g ad ln A0 N) s.heap.size) N ad ln A1 loc (k + c1) (n + 6 * c1) (pc + 3) (gi r :: st)) : gJ p l e R s m args below meth c (gEXv below D g N ad ln A0 A' res mc args s) nL D g (va_A (gw g ad ln A0 N) s.heap.size) N ad ln A loc k n pc st0 := by
  intro H locs ls hP hD hS hl
  have hF := g_frees hD hS C.2.2.2.2.2.2.1
  refine vx_calli (vx_runV (C := Cn) (b := ad i) (As := as.map (g_v ad)) (rest := st.map (g_v ad)) ⟨C.1, C.2.1, C.2.2.1, C.2.2.2.1, C.2.2.2.2.1⟩ (hM H.size) (cwV np C.2.2.2.2.1 (g_goodV hs) rfl rfl rfl hs.2.2.2.2.2.1 (g_room C.2.2.2.2.2.2.2.2 hd hs.2.2.2.2.2.2)) ⟨g_blindX, va_recv C.2.2.2.2.2.1 hP (q0 := i) hc (by rw [gw_at hi, he]), fun U hU hW => ⟨rfl, by rw [hU], by rw [hU]; exact hP, va_K.moved hW.alike C.2.2.2.2.2.1, hD.weaken (fun _ _ _ _ => trivial), CX.2.1.warm hW, by rw [hU]; exact g_zNow CX.2.2.1 C.2.2.2.2.2.2.1 hD hS hW.alike⟩⟩ rfl (by rw [List.length_map]; exact hn) hl.1 (by show st0.map (g_v ad) = _; rw [hst]; simp [g_v]) (g_lv hcat) hdg ⟨hk1.1, hk1.2⟩) hS (fun q _ h => hF q h) hF (fun q _ h => hF q h) (fun E ce q9 u t H1 locs1 ht hvm hw hB hz1 hk1 hS hce hcv hcl => ?_) (fun r u t H1 locs1 ht hvm hw hB hz1 hk1 hS => ?_)
  · obtain ⟨j, hj, rfl, hP1, hK1, hD1⟩ := hB
    obtain ⟨rfl, hres⟩ := hx j hj
    rw [ht] at hP1
    refine vx_out (E := g_xn j) (fun x hx => absurd (CX.2.2.2 x hx) id) C.2.2.2.2.2.2.2.1 hce hcv hcl (fun t2 ht2 hW2 => ⟨(), trivial, ⟨j, hres, rfl, by rw [ht2]; exact hP1, va_K.moved hW2 C.2.2.2.2.2.1, hD1.weaken (fun _ _ _ h => hF _ h)⟩, hS.F ht2⟩) hS.2.2 hkm.1 hkm.2
  · obtain ⟨hP1, hK1, hD1⟩ := hB
    rw [ht] at hP1
    exact kk r hw H1 locs1 ls hP1 (hD1.weaken (fun _ _ _ h => hF _ h)) hS hl
theorem g_callvXi (C : gC p R s m args meth c cc own nL D g (va_A (gw g ad ln A0 N) s.heap.size) d) (CX : gCX l s c (va_A (gw g ad ln A0 N) s.heap.size)) (i : Nat) (as : List gV) {st0 : List gV} {Cn : String} {ci ix np mL d' c1 : Nat} {z : MethodName} {b : ByteArray} {rt : Option FieldType} {fs : List Value} {T : u_T} {Nn : Nat} {res1 res : Int32 ⊕ Nat} (hM : gXv l z b mL rt d' c1 D g N ad ln A (gr i :: as) A1 res1) (hs : g_site own Cn ix z b mL rt np) (hd : d' + 1 ≤ d) (hi : i < N) (he : g_ce g ad (g_ln ln i) (A i) i = .inr (ci, fs)) (hc : vwCl[ci]? = some (Cn, T, Nn)) (hn : as.length = np) (hst : st0 = as.reverse ++ gr i :: st) (hcat : (st.map g_cat).sum ≤ 8) (hk1 : k + c1 ≤ R.cells ∧ n + 6 * c1 ≤ R.slots) (hkm : k + c1 ≤ mc ∧ n + 6 * c1 ≤ 6 * mc) (hdg : decode cc pc = .ok (.invokevirtual ix, 3)) (hx : ∀ k, res1 = .inr k → A1 = A' ∧ res = .inr k) (kk : ∀ r : Int32, res1 = .inl r → gJ p l e R s m args below meth c (gEXi below D g N ad ln A0 A' res mc args s) nL D g (va_A (gw g ad ln A0 N) s.heap.size) N ad ln A1 loc (k + c1) (n + 6 * c1) (pc + 3) (st)) : gJ p l e R s m args below meth c (gEXi below D g N ad ln A0 A' res mc args s) nL D g (va_A (gw g ad ln A0 N) s.heap.size) N ad ln A loc k n pc st0 := by
  intro H locs ls hP hD hS hl
  have hF := g_frees hD hS C.2.2.2.2.2.2.1
  refine vx_callv (vx_runV (C := Cn) (b := ad i) (As := as.map (g_v ad)) (rest := st.map (g_v ad)) ⟨C.1, C.2.1, C.2.2.1, C.2.2.2.1, C.2.2.2.2.1⟩ (hM H.size) (cwV np C.2.2.2.2.1 (g_goodV hs) rfl rfl rfl hs.2.2.2.2.2.1 (g_room C.2.2.2.2.2.2.2.2 hd hs.2.2.2.2.2.2)) ⟨g_blindX, va_recv C.2.2.2.2.2.1 hP (q0 := i) hc (by rw [gw_at hi, he]), fun U hU hW => ⟨rfl, by rw [hU], by rw [hU]; exact hP, va_K.moved hW.alike C.2.2.2.2.2.1, hD.weaken (fun _ _ _ _ => trivial), CX.2.1.warm hW, by rw [hU]; exact g_zNow CX.2.2.1 C.2.2.2.2.2.2.1 hD hS hW.alike⟩⟩ rfl (by rw [List.length_map]; exact hn) hl.1 (by show st0.map (g_v ad) = _; rw [hst]; simp [g_v]) (g_lv hcat) hdg ⟨hk1.1, hk1.2⟩) hS (fun q _ h => hF q h) hF (fun q _ h => hF q h) (fun E ce q9 u t H1 locs1 ht hvm hw hB hz1 hk1 hS hce hcv hcl => ?_) (fun u t H1 locs1 ht hvm hw hB hz1 hk1 hS => ?_)
  · obtain ⟨j, hj, rfl, hP1, hK1, hD1⟩ := hB
    obtain ⟨rfl, hres⟩ := hx j hj
    rw [ht] at hP1
    refine vx_out (E := g_xn j) (fun x hx => absurd (CX.2.2.2 x hx) id) C.2.2.2.2.2.2.2.1 hce hcv hcl (fun t2 ht2 hW2 => ⟨(), trivial, ⟨j, hres, rfl, by rw [ht2]; exact hP1, va_K.moved hW2 C.2.2.2.2.2.1, hD1.weaken (fun _ _ _ h => hF _ h)⟩, hS.F ht2⟩) hS.2.2 hkm.1 hkm.2
  · obtain ⟨hP1, hK1, hD1⟩ := hB
    rw [ht] at hP1
    exact kk 0 hw H1 locs1 ls hP1 (hD1.weaken (fun _ _ _ h => hF _ h)) hS hl
theorem g_callvXv (C : gC p R s m args meth c cc own nL D g (va_A (gw g ad ln A0 N) s.heap.size) d) (CX : gCX l s c (va_A (gw g ad ln A0 N) s.heap.size)) (i : Nat) (as : List gV) {st0 : List gV} {Cn : String} {ci ix np mL d' c1 : Nat} {z : MethodName} {b : ByteArray} {rt : Option FieldType} {fs : List Value} {T : u_T} {Nn : Nat} {res1 res : Int32 ⊕ Nat} (hM : gXv l z b mL rt d' c1 D g N ad ln A (gr i :: as) A1 res1) (hs : g_site own Cn ix z b mL rt np) (hd : d' + 1 ≤ d) (hi : i < N) (he : g_ce g ad (g_ln ln i) (A i) i = .inr (ci, fs)) (hc : vwCl[ci]? = some (Cn, T, Nn)) (hn : as.length = np) (hst : st0 = as.reverse ++ gr i :: st) (hcat : (st.map g_cat).sum ≤ 8) (hk1 : k + c1 ≤ R.cells ∧ n + 6 * c1 ≤ R.slots) (hkm : k + c1 ≤ mc ∧ n + 6 * c1 ≤ 6 * mc) (hdg : decode cc pc = .ok (.invokevirtual ix, 3)) (hx : ∀ k, res1 = .inr k → A1 = A' ∧ res = .inr k) (kk : ∀ r : Int32, res1 = .inl r → gJ p l e R s m args below meth c (gEXv below D g N ad ln A0 A' res mc args s) nL D g (va_A (gw g ad ln A0 N) s.heap.size) N ad ln A1 loc (k + c1) (n + 6 * c1) (pc + 3) (st)) : gJ p l e R s m args below meth c (gEXv below D g N ad ln A0 A' res mc args s) nL D g (va_A (gw g ad ln A0 N) s.heap.size) N ad ln A loc k n pc st0 := by
  intro H locs ls hP hD hS hl
  have hF := g_frees hD hS C.2.2.2.2.2.2.1
  refine vx_callv (vx_runV (C := Cn) (b := ad i) (As := as.map (g_v ad)) (rest := st.map (g_v ad)) ⟨C.1, C.2.1, C.2.2.1, C.2.2.2.1, C.2.2.2.2.1⟩ (hM H.size) (cwV np C.2.2.2.2.1 (g_goodV hs) rfl rfl rfl hs.2.2.2.2.2.1 (g_room C.2.2.2.2.2.2.2.2 hd hs.2.2.2.2.2.2)) ⟨g_blindX, va_recv C.2.2.2.2.2.1 hP (q0 := i) hc (by rw [gw_at hi, he]), fun U hU hW => ⟨rfl, by rw [hU], by rw [hU]; exact hP, va_K.moved hW.alike C.2.2.2.2.2.1, hD.weaken (fun _ _ _ _ => trivial), CX.2.1.warm hW, by rw [hU]; exact g_zNow CX.2.2.1 C.2.2.2.2.2.2.1 hD hS hW.alike⟩⟩ rfl (by rw [List.length_map]; exact hn) hl.1 (by show st0.map (g_v ad) = _; rw [hst]; simp [g_v]) (g_lv hcat) hdg ⟨hk1.1, hk1.2⟩) hS (fun q _ h => hF q h) hF (fun q _ h => hF q h) (fun E ce q9 u t H1 locs1 ht hvm hw hB hz1 hk1 hS hce hcv hcl => ?_) (fun u t H1 locs1 ht hvm hw hB hz1 hk1 hS => ?_)
  · obtain ⟨j, hj, rfl, hP1, hK1, hD1⟩ := hB
    obtain ⟨rfl, hres⟩ := hx j hj
    rw [ht] at hP1
    refine vx_out (E := g_xn j) (fun x hx => absurd (CX.2.2.2 x hx) id) C.2.2.2.2.2.2.2.1 hce hcv hcl (fun t2 ht2 hW2 => ⟨(), trivial, ⟨j, hres, rfl, by rw [ht2]; exact hP1, va_K.moved hW2 C.2.2.2.2.2.1, hD1.weaken (fun _ _ _ h => hF _ h)⟩, hS.F ht2⟩) hS.2.2 hkm.1 hkm.2
  · obtain ⟨hP1, hK1, hD1⟩ := hB
    rw [ht] at hP1
    exact kk 0 hw H1 locs1 ls hP1 (hD1.weaken (fun _ _ _ h => hF _ h)) hS hl
theorem g_throwi (C : gC p R s m args meth c cc own nL D g (va_A (gw g ad ln A0 N) s.heap.size) d) (CX : gCX l s c (va_A (gw g ad ln A0 N) s.heap.size)) {ik ic : Nat} {res : Int32 ⊕ Nat} (j : Nat) (hj : j < 3) (hk : Cond.classLink own ik (g_xn j) ∈ gtb) (hini : Cond.initialized (g_xn j) ∈ gtb) (hgd : ∀ w ∈ (vx_at0 own ic (g_xn j) ["java/lang/RuntimeException", "java/lang/Exception"]).filter goodWord, w ∈ gtb) (hng : ∀ w ∈ (vx_at0 own ic (g_xn j) ["java/lang/RuntimeException", "java/lang/Exception"]).filter (fun w => !goodWord w), w ∈ gxw) (hot : ∀ w ∈ Cond.classLink own ik (g_xn j) :: Cond.initialized (g_xn j) :: vx_at0 own ic (g_xn j) ["java/lang/RuntimeException", "java/lang/Exception"], vx_ot w = true) (hres : res = .inr j) (hd : 6 ≤ d) (hcat : (st.map g_cat).sum ≤ 8) (hkr : k + 1 ≤ R.cells ∧ n + 6 ≤ R.slots) (hkm : k + 1 ≤ mc ∧ n + 6 ≤ 6 * mc)
    (d0 : decode cc pc = .ok (.new ik, 3)) (d3 : decode cc (pc + 3) = .ok (.dup, 1)) (d4 : decode cc (pc + 4) = .ok (.invokespecial ic, 3)) (d7 : decode cc (pc + 7) = .ok (.athrow, 1)) : gJ p l e R s m args below meth c (gEXi below D g N ad ln A0 A res mc args s) nL D g (va_A (gw g ad ln A0 N) s.heap.size) N ad ln A loc k n pc st := by
  intro H locs ls hP hD hS hl
  have hfit : Bundle.fit (g_xn j) = true := by
    match j, hj with
    | 0, _ => decide +kernel
    | 1, _ => decide +kernel
    | 2, _ => decide +kernel
  refine vx_throw0 (A := va_A (gw g ad ln A0 N) s.heap.size) (names := ["java/lang/RuntimeException", "java/lang/Exception"]) C.1 C.2.1 CX.1 C.2.2.2.1 hfit (by decide +kernel) (C.2.2.2.2.1 _ hk) (C.2.2.2.2.1 _ hini) (vx_hat (B := gxw) (fun w hw => C.2.2.2.2.1 w (hgd w hw)) hng (fun w hw => va_Nw.use (gX_tab w hw) (CX.2.1 w hw))) hot CX.2.2.1.1 CX.2.2.1.2 hS (by rw [C.2.2.1]; exact hl.1) d0 d3 d4 d7 (fun x hx => absurd (CX.2.2.2 x hx) id) (by have := C.2.2.2.2.2.2.2.2.1; simp; omega) (by have h1 := g_lv (ad := ad) hcat; have := C.2.2.2.2.2.2.2.2.2; simp at h1 ⊢; omega) hkr.1 hkr.2 C.2.2.2.2.2.2.2.1 ?_ hS.2.2 hkm.1 hkm.2
  intro t hvm hsz hkp
  have hP1 : va_P D vwCl (gw g ad ln A N) t.heap := hP.kept (fun k q hq => hkp q.1 (hP k q hq).lt)
  exact ⟨(), trivial, ⟨j, hres, rfl, hP1, va_K.moved hvm C.2.2.2.2.2.1, hD⟩, Nat.le_trans hS.1 hsz, fun q h1 h2 => by rw [hkp q (Nat.lt_of_lt_of_le h1 hS.1)]; exact hS.2.1 q h1 h2⟩
theorem g_throwv (C : gC p R s m args meth c cc own nL D g (va_A (gw g ad ln A0 N) s.heap.size) d) (CX : gCX l s c (va_A (gw g ad ln A0 N) s.heap.size)) {ik ic : Nat} {res : Int32 ⊕ Nat} (j : Nat) (hj : j < 3) (hk : Cond.classLink own ik (g_xn j) ∈ gtb) (hini : Cond.initialized (g_xn j) ∈ gtb) (hgd : ∀ w ∈ (vx_at0 own ic (g_xn j) ["java/lang/RuntimeException", "java/lang/Exception"]).filter goodWord, w ∈ gtb) (hng : ∀ w ∈ (vx_at0 own ic (g_xn j) ["java/lang/RuntimeException", "java/lang/Exception"]).filter (fun w => !goodWord w), w ∈ gxw) (hot : ∀ w ∈ Cond.classLink own ik (g_xn j) :: Cond.initialized (g_xn j) :: vx_at0 own ic (g_xn j) ["java/lang/RuntimeException", "java/lang/Exception"], vx_ot w = true) (hres : res = .inr j) (hd : 6 ≤ d) (hcat : (st.map g_cat).sum ≤ 8) (hkr : k + 1 ≤ R.cells ∧ n + 6 ≤ R.slots) (hkm : k + 1 ≤ mc ∧ n + 6 ≤ 6 * mc)
    (d0 : decode cc pc = .ok (.new ik, 3)) (d3 : decode cc (pc + 3) = .ok (.dup, 1)) (d4 : decode cc (pc + 4) = .ok (.invokespecial ic, 3)) (d7 : decode cc (pc + 7) = .ok (.athrow, 1)) : gJ p l e R s m args below meth c (gEXv below D g N ad ln A0 A res mc args s) nL D g (va_A (gw g ad ln A0 N) s.heap.size) N ad ln A loc k n pc st := by
  intro H locs ls hP hD hS hl
  have hfit : Bundle.fit (g_xn j) = true := by
    match j, hj with
    | 0, _ => decide +kernel
    | 1, _ => decide +kernel
    | 2, _ => decide +kernel
  refine vx_throw0 (A := va_A (gw g ad ln A0 N) s.heap.size) (names := ["java/lang/RuntimeException", "java/lang/Exception"]) C.1 C.2.1 CX.1 C.2.2.2.1 hfit (by decide +kernel) (C.2.2.2.2.1 _ hk) (C.2.2.2.2.1 _ hini) (vx_hat (B := gxw) (fun w hw => C.2.2.2.2.1 w (hgd w hw)) hng (fun w hw => va_Nw.use (gX_tab w hw) (CX.2.1 w hw))) hot CX.2.2.1.1 CX.2.2.1.2 hS (by rw [C.2.2.1]; exact hl.1) d0 d3 d4 d7 (fun x hx => absurd (CX.2.2.2 x hx) id) (by have := C.2.2.2.2.2.2.2.2.1; simp; omega) (by have h1 := g_lv (ad := ad) hcat; have := C.2.2.2.2.2.2.2.2.2; simp at h1 ⊢; omega) hkr.1 hkr.2 C.2.2.2.2.2.2.2.1 ?_ hS.2.2 hkm.1 hkm.2
  intro t hvm hsz hkp
  have hP1 : va_P D vwCl (gw g ad ln A N) t.heap := hP.kept (fun k q hq => hkp q.1 (hP k q hq).lt)
  exact ⟨(), trivial, ⟨j, hres, rfl, hP1, va_K.moved hvm C.2.2.2.2.2.1, hD⟩, Nat.le_trans hS.1 hsz, fun q h1 h2 => by rw [hkp q (Nat.lt_of_lt_of_le h1 hS.1)]; exact hS.2.1 q h1 h2⟩
end GX
end
section
theorem qc_X4_47 : Cond.constant RX4 47 1000000 ∈ gtb := g_tb (List.mem_of_getElem? (i := 398) (by decide +kernel)) (by decide +kernel)
theorem qf_X4_11 : Cond.fieldLink RX4 11 (TX4 0).1 (TX4 0).2.1 (TX4 0).2.2.1 ∈ gtb := g_tb (List.mem_of_getElem? (i := 102) (by decide +kernel)) (by decide +kernel)
theorem qf_X4_15 : Cond.fieldLink RX4 15 (TX4 1).1 (TX4 1).2.1 (TX4 1).2.2.1 ∈ gtb := g_tb (List.mem_of_getElem? (i := 103) (by decide +kernel)) (by decide +kernel)
theorem qf_X4_18 : Cond.fieldLink RX4 18 (TX4 2).1 (TX4 2).2.1 (TX4 2).2.2.1 ∈ gtb := g_tb (List.mem_of_getElem? (i := 104) (by decide +kernel)) (by decide +kernel)
theorem qf_X4_21 : Cond.fieldLink RX4 21 (TX4 3).1 (TX4 3).2.1 (TX4 3).2.2.1 ∈ gtb := g_tb (List.mem_of_getElem? (i := 105) (by decide +kernel)) (by decide +kernel)
theorem qf_X4_24 : Cond.fieldLink RX4 24 (TX4 4).1 (TX4 4).2.1 (TX4 4).2.2.1 ∈ gtb := g_tb (List.mem_of_getElem? (i := 106) (by decide +kernel)) (by decide +kernel)
theorem qf_X4_27 : Cond.fieldLink RX4 27 (TX4 5).1 (TX4 5).2.1 (TX4 5).2.2.1 ∈ gtb := g_tb (List.mem_of_getElem? (i := 107) (by decide +kernel)) (by decide +kernel)
theorem qf_X4_30 : Cond.fieldLink RX4 30 (TX4 6).1 (TX4 6).2.1 (TX4 6).2.2.1 ∈ gtb := g_tb (List.mem_of_getElem? (i := 108) (by decide +kernel)) (by decide +kernel)
theorem qf_X4_36 : Cond.fieldLink RX4 36 (TX4 9).1 (TX4 9).2.1 (TX4 9).2.2.1 ∈ gtb := g_tb (List.mem_of_getElem? (i := 111) (by decide +kernel)) (by decide +kernel)
theorem qf_X4_44 : Cond.fieldLink RX4 44 (TX4 10).1 (TX4 10).2.1 (TX4 10).2.2.1 ∈ gtb := g_tb (List.mem_of_getElem? (i := 112) (by decide +kernel)) (by decide +kernel)
theorem qs_X4_40 : g_site RX4 RX4 40 yX4_make cX4_make 4 (some .int) 3 := ⟨g_tb (List.mem_of_getElem? (i := 308) (by decide +kernel)) (by decide +kernel), g_tb (List.mem_of_getElem? (i := 309) (by decide +kernel)) (by decide +kernel), g_tb (List.mem_of_getElem? (i := 310) (by decide +kernel)) (by decide +kernel), g_tb (List.mem_of_getElem? (i := 37) (by decide +kernel)) (by decide +kernel), g_tb (List.mem_of_getElem? (i := 311) (by decide +kernel)) (by decide +kernel), ⟨rfl, by decide, by decide, by decide +kernel⟩, by decide⟩
theorem qs_X4_48 : g_site RX4 RX4 48 yX4_resolve cX4_resolve 4 (some .int) 1 := ⟨g_tb (List.mem_of_getElem? (i := 403) (by decide +kernel)) (by decide +kernel), g_tb (List.mem_of_getElem? (i := 405) (by decide +kernel)) (by decide +kernel), g_tb (List.mem_of_getElem? (i := 14) (by decide +kernel)) (by decide +kernel), g_tb (List.mem_of_getElem? (i := 37) (by decide +kernel)) (by decide +kernel), g_tb (List.mem_of_getElem? (i := 406) (by decide +kernel)) (by decide +kernel), ⟨rfl, by decide, by decide, by decide +kernel⟩, by decide⟩
theorem qs_X4_52 : g_site RX4 RX4 52 yX4_isPair cX4_isPair 2 (some .boolean) 1 := ⟨g_tb (List.mem_of_getElem? (i := 349) (by decide +kernel)) (by decide +kernel), g_tb (List.mem_of_getElem? (i := 351) (by decide +kernel)) (by decide +kernel), g_tb (List.mem_of_getElem? (i := 8) (by decide +kernel)) (by decide +kernel), g_tb (List.mem_of_getElem? (i := 37) (by decide +kernel)) (by decide +kernel), g_tb (List.mem_of_getElem? (i := 352) (by decide +kernel)) (by decide +kernel), ⟨rfl, by decide, by decide, by decide +kernel⟩, by decide⟩
theorem qs_X4_56 : g_site RX4 RX4 56 yX4_putPair cX4_putPair 4 (some .int) 3 := ⟨g_tb (List.mem_of_getElem? (i := 394) (by decide +kernel)) (by decide +kernel), g_tb (List.mem_of_getElem? (i := 396) (by decide +kernel)) (by decide +kernel), g_tb (List.mem_of_getElem? (i := 12) (by decide +kernel)) (by decide +kernel), g_tb (List.mem_of_getElem? (i := 37) (by decide +kernel)) (by decide +kernel), g_tb (List.mem_of_getElem? (i := 397) (by decide +kernel)) (by decide +kernel), ⟨rfl, by decide, by decide, by decide +kernel⟩, by decide⟩
theorem qs_X4_59 : g_site RX4 RX4 59 yX4_give cX4_give 4 (none) 2 := ⟨g_tb (List.mem_of_getElem? (i := 399) (by decide +kernel)) (by decide +kernel), g_tb (List.mem_of_getElem? (i := 401) (by decide +kernel)) (by decide +kernel), g_tb (List.mem_of_getElem? (i := 13) (by decide +kernel)) (by decide +kernel), g_tb (List.mem_of_getElem? (i := 37) (by decide +kernel)) (by decide +kernel), g_tb (List.mem_of_getElem? (i := 402) (by decide +kernel)) (by decide +kernel), ⟨rfl, by decide, by decide, by decide +kernel⟩, by decide⟩
theorem qs_X4_63 : g_site RX4 RX4 63 yX4_forgetMarks cX4_forgetMarks 1 (none) 0 := ⟨g_tb (List.mem_of_getElem? (i := 407) (by decide +kernel)) (by decide +kernel), g_tb (List.mem_of_getElem? (i := 408) (by decide +kernel)) (by decide +kernel), g_tb (List.mem_of_getElem? (i := 409) (by decide +kernel)) (by decide +kernel), g_tb (List.mem_of_getElem? (i := 37) (by decide +kernel)) (by decide +kernel), g_tb (List.mem_of_getElem? (i := 410) (by decide +kernel)) (by decide +kernel), ⟨rfl, by decide, by decide, by decide +kernel⟩, by decide⟩
theorem qs_X4_66 : g_site RX4 RX4 66 yX4_markWithin cX4_markWithin 5 (none) 1 := ⟨g_tb (List.mem_of_getElem? (i := 411) (by decide +kernel)) (by decide +kernel), g_tb (List.mem_of_getElem? (i := 412) (by decide +kernel)) (by decide +kernel), g_tb (List.mem_of_getElem? (i := 413) (by decide +kernel)) (by decide +kernel), g_tb (List.mem_of_getElem? (i := 37) (by decide +kernel)) (by decide +kernel), g_tb (List.mem_of_getElem? (i := 414) (by decide +kernel)) (by decide +kernel), ⟨rfl, by decide, by decide, by decide +kernel⟩, by decide⟩
theorem gu_4 : ∀ w ∈ wsX40, w ∈ gtb := by decide +kernel
theorem dX4_make_0 : decode cX4_make 0 = .ok (.aload_n 0, 1) := by decide +kernel
theorem dX4_make_1 : decode cX4_make 1 = .ok (.getfield 36, 3) := by decide +kernel
theorem dX4_make_4 : decode cX4_make 4 = .ok (.ifCond .lt 13, 3) := by decide +kernel
theorem dX4_make_7 : decode cX4_make 7 = .ok (.aload_n 0, 1) := by decide +kernel
theorem dX4_make_8 : decode cX4_make 8 = .ok (.getfield 36, 3) := by decide +kernel
theorem dX4_make_11 : decode cX4_make 11 = .ok (.sipush 2600, 3) := by decide +kernel
theorem dX4_make_14 : decode cX4_make 14 = .ok (.if_icmp .lt 5, 3) := by decide +kernel
theorem dX4_make_17 : decode cX4_make 17 = .ok (.iconst 0, 1) := by decide +kernel
theorem dX4_make_18 : decode cX4_make 18 = .ok (.ireturn, 1) := by decide +kernel
theorem dX4_make_19 : decode cX4_make 19 = .ok (.aload_n 0, 1) := by decide +kernel
theorem dX4_make_20 : decode cX4_make 20 = .ok (.getfield 11, 3) := by decide +kernel
theorem dX4_make_23 : decode cX4_make 23 = .ok (.aload_n 0, 1) := by decide +kernel
theorem dX4_make_24 : decode cX4_make 24 = .ok (.getfield 36, 3) := by decide +kernel
theorem dX4_make_27 : decode cX4_make 27 = .ok (.iload_n 1, 1) := by decide +kernel
theorem dX4_make_28 : decode cX4_make 28 = .ok (.iastore, 1) := by decide +kernel
theorem dX4_make_29 : decode cX4_make 29 = .ok (.aload_n 0, 1) := by decide +kernel
theorem dX4_make_30 : decode cX4_make 30 = .ok (.getfield 15, 3) := by decide +kernel
theorem dX4_make_33 : decode cX4_make 33 = .ok (.aload_n 0, 1) := by decide +kernel
theorem dX4_make_34 : decode cX4_make 34 = .ok (.getfield 36, 3) := by decide +kernel
theorem dX4_make_37 : decode cX4_make 37 = .ok (.iload_n 2, 1) := by decide +kernel
theorem dX4_make_38 : decode cX4_make 38 = .ok (.iastore, 1) := by decide +kernel
theorem dX4_make_39 : decode cX4_make 39 = .ok (.aload_n 0, 1) := by decide +kernel
theorem dX4_make_40 : decode cX4_make 40 = .ok (.getfield 18, 3) := by decide +kernel
theorem dX4_make_43 : decode cX4_make 43 = .ok (.aload_n 0, 1) := by decide +kernel
theorem dX4_make_44 : decode cX4_make 44 = .ok (.getfield 36, 3) := by decide +kernel
theorem dX4_make_47 : decode cX4_make 47 = .ok (.iload_n 3, 1) := by decide +kernel
theorem dX4_make_48 : decode cX4_make 48 = .ok (.iastore, 1) := by decide +kernel
theorem dX4_make_49 : decode cX4_make 49 = .ok (.aload_n 0, 1) := by decide +kernel
theorem dX4_make_50 : decode cX4_make 50 = .ok (.dup, 1) := by decide +kernel
theorem dX4_make_51 : decode cX4_make 51 = .ok (.getfield 36, 3) := by decide +kernel
theorem dX4_make_54 : decode cX4_make 54 = .ok (.iconst 1, 1) := by decide +kernel
theorem dX4_make_55 : decode cX4_make 55 = .ok (.iadd, 1) := by decide +kernel
theorem dX4_make_56 : decode cX4_make 56 = .ok (.putfield 36, 3) := by decide +kernel
theorem dX4_make_59 : decode cX4_make 59 = .ok (.aload_n 0, 1) := by decide +kernel
theorem dX4_make_60 : decode cX4_make 60 = .ok (.getfield 36, 3) := by decide +kernel
theorem dX4_make_63 : decode cX4_make 63 = .ok (.iconst 1, 1) := by decide +kernel
theorem dX4_make_64 : decode cX4_make 64 = .ok (.isub, 1) := by decide +kernel
theorem dX4_make_65 : decode cX4_make 65 = .ok (.ireturn, 1) := by decide +kernel
theorem dX4_newVariable_0 : decode cX4_newVariable 0 = .ok (.aload_n 0, 1) := by decide +kernel
theorem dX4_newVariable_1 : decode cX4_newVariable 1 = .ok (.iconst 4, 1) := by decide +kernel
theorem dX4_newVariable_2 : decode cX4_newVariable 2 = .ok (.iconst (-1), 1) := by decide +kernel
theorem dX4_newVariable_3 : decode cX4_newVariable 3 = .ok (.iconst (-1), 1) := by decide +kernel
theorem dX4_newVariable_4 : decode cX4_newVariable 4 = .ok (.invokevirtual 40, 3) := by decide +kernel
theorem dX4_newVariable_7 : decode cX4_newVariable 7 = .ok (.ireturn, 1) := by decide +kernel
theorem dX4_codeOfNode_0 : decode cX4_codeOfNode 0 = .ok (.bipush 100, 2) := by decide +kernel
theorem dX4_codeOfNode_2 : decode cX4_codeOfNode 2 = .ok (.iload_n 1, 1) := by decide +kernel
theorem dX4_codeOfNode_3 : decode cX4_codeOfNode 3 = .ok (.iadd, 1) := by decide +kernel
theorem dX4_codeOfNode_4 : decode cX4_codeOfNode 4 = .ok (.ireturn, 1) := by decide +kernel
theorem dX4_forgetMarks_0 : decode cX4_forgetMarks 0 = .ok (.aload_n 0, 1) := by decide +kernel
theorem dX4_forgetMarks_1 : decode cX4_forgetMarks 1 = .ok (.dup, 1) := by decide +kernel
theorem dX4_forgetMarks_2 : decode cX4_forgetMarks 2 = .ok (.getfield 44, 3) := by decide +kernel
theorem dX4_forgetMarks_5 : decode cX4_forgetMarks 5 = .ok (.iconst 1, 1) := by decide +kernel
theorem dX4_forgetMarks_6 : decode cX4_forgetMarks 6 = .ok (.iadd, 1) := by decide +kernel
theorem dX4_forgetMarks_7 : decode cX4_forgetMarks 7 = .ok (.putfield 44, 3) := by decide +kernel
theorem dX4_forgetMarks_10 : decode cX4_forgetMarks 10 = .ok (.return_, 1) := by decide +kernel
theorem dX4_isNode_0 : decode cX4_isNode 0 = .ok (.iload_n 1, 1) := by decide +kernel
theorem dX4_isNode_1 : decode cX4_isNode 1 = .ok (.bipush 100, 2) := by decide +kernel
theorem dX4_isNode_3 : decode cX4_isNode 3 = .ok (.if_icmp .lt 7, 3) := by decide +kernel
theorem dX4_isNode_6 : decode cX4_isNode 6 = .ok (.iconst 1, 1) := by decide +kernel
theorem dX4_isNode_7 : decode cX4_isNode 7 = .ok (.goto 4, 3) := by decide +kernel
theorem dX4_isNode_10 : decode cX4_isNode 10 = .ok (.iconst 0, 1) := by decide +kernel
theorem dX4_isNode_11 : decode cX4_isNode 11 = .ok (.ireturn, 1) := by decide +kernel
theorem dX4_nodeOfCode_0 : decode cX4_nodeOfCode 0 = .ok (.iload_n 1, 1) := by decide +kernel
theorem dX4_nodeOfCode_1 : decode cX4_nodeOfCode 1 = .ok (.bipush 100, 2) := by decide +kernel
theorem dX4_nodeOfCode_3 : decode cX4_nodeOfCode 3 = .ok (.isub, 1) := by decide +kernel
theorem dX4_nodeOfCode_4 : decode cX4_nodeOfCode 4 = .ok (.ireturn, 1) := by decide +kernel
theorem dX4_isPair_0 : decode cX4_isPair 0 = .ok (.iload_n 1, 1) := by decide +kernel
theorem dX4_isPair_1 : decode cX4_isPair 1 = .ok (.iconst 2, 1) := by decide +kernel
theorem dX4_isPair_2 : decode cX4_isPair 2 = .ok (.if_icmp .eq 8, 3) := by decide +kernel
theorem dX4_isPair_5 : decode cX4_isPair 5 = .ok (.iload_n 1, 1) := by decide +kernel
theorem dX4_isPair_6 : decode cX4_isPair 6 = .ok (.iconst 3, 1) := by decide +kernel
theorem dX4_isPair_7 : decode cX4_isPair 7 = .ok (.if_icmp .ne 7, 3) := by decide +kernel
theorem dX4_isPair_10 : decode cX4_isPair 10 = .ok (.iconst 1, 1) := by decide +kernel
theorem dX4_isPair_11 : decode cX4_isPair 11 = .ok (.goto 4, 3) := by decide +kernel
theorem dX4_isPair_14 : decode cX4_isPair 14 = .ok (.iconst 0, 1) := by decide +kernel
theorem dX4_isPair_15 : decode cX4_isPair 15 = .ok (.ireturn, 1) := by decide +kernel
theorem dX4_resolve_0 : decode cX4_resolve 0 = .ok (.iload_n 1, 1) := by decide +kernel
theorem dX4_resolve_1 : decode cX4_resolve 1 = .ok (.istore_n 2, 1) := by decide +kernel
theorem dX4_resolve_2 : decode cX4_resolve 2 = .ok (.iconst 0, 1) := by decide +kernel
theorem dX4_resolve_3 : decode cX4_resolve 3 = .ok (.istore_n 3, 1) := by decide +kernel
theorem dX4_resolve_4 : decode cX4_resolve 4 = .ok (.iload_n 3, 1) := by decide +kernel
theorem dX4_resolve_5 : decode cX4_resolve 5 = .ok (.sipush 2600, 3) := by decide +kernel
theorem dX4_resolve_8 : decode cX4_resolve 8 = .ok (.if_icmp .ge 37, 3) := by decide +kernel
theorem dX4_resolve_11 : decode cX4_resolve 11 = .ok (.iload_n 2, 1) := by decide +kernel
theorem dX4_resolve_12 : decode cX4_resolve 12 = .ok (.ifCond .lt 33, 3) := by decide +kernel
theorem dX4_resolve_15 : decode cX4_resolve 15 = .ok (.iload_n 2, 1) := by decide +kernel
theorem dX4_resolve_16 : decode cX4_resolve 16 = .ok (.sipush 2600, 3) := by decide +kernel
theorem dX4_resolve_19 : decode cX4_resolve 19 = .ok (.if_icmp .ge 26, 3) := by decide +kernel
theorem dX4_resolve_22 : decode cX4_resolve 22 = .ok (.aload_n 0, 1) := by decide +kernel
theorem dX4_resolve_23 : decode cX4_resolve 23 = .ok (.getfield 11, 3) := by decide +kernel
theorem dX4_resolve_26 : decode cX4_resolve 26 = .ok (.iload_n 2, 1) := by decide +kernel
theorem dX4_resolve_27 : decode cX4_resolve 27 = .ok (.iaload, 1) := by decide +kernel
theorem dX4_resolve_28 : decode cX4_resolve 28 = .ok (.iconst 5, 1) := by decide +kernel
theorem dX4_resolve_29 : decode cX4_resolve 29 = .ok (.if_icmp .ne 16, 3) := by decide +kernel
theorem dX4_resolve_32 : decode cX4_resolve 32 = .ok (.aload_n 0, 1) := by decide +kernel
theorem dX4_resolve_33 : decode cX4_resolve 33 = .ok (.getfield 15, 3) := by decide +kernel
theorem dX4_resolve_36 : decode cX4_resolve 36 = .ok (.iload_n 2, 1) := by decide +kernel
theorem dX4_resolve_37 : decode cX4_resolve 37 = .ok (.iaload, 1) := by decide +kernel
theorem dX4_resolve_38 : decode cX4_resolve 38 = .ok (.istore_n 2, 1) := by decide +kernel
theorem dX4_resolve_39 : decode cX4_resolve 39 = .ok (.iinc 3 1, 3) := by decide +kernel
theorem dX4_resolve_42 : decode cX4_resolve 42 = .ok (.goto (-38), 3) := by decide +kernel
theorem dX4_resolve_45 : decode cX4_resolve 45 = .ok (.iload_n 2, 1) := by decide +kernel
theorem dX4_resolve_46 : decode cX4_resolve 46 = .ok (.ifCond .lt 14, 3) := by decide +kernel
theorem dX4_resolve_49 : decode cX4_resolve 49 = .ok (.iload_n 2, 1) := by decide +kernel
theorem dX4_resolve_50 : decode cX4_resolve 50 = .ok (.sipush 2600, 3) := by decide +kernel
theorem dX4_resolve_53 : decode cX4_resolve 53 = .ok (.if_icmp .ge 7, 3) := by decide +kernel
theorem dX4_resolve_56 : decode cX4_resolve 56 = .ok (.iload_n 2, 1) := by decide +kernel
theorem dX4_resolve_57 : decode cX4_resolve 57 = .ok (.goto 4, 3) := by decide +kernel
theorem dX4_resolve_60 : decode cX4_resolve 60 = .ok (.iconst 0, 1) := by decide +kernel
theorem dX4_resolve_61 : decode cX4_resolve 61 = .ok (.ireturn, 1) := by decide +kernel
theorem dX4_markWithin_0 : decode cX4_markWithin 0 = .ok (.iconst 1, 1) := by decide +kernel
theorem dX4_markWithin_1 : decode cX4_markWithin 1 = .ok (.istore_n 2, 1) := by decide +kernel
theorem dX4_markWithin_2 : decode cX4_markWithin 2 = .ok (.aload_n 0, 1) := by decide +kernel
theorem dX4_markWithin_3 : decode cX4_markWithin 3 = .ok (.getfield 24, 3) := by decide +kernel
theorem dX4_markWithin_6 : decode cX4_markWithin 6 = .ok (.iconst 0, 1) := by decide +kernel
theorem dX4_markWithin_7 : decode cX4_markWithin 7 = .ok (.iload_n 1, 1) := by decide +kernel
theorem dX4_markWithin_8 : decode cX4_markWithin 8 = .ok (.iastore, 1) := by decide +kernel
theorem dX4_markWithin_9 : decode cX4_markWithin 9 = .ok (.iconst 0, 1) := by decide +kernel
theorem dX4_markWithin_10 : decode cX4_markWithin 10 = .ok (.istore_n 3, 1) := by decide +kernel
theorem dX4_markWithin_11 : decode cX4_markWithin 11 = .ok (.iload_n 2, 1) := by decide +kernel
theorem dX4_markWithin_12 : decode cX4_markWithin 12 = .ok (.ifCond .le 109, 3) := by decide +kernel
theorem dX4_markWithin_15 : decode cX4_markWithin 15 = .ok (.iload_n 3, 1) := by decide +kernel
theorem dX4_markWithin_16 : decode cX4_markWithin 16 = .ok (.ldc 47, 2) := by decide +kernel
theorem dX4_markWithin_18 : decode cX4_markWithin 18 = .ok (.if_icmp .ge 103, 3) := by decide +kernel
theorem dX4_markWithin_21 : decode cX4_markWithin 21 = .ok (.iinc 2 (-1), 3) := by decide +kernel
theorem dX4_markWithin_24 : decode cX4_markWithin 24 = .ok (.aload_n 0, 1) := by decide +kernel
theorem dX4_markWithin_25 : decode cX4_markWithin 25 = .ok (.aload_n 0, 1) := by decide +kernel
theorem dX4_markWithin_26 : decode cX4_markWithin 26 = .ok (.getfield 24, 3) := by decide +kernel
theorem dX4_markWithin_29 : decode cX4_markWithin 29 = .ok (.iload_n 2, 1) := by decide +kernel
theorem dX4_markWithin_30 : decode cX4_markWithin 30 = .ok (.iaload, 1) := by decide +kernel
theorem dX4_markWithin_31 : decode cX4_markWithin 31 = .ok (.invokevirtual 48, 3) := by decide +kernel
theorem dX4_markWithin_34 : decode cX4_markWithin 34 = .ok (.istore 4, 2) := by decide +kernel
theorem dX4_markWithin_36 : decode cX4_markWithin 36 = .ok (.aload_n 0, 1) := by decide +kernel
theorem dX4_markWithin_37 : decode cX4_markWithin 37 = .ok (.getfield 21, 3) := by decide +kernel
theorem dX4_markWithin_40 : decode cX4_markWithin 40 = .ok (.iload 4, 2) := by decide +kernel
theorem dX4_markWithin_42 : decode cX4_markWithin 42 = .ok (.iaload, 1) := by decide +kernel
theorem dX4_markWithin_43 : decode cX4_markWithin 43 = .ok (.aload_n 0, 1) := by decide +kernel
theorem dX4_markWithin_44 : decode cX4_markWithin 44 = .ok (.getfield 44, 3) := by decide +kernel
theorem dX4_markWithin_47 : decode cX4_markWithin 47 = .ok (.if_icmp .eq 68, 3) := by decide +kernel
theorem dX4_markWithin_50 : decode cX4_markWithin 50 = .ok (.aload_n 0, 1) := by decide +kernel
theorem dX4_markWithin_51 : decode cX4_markWithin 51 = .ok (.getfield 21, 3) := by decide +kernel
theorem dX4_markWithin_54 : decode cX4_markWithin 54 = .ok (.iload 4, 2) := by decide +kernel
theorem dX4_markWithin_56 : decode cX4_markWithin 56 = .ok (.aload_n 0, 1) := by decide +kernel
theorem dX4_markWithin_57 : decode cX4_markWithin 57 = .ok (.getfield 44, 3) := by decide +kernel
theorem dX4_markWithin_60 : decode cX4_markWithin 60 = .ok (.iastore, 1) := by decide +kernel
theorem dX4_markWithin_61 : decode cX4_markWithin 61 = .ok (.aload_n 0, 1) := by decide +kernel
theorem dX4_markWithin_62 : decode cX4_markWithin 62 = .ok (.aload_n 0, 1) := by decide +kernel
theorem dX4_markWithin_63 : decode cX4_markWithin 63 = .ok (.getfield 11, 3) := by decide +kernel
theorem dX4_markWithin_66 : decode cX4_markWithin 66 = .ok (.iload 4, 2) := by decide +kernel
theorem dX4_markWithin_68 : decode cX4_markWithin 68 = .ok (.iaload, 1) := by decide +kernel
theorem dX4_markWithin_69 : decode cX4_markWithin 69 = .ok (.invokevirtual 52, 3) := by decide +kernel
theorem dX4_markWithin_72 : decode cX4_markWithin 72 = .ok (.ifCond .eq 43, 3) := by decide +kernel
theorem dX4_markWithin_75 : decode cX4_markWithin 75 = .ok (.iload_n 2, 1) := by decide +kernel
theorem dX4_markWithin_76 : decode cX4_markWithin 76 = .ok (.iconst 2, 1) := by decide +kernel
theorem dX4_markWithin_77 : decode cX4_markWithin 77 = .ok (.iadd, 1) := by decide +kernel
theorem dX4_markWithin_78 : decode cX4_markWithin 78 = .ok (.sipush 5208, 3) := by decide +kernel
theorem dX4_markWithin_81 : decode cX4_markWithin 81 = .ok (.if_icmp .gt 34, 3) := by decide +kernel
theorem dX4_markWithin_84 : decode cX4_markWithin 84 = .ok (.aload_n 0, 1) := by decide +kernel
theorem dX4_markWithin_85 : decode cX4_markWithin 85 = .ok (.getfield 24, 3) := by decide +kernel
theorem dX4_markWithin_88 : decode cX4_markWithin 88 = .ok (.iload_n 2, 1) := by decide +kernel
theorem dX4_markWithin_89 : decode cX4_markWithin 89 = .ok (.aload_n 0, 1) := by decide +kernel
theorem dX4_markWithin_90 : decode cX4_markWithin 90 = .ok (.getfield 18, 3) := by decide +kernel
theorem dX4_markWithin_93 : decode cX4_markWithin 93 = .ok (.iload 4, 2) := by decide +kernel
theorem dX4_markWithin_95 : decode cX4_markWithin 95 = .ok (.iaload, 1) := by decide +kernel
theorem dX4_markWithin_96 : decode cX4_markWithin 96 = .ok (.iastore, 1) := by decide +kernel
theorem dX4_markWithin_97 : decode cX4_markWithin 97 = .ok (.aload_n 0, 1) := by decide +kernel
theorem dX4_markWithin_98 : decode cX4_markWithin 98 = .ok (.getfield 24, 3) := by decide +kernel
theorem dX4_markWithin_101 : decode cX4_markWithin 101 = .ok (.iload_n 2, 1) := by decide +kernel
theorem dX4_markWithin_102 : decode cX4_markWithin 102 = .ok (.iconst 1, 1) := by decide +kernel
theorem dX4_markWithin_103 : decode cX4_markWithin 103 = .ok (.iadd, 1) := by decide +kernel
theorem dX4_markWithin_104 : decode cX4_markWithin 104 = .ok (.aload_n 0, 1) := by decide +kernel
theorem dX4_markWithin_105 : decode cX4_markWithin 105 = .ok (.getfield 15, 3) := by decide +kernel
theorem dX4_markWithin_108 : decode cX4_markWithin 108 = .ok (.iload 4, 2) := by decide +kernel
theorem dX4_markWithin_110 : decode cX4_markWithin 110 = .ok (.iaload, 1) := by decide +kernel
theorem dX4_markWithin_111 : decode cX4_markWithin 111 = .ok (.iastore, 1) := by decide +kernel
theorem dX4_markWithin_112 : decode cX4_markWithin 112 = .ok (.iinc 2 2, 3) := by decide +kernel
theorem dX4_markWithin_115 : decode cX4_markWithin 115 = .ok (.iinc 3 1, 3) := by decide +kernel
theorem dX4_markWithin_118 : decode cX4_markWithin 118 = .ok (.goto (-107), 3) := by decide +kernel
theorem dX4_markWithin_121 : decode cX4_markWithin 121 = .ok (.return_, 1) := by decide +kernel
theorem dX4_putPair_0 : decode cX4_putPair 0 = .ok (.iload_n 1, 1) := by decide +kernel
theorem dX4_putPair_1 : decode cX4_putPair 1 = .ok (.ifCond .lt 10, 3) := by decide +kernel
theorem dX4_putPair_4 : decode cX4_putPair 4 = .ok (.iload_n 1, 1) := by decide +kernel
theorem dX4_putPair_5 : decode cX4_putPair 5 = .ok (.sipush 5208, 3) := by decide +kernel
theorem dX4_putPair_8 : decode cX4_putPair 8 = .ok (.if_icmp .lt 5, 3) := by decide +kernel
theorem dX4_putPair_11 : decode cX4_putPair 11 = .ok (.iload_n 1, 1) := by decide +kernel
theorem dX4_putPair_12 : decode cX4_putPair 12 = .ok (.ireturn, 1) := by decide +kernel
theorem dX4_putPair_13 : decode cX4_putPair 13 = .ok (.aload_n 0, 1) := by decide +kernel
theorem dX4_putPair_14 : decode cX4_putPair 14 = .ok (.getfield 27, 3) := by decide +kernel
theorem dX4_putPair_17 : decode cX4_putPair 17 = .ok (.iload_n 1, 1) := by decide +kernel
theorem dX4_putPair_18 : decode cX4_putPair 18 = .ok (.iload_n 2, 1) := by decide +kernel
theorem dX4_putPair_19 : decode cX4_putPair 19 = .ok (.iastore, 1) := by decide +kernel
theorem dX4_putPair_20 : decode cX4_putPair 20 = .ok (.aload_n 0, 1) := by decide +kernel
theorem dX4_putPair_21 : decode cX4_putPair 21 = .ok (.getfield 30, 3) := by decide +kernel
theorem dX4_putPair_24 : decode cX4_putPair 24 = .ok (.iload_n 1, 1) := by decide +kernel
theorem dX4_putPair_25 : decode cX4_putPair 25 = .ok (.iload_n 3, 1) := by decide +kernel
theorem dX4_putPair_26 : decode cX4_putPair 26 = .ok (.iastore, 1) := by decide +kernel
theorem dX4_putPair_27 : decode cX4_putPair 27 = .ok (.iload_n 1, 1) := by decide +kernel
theorem dX4_putPair_28 : decode cX4_putPair 28 = .ok (.iconst 1, 1) := by decide +kernel
theorem dX4_putPair_29 : decode cX4_putPair 29 = .ok (.iadd, 1) := by decide +kernel
theorem dX4_putPair_30 : decode cX4_putPair 30 = .ok (.ireturn, 1) := by decide +kernel
theorem dX4_give_0 : decode cX4_give 0 = .ok (.aload_n 0, 1) := by decide +kernel
theorem dX4_give_1 : decode cX4_give 1 = .ok (.iload_n 2, 1) := by decide +kernel
theorem dX4_give_2 : decode cX4_give 2 = .ok (.invokevirtual 48, 3) := by decide +kernel
theorem dX4_give_5 : decode cX4_give 5 = .ok (.istore_n 3, 1) := by decide +kernel
theorem dX4_give_6 : decode cX4_give 6 = .ok (.iload_n 1, 1) := by decide +kernel
theorem dX4_give_7 : decode cX4_give 7 = .ok (.ifCond .lt 29, 3) := by decide +kernel
theorem dX4_give_10 : decode cX4_give 10 = .ok (.iload_n 1, 1) := by decide +kernel
theorem dX4_give_11 : decode cX4_give 11 = .ok (.sipush 2600, 3) := by decide +kernel
theorem dX4_give_14 : decode cX4_give 14 = .ok (.if_icmp .ge 22, 3) := by decide +kernel
theorem dX4_give_17 : decode cX4_give 17 = .ok (.iload_n 1, 1) := by decide +kernel
theorem dX4_give_18 : decode cX4_give 18 = .ok (.iload_n 3, 1) := by decide +kernel
theorem dX4_give_19 : decode cX4_give 19 = .ok (.if_icmp .eq 17, 3) := by decide +kernel
theorem dX4_give_22 : decode cX4_give 22 = .ok (.aload_n 0, 1) := by decide +kernel
theorem dX4_give_23 : decode cX4_give 23 = .ok (.getfield 11, 3) := by decide +kernel
theorem dX4_give_26 : decode cX4_give 26 = .ok (.iload_n 1, 1) := by decide +kernel
theorem dX4_give_27 : decode cX4_give 27 = .ok (.iconst 5, 1) := by decide +kernel
theorem dX4_give_28 : decode cX4_give 28 = .ok (.iastore, 1) := by decide +kernel
theorem dX4_give_29 : decode cX4_give 29 = .ok (.aload_n 0, 1) := by decide +kernel
theorem dX4_give_30 : decode cX4_give 30 = .ok (.getfield 15, 3) := by decide +kernel
theorem dX4_give_33 : decode cX4_give 33 = .ok (.iload_n 1, 1) := by decide +kernel
theorem dX4_give_34 : decode cX4_give 34 = .ok (.iload_n 3, 1) := by decide +kernel
theorem dX4_give_35 : decode cX4_give 35 = .ok (.iastore, 1) := by decide +kernel
theorem dX4_give_36 : decode cX4_give 36 = .ok (.return_, 1) := by decide +kernel
theorem dX4_match_0 : decode cX4_match 0 = .ok (.aload_n 0, 1) := by decide +kernel
theorem dX4_match_1 : decode cX4_match 1 = .ok (.iconst 0, 1) := by decide +kernel
theorem dX4_match_2 : decode cX4_match 2 = .ok (.iload_n 1, 1) := by decide +kernel
theorem dX4_match_3 : decode cX4_match 3 = .ok (.iload_n 2, 1) := by decide +kernel
theorem dX4_match_4 : decode cX4_match 4 = .ok (.invokevirtual 56, 3) := by decide +kernel
theorem dX4_match_7 : decode cX4_match 7 = .ok (.istore_n 3, 1) := by decide +kernel
theorem dX4_match_8 : decode cX4_match 8 = .ok (.iconst 0, 1) := by decide +kernel
theorem dX4_match_9 : decode cX4_match 9 = .ok (.istore 4, 2) := by decide +kernel
theorem dX4_match_11 : decode cX4_match 11 = .ok (.iload_n 3, 1) := by decide +kernel
theorem dX4_match_12 : decode cX4_match 12 = .ok (.ifCond .le 249, 3) := by decide +kernel
theorem dX4_match_15 : decode cX4_match 15 = .ok (.iload 4, 2) := by decide +kernel
theorem dX4_match_17 : decode cX4_match 17 = .ok (.ldc 47, 2) := by decide +kernel
theorem dX4_match_19 : decode cX4_match 19 = .ok (.if_icmp .ge 242, 3) := by decide +kernel
theorem dX4_match_22 : decode cX4_match 22 = .ok (.iinc 3 (-1), 3) := by decide +kernel
theorem dX4_match_25 : decode cX4_match 25 = .ok (.aload_n 0, 1) := by decide +kernel
theorem dX4_match_26 : decode cX4_match 26 = .ok (.getfield 27, 3) := by decide +kernel
theorem dX4_match_29 : decode cX4_match 29 = .ok (.iload_n 3, 1) := by decide +kernel
theorem dX4_match_30 : decode cX4_match 30 = .ok (.iaload, 1) := by decide +kernel
theorem dX4_match_31 : decode cX4_match 31 = .ok (.ifCond .ge 24, 3) := by decide +kernel
theorem dX4_match_34 : decode cX4_match 34 = .ok (.aload_n 0, 1) := by decide +kernel
theorem dX4_match_35 : decode cX4_match 35 = .ok (.iconst (-1), 1) := by decide +kernel
theorem dX4_match_36 : decode cX4_match 36 = .ok (.aload_n 0, 1) := by decide +kernel
theorem dX4_match_37 : decode cX4_match 37 = .ok (.getfield 27, 3) := by decide +kernel
theorem dX4_match_40 : decode cX4_match 40 = .ok (.iload_n 3, 1) := by decide +kernel
theorem dX4_match_41 : decode cX4_match 41 = .ok (.iaload, 1) := by decide +kernel
theorem dX4_match_42 : decode cX4_match 42 = .ok (.isub, 1) := by decide +kernel
theorem dX4_match_43 : decode cX4_match 43 = .ok (.aload_n 0, 1) := by decide +kernel
theorem dX4_match_44 : decode cX4_match 44 = .ok (.getfield 30, 3) := by decide +kernel
theorem dX4_match_47 : decode cX4_match 47 = .ok (.iload_n 3, 1) := by decide +kernel
theorem dX4_match_48 : decode cX4_match 48 = .ok (.iaload, 1) := by decide +kernel
theorem dX4_match_49 : decode cX4_match 49 = .ok (.invokevirtual 59, 3) := by decide +kernel
theorem dX4_match_52 : decode cX4_match 52 = .ok (.goto 203, 3) := by decide +kernel
theorem dX4_match_55 : decode cX4_match 55 = .ok (.aload_n 0, 1) := by decide +kernel
theorem dX4_match_56 : decode cX4_match 56 = .ok (.aload_n 0, 1) := by decide +kernel
theorem dX4_match_57 : decode cX4_match 57 = .ok (.getfield 27, 3) := by decide +kernel
theorem dX4_match_60 : decode cX4_match 60 = .ok (.iload_n 3, 1) := by decide +kernel
theorem dX4_match_61 : decode cX4_match 61 = .ok (.iaload, 1) := by decide +kernel
theorem dX4_match_62 : decode cX4_match 62 = .ok (.invokevirtual 48, 3) := by decide +kernel
theorem dX4_match_65 : decode cX4_match 65 = .ok (.istore 5, 2) := by decide +kernel
theorem dX4_match_67 : decode cX4_match 67 = .ok (.aload_n 0, 1) := by decide +kernel
theorem dX4_match_68 : decode cX4_match 68 = .ok (.aload_n 0, 1) := by decide +kernel
theorem dX4_match_69 : decode cX4_match 69 = .ok (.getfield 30, 3) := by decide +kernel
theorem dX4_match_72 : decode cX4_match 72 = .ok (.iload_n 3, 1) := by decide +kernel
theorem dX4_match_73 : decode cX4_match 73 = .ok (.iaload, 1) := by decide +kernel
theorem dX4_match_74 : decode cX4_match 74 = .ok (.invokevirtual 48, 3) := by decide +kernel
theorem dX4_match_77 : decode cX4_match 77 = .ok (.istore 6, 2) := by decide +kernel
theorem dX4_match_79 : decode cX4_match 79 = .ok (.iload 5, 2) := by decide +kernel
theorem dX4_match_81 : decode cX4_match 81 = .ok (.iload 6, 2) := by decide +kernel
theorem dX4_match_83 : decode cX4_match 83 = .ok (.if_icmp .ne 6, 3) := by decide +kernel
theorem dX4_match_86 : decode cX4_match 86 = .ok (.goto 169, 3) := by decide +kernel
theorem dX4_match_89 : decode cX4_match 89 = .ok (.aload_n 0, 1) := by decide +kernel
theorem dX4_match_90 : decode cX4_match 90 = .ok (.getfield 11, 3) := by decide +kernel
theorem dX4_match_93 : decode cX4_match 93 = .ok (.iload 5, 2) := by decide +kernel
theorem dX4_match_95 : decode cX4_match 95 = .ok (.iaload, 1) := by decide +kernel
theorem dX4_match_96 : decode cX4_match 96 = .ok (.iconst 4, 1) := by decide +kernel
theorem dX4_match_97 : decode cX4_match 97 = .ok (.if_icmp .eq 14, 3) := by decide +kernel
theorem dX4_match_100 : decode cX4_match 100 = .ok (.aload_n 0, 1) := by decide +kernel
theorem dX4_match_101 : decode cX4_match 101 = .ok (.getfield 11, 3) := by decide +kernel
theorem dX4_match_104 : decode cX4_match 104 = .ok (.iload 6, 2) := by decide +kernel
theorem dX4_match_106 : decode cX4_match 106 = .ok (.iaload, 1) := by decide +kernel
theorem dX4_match_107 : decode cX4_match 107 = .ok (.iconst 4, 1) := by decide +kernel
theorem dX4_match_108 : decode cX4_match 108 = .ok (.if_icmp .ne 76, 3) := by decide +kernel
theorem dX4_match_111 : decode cX4_match 111 = .ok (.aload_n 0, 1) := by decide +kernel
theorem dX4_match_112 : decode cX4_match 112 = .ok (.getfield 11, 3) := by decide +kernel
theorem dX4_match_115 : decode cX4_match 115 = .ok (.iload 5, 2) := by decide +kernel
theorem dX4_match_117 : decode cX4_match 117 = .ok (.iaload, 1) := by decide +kernel
theorem dX4_match_118 : decode cX4_match 118 = .ok (.iconst 4, 1) := by decide +kernel
theorem dX4_match_119 : decode cX4_match 119 = .ok (.if_icmp .ne 8, 3) := by decide +kernel
theorem dX4_match_122 : decode cX4_match 122 = .ok (.iload 5, 2) := by decide +kernel
theorem dX4_match_124 : decode cX4_match 124 = .ok (.goto 5, 3) := by decide +kernel
theorem dX4_match_127 : decode cX4_match 127 = .ok (.iload 6, 2) := by decide +kernel
theorem dX4_match_129 : decode cX4_match 129 = .ok (.istore 7, 2) := by decide +kernel
theorem dX4_match_131 : decode cX4_match 131 = .ok (.iload 7, 2) := by decide +kernel
theorem dX4_match_133 : decode cX4_match 133 = .ok (.iload 5, 2) := by decide +kernel
theorem dX4_match_135 : decode cX4_match 135 = .ok (.if_icmp .ne 8, 3) := by decide +kernel
theorem dX4_match_138 : decode cX4_match 138 = .ok (.iload 6, 2) := by decide +kernel
theorem dX4_match_140 : decode cX4_match 140 = .ok (.goto 5, 3) := by decide +kernel
theorem dX4_match_143 : decode cX4_match 143 = .ok (.iload 5, 2) := by decide +kernel
theorem dX4_match_145 : decode cX4_match 145 = .ok (.istore 8, 2) := by decide +kernel
theorem dX4_match_147 : decode cX4_match 147 = .ok (.aload_n 0, 1) := by decide +kernel
theorem dX4_match_148 : decode cX4_match 148 = .ok (.invokevirtual 63, 3) := by decide +kernel
theorem dX4_match_151 : decode cX4_match 151 = .ok (.aload_n 0, 1) := by decide +kernel
theorem dX4_match_152 : decode cX4_match 152 = .ok (.iload 8, 2) := by decide +kernel
theorem dX4_match_154 : decode cX4_match 154 = .ok (.invokevirtual 66, 3) := by decide +kernel
theorem dX4_match_157 : decode cX4_match 157 = .ok (.aload_n 0, 1) := by decide +kernel
theorem dX4_match_158 : decode cX4_match 158 = .ok (.getfield 21, 3) := by decide +kernel
theorem dX4_match_161 : decode cX4_match 161 = .ok (.iload 7, 2) := by decide +kernel
theorem dX4_match_163 : decode cX4_match 163 = .ok (.iaload, 1) := by decide +kernel
theorem dX4_match_164 : decode cX4_match 164 = .ok (.aload_n 0, 1) := by decide +kernel
theorem dX4_match_165 : decode cX4_match 165 = .ok (.getfield 44, 3) := by decide +kernel
theorem dX4_match_168 : decode cX4_match 168 = .ok (.if_icmp .ne 5, 3) := by decide +kernel
theorem dX4_match_171 : decode cX4_match 171 = .ok (.iconst 3, 1) := by decide +kernel
theorem dX4_match_172 : decode cX4_match 172 = .ok (.ireturn, 1) := by decide +kernel
theorem dX4_match_173 : decode cX4_match 173 = .ok (.aload_n 0, 1) := by decide +kernel
theorem dX4_match_174 : decode cX4_match 174 = .ok (.iload 7, 2) := by decide +kernel
theorem dX4_match_176 : decode cX4_match 176 = .ok (.iload 8, 2) := by decide +kernel
theorem dX4_match_178 : decode cX4_match 178 = .ok (.invokevirtual 59, 3) := by decide +kernel
theorem dX4_match_181 : decode cX4_match 181 = .ok (.goto 74, 3) := by decide +kernel
theorem dX4_match_184 : decode cX4_match 184 = .ok (.aload_n 0, 1) := by decide +kernel
theorem dX4_match_185 : decode cX4_match 185 = .ok (.getfield 11, 3) := by decide +kernel
theorem dX4_match_188 : decode cX4_match 188 = .ok (.iload 5, 2) := by decide +kernel
theorem dX4_match_190 : decode cX4_match 190 = .ok (.iaload, 1) := by decide +kernel
theorem dX4_match_191 : decode cX4_match 191 = .ok (.aload_n 0, 1) := by decide +kernel
theorem dX4_match_192 : decode cX4_match 192 = .ok (.getfield 11, 3) := by decide +kernel
theorem dX4_match_195 : decode cX4_match 195 = .ok (.iload 6, 2) := by decide +kernel
theorem dX4_match_197 : decode cX4_match 197 = .ok (.iaload, 1) := by decide +kernel
theorem dX4_match_198 : decode cX4_match 198 = .ok (.if_icmp .eq 5, 3) := by decide +kernel
theorem dX4_match_201 : decode cX4_match 201 = .ok (.iconst 2, 1) := by decide +kernel
theorem dX4_match_202 : decode cX4_match 202 = .ok (.ireturn, 1) := by decide +kernel
theorem dX4_match_203 : decode cX4_match 203 = .ok (.aload_n 0, 1) := by decide +kernel
theorem dX4_match_204 : decode cX4_match 204 = .ok (.iload_n 3, 1) := by decide +kernel
theorem dX4_match_205 : decode cX4_match 205 = .ok (.iconst (-1), 1) := by decide +kernel
theorem dX4_match_206 : decode cX4_match 206 = .ok (.iload 5, 2) := by decide +kernel
theorem dX4_match_208 : decode cX4_match 208 = .ok (.isub, 1) := by decide +kernel
theorem dX4_match_209 : decode cX4_match 209 = .ok (.iload 6, 2) := by decide +kernel
theorem dX4_match_211 : decode cX4_match 211 = .ok (.invokevirtual 56, 3) := by decide +kernel
theorem dX4_match_214 : decode cX4_match 214 = .ok (.istore_n 3, 1) := by decide +kernel
theorem dX4_match_215 : decode cX4_match 215 = .ok (.aload_n 0, 1) := by decide +kernel
theorem dX4_match_216 : decode cX4_match 216 = .ok (.iload_n 3, 1) := by decide +kernel
theorem dX4_match_217 : decode cX4_match 217 = .ok (.aload_n 0, 1) := by decide +kernel
theorem dX4_match_218 : decode cX4_match 218 = .ok (.getfield 18, 3) := by decide +kernel
theorem dX4_match_221 : decode cX4_match 221 = .ok (.iload 5, 2) := by decide +kernel
theorem dX4_match_223 : decode cX4_match 223 = .ok (.iaload, 1) := by decide +kernel
theorem dX4_match_224 : decode cX4_match 224 = .ok (.aload_n 0, 1) := by decide +kernel
theorem dX4_match_225 : decode cX4_match 225 = .ok (.getfield 18, 3) := by decide +kernel
theorem dX4_match_228 : decode cX4_match 228 = .ok (.iload 6, 2) := by decide +kernel
theorem dX4_match_230 : decode cX4_match 230 = .ok (.iaload, 1) := by decide +kernel
theorem dX4_match_231 : decode cX4_match 231 = .ok (.invokevirtual 56, 3) := by decide +kernel
theorem dX4_match_234 : decode cX4_match 234 = .ok (.istore_n 3, 1) := by decide +kernel
theorem dX4_match_235 : decode cX4_match 235 = .ok (.aload_n 0, 1) := by decide +kernel
theorem dX4_match_236 : decode cX4_match 236 = .ok (.iload_n 3, 1) := by decide +kernel
theorem dX4_match_237 : decode cX4_match 237 = .ok (.aload_n 0, 1) := by decide +kernel
theorem dX4_match_238 : decode cX4_match 238 = .ok (.getfield 15, 3) := by decide +kernel
theorem dX4_match_241 : decode cX4_match 241 = .ok (.iload 5, 2) := by decide +kernel
theorem dX4_match_243 : decode cX4_match 243 = .ok (.iaload, 1) := by decide +kernel
theorem dX4_match_244 : decode cX4_match 244 = .ok (.aload_n 0, 1) := by decide +kernel
theorem dX4_match_245 : decode cX4_match 245 = .ok (.getfield 15, 3) := by decide +kernel
theorem dX4_match_248 : decode cX4_match 248 = .ok (.iload 6, 2) := by decide +kernel
theorem dX4_match_250 : decode cX4_match 250 = .ok (.iaload, 1) := by decide +kernel
theorem dX4_match_251 : decode cX4_match 251 = .ok (.invokevirtual 56, 3) := by decide +kernel
theorem dX4_match_254 : decode cX4_match 254 = .ok (.istore_n 3, 1) := by decide +kernel
theorem dX4_match_255 : decode cX4_match 255 = .ok (.iinc 4 1, 3) := by decide +kernel
theorem dX4_match_258 : decode cX4_match 258 = .ok (.goto (-247), 3) := by decide +kernel
theorem dX4_match_261 : decode cX4_match 261 = .ok (.iconst 0, 1) := by decide +kernel
theorem dX4_match_262 : decode cX4_match 262 = .ok (.ireturn, 1) := by decide +kernel
section T4
variable {p : Program} {l : Launch} {e : Env} {R : Room} {s : State} {m : MethodId} {args : Array Value} {below : List Frame} {meth : Method} {c : Code} {D : va_G} {g : gT} {N : Nat} {ad ln : Nat → Nat}
def mX4_make_b17 (A : gM) : Option (gM × Int32) :=
  some (A, 0)
def mX4_make_b0 (A : gM) (x1 : Int32) (x2 : Int32) (x3 : Int32) : Option (gM × Int32) :=
  if (A 129 9) < 0 then
  mX4_make_b17 A
  else
  if (A 129 9) < 2600 then
  if g_in (A 129 9) 2600 = true then g_let (g_up A 130 (A 129 9).toNatClampNeg x1) fun A4 =>
  if g_in (A4 129 9) 2600 = true then g_let (g_up A4 131 (A4 129 9).toNatClampNeg x2) fun A6 =>
  if g_in (A6 129 9) 2600 = true then g_let (g_up A6 132 (A6 129 9).toNatClampNeg x3) fun A8 =>
  g_let (g_up A8 129 9 ((A8 129 9) + 1)) fun A9 =>
  some (A9, ((A9 129 9) - 1))
  else none
  else none
  else none
  else
  mX4_make_b17 A
def mX4_make (A : gM) (x1 : Int32) (x2 : Int32) (x3 : Int32) : Option (gM × Int32) := mX4_make_b0 A x1 x2 x3
set_option maxHeartbeats 2000000 in
set_option maxRecDepth 20000 in
theorem wX4_make_b17 (hN : 183 ≤ N) {A0 A' : gM} {r : Int32} (C : gC p R s m args meth c cX4_make RX4 4 D g (va_A (gw g ad ln A0 N) s.heap.size) 0) (hr : meth.sig.returnType = some .int)  {A : gM} (h : mX4_make_b17 A = some (A', r)) : gJ p l e R s m args below meth c (gEi below D g N ad ln A0 A' r args s) 4 D g (va_A (gw g ad ln A0 N) s.heap.size) N ad ln A [] 0 0 17 [] := by
  unfold mX4_make_b17 at h
  refine g_iconst (v := 0) C dX4_make_17 (by decide) ?_
  obtain ⟨rfl, rfl⟩ := Prod.mk.inj (Option.some.inj h)
  exact g_reti C hr dX4_make_18

set_option maxHeartbeats 2000000 in
set_option maxRecDepth 20000 in
theorem wX4_make_b0 (hN : 183 ≤ N) {A0 A' : gM} {r : Int32} (C : gC p R s m args meth c cX4_make RX4 4 D g (va_A (gw g ad ln A0 N) s.heap.size) 0) (hr : meth.sig.returnType = some .int)  {A : gM} {x1 : Int32} {x2 : Int32} {x3 : Int32} (h : mX4_make_b0 A x1 x2 x3 = some (A', r)) : gJ p l e R s m args below meth c (gEi below D g N ad ln A0 A' r args s) 4 D g (va_A (gw g ad ln A0 N) s.heap.size) N ad ln A [(0, gr 129), (1, gi x1), (2, gi x2), (3, gi x3)] 0 0 0 [] := by
  unfold mX4_make_b0 at h
  refine g_aload_n C 0 dX4_make_0 rfl ?_
  refine g_get (v := gi (A 129 9)) C 129 9 (by omega) rfl rfl gu_4 (by decide) qf_X4_36 rfl dX4_make_1 ?_
  refine g_if_lt C dX4_make_4 (tgt := 17) (by decide) (fun c1 => ?_) (fun c1 => ?_)
  · have h := g_tt c1 h
    refine g_sub [] rfl ?_
    exact wX4_make_b17 hN C hr h
  · have h := g_ff c1 h
    refine g_aload_n C 0 dX4_make_7 rfl ?_
    refine g_get (v := gi (A 129 9)) C 129 9 (by omega) rfl rfl gu_4 (by decide) qf_X4_36 rfl dX4_make_8 ?_
    refine g_sipush (v := 2600) C dX4_make_11 (by decide) ?_
    refine g_icmp_lt C dX4_make_14 (tgt := 19) (by decide) (fun c2 => ?_) (fun c2 => ?_)
    · have h := g_tt c2 h
      refine g_aload_n C 0 dX4_make_19 rfl ?_
      refine g_get (v := gr 130) C 129 0 (by omega) rfl rfl gu_4 (by decide) qf_X4_11 rfl dX4_make_20 ?_
      refine g_aload_n C 0 dX4_make_23 rfl ?_
      refine g_get (v := gi (A 129 9)) C 129 9 (by omega) rfl rfl gu_4 (by decide) qf_X4_36 rfl dX4_make_24 ?_
      refine g_iload_n C 1 dX4_make_27 rfl ?_
      obtain ⟨hg3, h⟩ := g_gd h
      obtain ⟨A4, eA4, h⟩ := g_lt h
      refine g_iast C 130 (by omega) rfl rfl hg3 eA4 dX4_make_28 ?_
      refine g_aload_n C 0 dX4_make_29 rfl ?_
      refine g_get (v := gr 131) C 129 1 (by omega) rfl rfl gu_4 (by decide) qf_X4_15 rfl dX4_make_30 ?_
      refine g_aload_n C 0 dX4_make_33 rfl ?_
      refine g_get (v := gi (A4 129 9)) C 129 9 (by omega) rfl rfl gu_4 (by decide) qf_X4_36 rfl dX4_make_34 ?_
      refine g_iload_n C 2 dX4_make_37 rfl ?_
      obtain ⟨hg5, h⟩ := g_gd h
      obtain ⟨A6, eA6, h⟩ := g_lt h
      refine g_iast C 131 (by omega) rfl rfl hg5 eA6 dX4_make_38 ?_
      refine g_aload_n C 0 dX4_make_39 rfl ?_
      refine g_get (v := gr 132) C 129 2 (by omega) rfl rfl gu_4 (by decide) qf_X4_18 rfl dX4_make_40 ?_
      refine g_aload_n C 0 dX4_make_43 rfl ?_
      refine g_get (v := gi (A6 129 9)) C 129 9 (by omega) rfl rfl gu_4 (by decide) qf_X4_36 rfl dX4_make_44 ?_
      refine g_iload_n C 3 dX4_make_47 rfl ?_
      obtain ⟨hg7, h⟩ := g_gd h
      obtain ⟨A8, eA8, h⟩ := g_lt h
      refine g_iast C 132 (by omega) rfl rfl hg7 eA8 dX4_make_48 ?_
      refine g_aload_n C 0 dX4_make_49 rfl ?_
      refine g_dup_r C dX4_make_50 ?_
      refine g_get (v := gi (A8 129 9)) C 129 9 (by omega) rfl rfl gu_4 (by decide) qf_X4_36 rfl dX4_make_51 ?_
      refine g_iconst (v := 1) C dX4_make_54 (by decide) ?_
      refine g_iadd C dX4_make_55 ?_
      obtain ⟨A9, eA9, h⟩ := g_lt h
      refine g_put C 129 9 tyX4 tyX4_ok nmX4 (by omega) rfl rfl gu_4 (by decide) qf_X4_36 rfl (by decide +kernel) (Nat.le_of_ble_eq_true rfl) rfl eA9 dX4_make_56 ?_
      refine g_aload_n C 0 dX4_make_59 rfl ?_
      refine g_get (v := gi (A9 129 9)) C 129 9 (by omega) rfl rfl gu_4 (by decide) qf_X4_36 rfl dX4_make_60 ?_
      refine g_iconst (v := 1) C dX4_make_63 (by decide) ?_
      refine g_isub C dX4_make_64 ?_
      obtain ⟨rfl, rfl⟩ := Prod.mk.inj (Option.some.inj h)
      exact g_reti C hr dX4_make_65
    · have h := g_ff c2 h
      refine g_sub [] rfl ?_
      exact wX4_make_b17 hN C hr h

set_option maxHeartbeats 2000000 in
set_option maxRecDepth 20000 in
theorem kX4_make {l : Launch} {D : va_G} {g : gT} {N : Nat} {ad ln : Nat → Nat} (hN : 183 ≤ N) {A A' : gM} {x1 : Int32} {x2 : Int32} {x3 : Int32} {r : Int32} (h : mX4_make A x1 x2 x3 = some (A', r)) : gKi l yX4_make cX4_make 4 (some .int) (0) D g N ad ln A [gr 129, gi x1, gi x2, gi x3] A' r := by
  refine g_meti (by decide) (Nat.le_of_ble_eq_true rfl) ?_
  intro p e s m args below meth c C hr
  refine g_sub [0, 1, 2, 3] rfl ?_
  exact wX4_make_b0 hN C hr h
def mX4_newVariable_b0 (A : gM) : Option (gM × Int32) :=
  (mX4_make A 4 (-1) (-1)).bind fun q1 =>
  some (q1.1, q1.2)
def mX4_newVariable (A : gM) : Option (gM × Int32) := mX4_newVariable_b0 A
set_option maxHeartbeats 2000000 in
set_option maxRecDepth 20000 in
theorem wX4_newVariable_b0 (hN : 183 ≤ N) {A0 A' : gM} {r : Int32} (C : gC p R s m args meth c cX4_newVariable RX4 1 D g (va_A (gw g ad ln A0 N) s.heap.size) 1) (hr : meth.sig.returnType = some .int)  {A : gM} (h : mX4_newVariable_b0 A = some (A', r)) : gJ p l e R s m args below meth c (gEi below D g N ad ln A0 A' r args s) 1 D g (va_A (gw g ad ln A0 N) s.heap.size) N ad ln A [(0, gr 129)] 0 0 0 [] := by
  unfold mX4_newVariable_b0 at h
  refine g_aload_n C 0 dX4_newVariable_0 rfl ?_
  refine g_iconst (v := 4) C dX4_newVariable_1 (by decide) ?_
  refine g_iconst (v := (-1)) C dX4_newVariable_2 (by decide) ?_
  refine g_iconst (v := (-1)) C dX4_newVariable_3 (by decide) ?_
  obtain ⟨q1, eq1, h⟩ := g_bd h
  refine g_calliV C 129 [gi 4, gi (-1), gi (-1)] (kX4_make hN eq1) qs_X4_40 (by omega) (by omega) rfl rfl rfl rfl (Nat.le_of_ble_eq_true rfl) ⟨Nat.zero_le _, Nat.zero_le _⟩ dX4_newVariable_4 ?_
  obtain ⟨rfl, rfl⟩ := Prod.mk.inj (Option.some.inj h)
  exact g_reti C hr dX4_newVariable_7

set_option maxHeartbeats 2000000 in
set_option maxRecDepth 20000 in
theorem kX4_newVariable {l : Launch} {D : va_G} {g : gT} {N : Nat} {ad ln : Nat → Nat} (hN : 183 ≤ N) {A A' : gM} {r : Int32} (h : mX4_newVariable A = some (A', r)) : gKi l yX4_newVariable cX4_newVariable 1 (some .int) (1) D g N ad ln A [gr 129] A' r := by
  refine g_meti (by decide) (Nat.le_of_ble_eq_true rfl) ?_
  intro p e s m args below meth c C hr
  refine g_sub [0] rfl ?_
  exact wX4_newVariable_b0 hN C hr h
def mX4_codeOfNode_b0 (A : gM) (x1 : Int32) : Option (gM × Int32) :=
  some (A, (100 + x1))
def mX4_codeOfNode (A : gM) (x1 : Int32) : Option (gM × Int32) := mX4_codeOfNode_b0 A x1
set_option maxHeartbeats 2000000 in
set_option maxRecDepth 20000 in
theorem wX4_codeOfNode_b0 (hN : 183 ≤ N) {A0 A' : gM} {r : Int32} (C : gC p R s m args meth c cX4_codeOfNode RX4 2 D g (va_A (gw g ad ln A0 N) s.heap.size) 0) (hr : meth.sig.returnType = some .int)  {A : gM} {x1 : Int32} (h : mX4_codeOfNode_b0 A x1 = some (A', r)) : gJ p l e R s m args below meth c (gEi below D g N ad ln A0 A' r args s) 2 D g (va_A (gw g ad ln A0 N) s.heap.size) N ad ln A [(1, gi x1)] 0 0 0 [] := by
  unfold mX4_codeOfNode_b0 at h
  refine g_bipush (v := 100) C dX4_codeOfNode_0 (by decide) ?_
  refine g_iload_n C 0 dX4_codeOfNode_2 rfl ?_
  refine g_iadd C dX4_codeOfNode_3 ?_
  obtain ⟨rfl, rfl⟩ := Prod.mk.inj (Option.some.inj h)
  exact g_reti C hr dX4_codeOfNode_4

set_option maxHeartbeats 2000000 in
set_option maxRecDepth 20000 in
theorem kX4_codeOfNode {l : Launch} {D : va_G} {g : gT} {N : Nat} {ad ln : Nat → Nat} (hN : 183 ≤ N) {A A' : gM} {x1 : Int32} {r : Int32} (h : mX4_codeOfNode A x1 = some (A', r)) : gKi l yX4_codeOfNode cX4_codeOfNode 2 (some .int) (0) D g N ad ln A [gr 129, gi x1] A' r := by
  refine g_meti (by decide) (Nat.le_of_ble_eq_true rfl) ?_
  intro p e s m args below meth c C hr
  refine g_sub [1] rfl ?_
  exact wX4_codeOfNode_b0 hN C hr h
def mX4_forgetMarks_b0 (A : gM) : Option (gM) :=
  g_let (g_up A 129 10 ((A 129 10) + 1)) fun A1 =>
  some A1
def mX4_forgetMarks (A : gM) : Option (gM) := mX4_forgetMarks_b0 A
set_option maxHeartbeats 2000000 in
set_option maxRecDepth 20000 in
theorem wX4_forgetMarks_b0 (hN : 183 ≤ N) {A0 A' : gM} (C : gC p R s m args meth c cX4_forgetMarks RX4 1 D g (va_A (gw g ad ln A0 N) s.heap.size) 0) (hr : meth.sig.returnType = none)  {A : gM} (h : mX4_forgetMarks_b0 A = some A') : gJ p l e R s m args below meth c (gEv below D g N ad ln A0 A' args s) 1 D g (va_A (gw g ad ln A0 N) s.heap.size) N ad ln A [(0, gr 129)] 0 0 0 [] := by
  unfold mX4_forgetMarks_b0 at h
  refine g_aload_n C 0 dX4_forgetMarks_0 rfl ?_
  refine g_dup_r C dX4_forgetMarks_1 ?_
  refine g_get (v := gi (A 129 10)) C 129 10 (by omega) rfl rfl gu_4 (by decide) qf_X4_44 rfl dX4_forgetMarks_2 ?_
  refine g_iconst (v := 1) C dX4_forgetMarks_5 (by decide) ?_
  refine g_iadd C dX4_forgetMarks_6 ?_
  obtain ⟨A1, eA1, h⟩ := g_lt h
  refine g_put C 129 10 tyX4 tyX4_ok nmX4 (by omega) rfl rfl gu_4 (by decide) qf_X4_44 rfl (by decide +kernel) (Nat.le_of_ble_eq_true rfl) rfl eA1 dX4_forgetMarks_7 ?_
  obtain rfl := Option.some.inj h
  exact g_retv C hr dX4_forgetMarks_10

set_option maxHeartbeats 2000000 in
set_option maxRecDepth 20000 in
theorem kX4_forgetMarks {l : Launch} {D : va_G} {g : gT} {N : Nat} {ad ln : Nat → Nat} (hN : 183 ≤ N) {A A' : gM} (h : mX4_forgetMarks A = some A') : gKv l yX4_forgetMarks cX4_forgetMarks 1 (none) (0) D g N ad ln A [gr 129] A' := by
  refine g_metv (by decide) (Nat.le_of_ble_eq_true rfl) ?_
  intro p e s m args below meth c C hr
  refine g_sub [0] rfl ?_
  exact wX4_forgetMarks_b0 hN C hr h
def mX4_isNode_b11 (A : gM) (s0 : Int32) : Option (gM × Int32) :=
  if (s0 : Int32) = 0 ∨ (s0 : Int32) = 1 then some (A, s0) else none
def mX4_isNode_b0 (A : gM) (x1 : Int32) : Option (gM × Int32) :=
  if x1 < 100 then
  mX4_isNode_b11 A 0
  else
  mX4_isNode_b11 A 1
def mX4_isNode (A : gM) (x1 : Int32) : Option (gM × Int32) := mX4_isNode_b0 A x1
set_option maxHeartbeats 2000000 in
set_option maxRecDepth 20000 in
theorem wX4_isNode_b11 (hN : 183 ≤ N) {A0 A' : gM} {r : Int32} (C : gC p R s m args meth c cX4_isNode RX4 2 D g (va_A (gw g ad ln A0 N) s.heap.size) 0) (hr : meth.sig.returnType = some .boolean)  {A : gM} {s0 : Int32} (h : mX4_isNode_b11 A s0 = some (A', r)) : gJ p l e R s m args below meth c (gEi below D g N ad ln A0 A' r args s) 2 D g (va_A (gw g ad ln A0 N) s.heap.size) N ad ln A [] 0 0 11 [gi s0] := by
  unfold mX4_isNode_b11 at h
  obtain ⟨hz1, h⟩ := g_gd h
  obtain ⟨rfl, rfl⟩ := Prod.mk.inj (Option.some.inj h)
  exact g_retz C hr hz1 dX4_isNode_11

set_option maxHeartbeats 2000000 in
set_option maxRecDepth 20000 in
theorem wX4_isNode_b0 (hN : 183 ≤ N) {A0 A' : gM} {r : Int32} (C : gC p R s m args meth c cX4_isNode RX4 2 D g (va_A (gw g ad ln A0 N) s.heap.size) 0) (hr : meth.sig.returnType = some .boolean)  {A : gM} {x1 : Int32} (h : mX4_isNode_b0 A x1 = some (A', r)) : gJ p l e R s m args below meth c (gEi below D g N ad ln A0 A' r args s) 2 D g (va_A (gw g ad ln A0 N) s.heap.size) N ad ln A [(1, gi x1)] 0 0 0 [] := by
  unfold mX4_isNode_b0 at h
  refine g_iload_n C 0 dX4_isNode_0 rfl ?_
  refine g_bipush (v := 100) C dX4_isNode_1 (by decide) ?_
  refine g_icmp_lt C dX4_isNode_3 (tgt := 10) (by decide) (fun c1 => ?_) (fun c1 => ?_)
  · have h := g_tt c1 h
    refine g_iconst (v := 0) C dX4_isNode_10 (by decide) ?_
    refine g_sub [] rfl ?_
    exact wX4_isNode_b11 hN C hr h
  · have h := g_ff c1 h
    refine g_iconst (v := 1) C dX4_isNode_6 (by decide) ?_
    refine g_goto C dX4_isNode_7 (tgt := 11) (by decide) ?_
    refine g_sub [] rfl ?_
    exact wX4_isNode_b11 hN C hr h

set_option maxHeartbeats 2000000 in
set_option maxRecDepth 20000 in
theorem kX4_isNode {l : Launch} {D : va_G} {g : gT} {N : Nat} {ad ln : Nat → Nat} (hN : 183 ≤ N) {A A' : gM} {x1 : Int32} {r : Int32} (h : mX4_isNode A x1 = some (A', r)) : gKi l yX4_isNode cX4_isNode 2 (some .boolean) (0) D g N ad ln A [gr 129, gi x1] A' r := by
  refine g_meti (by decide) (Nat.le_of_ble_eq_true rfl) ?_
  intro p e s m args below meth c C hr
  refine g_sub [1] rfl ?_
  exact wX4_isNode_b0 hN C hr h
def mX4_nodeOfCode_b0 (A : gM) (x1 : Int32) : Option (gM × Int32) :=
  some (A, (x1 - 100))
def mX4_nodeOfCode (A : gM) (x1 : Int32) : Option (gM × Int32) := mX4_nodeOfCode_b0 A x1
set_option maxHeartbeats 2000000 in
set_option maxRecDepth 20000 in
theorem wX4_nodeOfCode_b0 (hN : 183 ≤ N) {A0 A' : gM} {r : Int32} (C : gC p R s m args meth c cX4_nodeOfCode RX4 2 D g (va_A (gw g ad ln A0 N) s.heap.size) 0) (hr : meth.sig.returnType = some .int)  {A : gM} {x1 : Int32} (h : mX4_nodeOfCode_b0 A x1 = some (A', r)) : gJ p l e R s m args below meth c (gEi below D g N ad ln A0 A' r args s) 2 D g (va_A (gw g ad ln A0 N) s.heap.size) N ad ln A [(1, gi x1)] 0 0 0 [] := by
  unfold mX4_nodeOfCode_b0 at h
  refine g_iload_n C 0 dX4_nodeOfCode_0 rfl ?_
  refine g_bipush (v := 100) C dX4_nodeOfCode_1 (by decide) ?_
  refine g_isub C dX4_nodeOfCode_3 ?_
  obtain ⟨rfl, rfl⟩ := Prod.mk.inj (Option.some.inj h)
  exact g_reti C hr dX4_nodeOfCode_4

set_option maxHeartbeats 2000000 in
set_option maxRecDepth 20000 in
theorem kX4_nodeOfCode {l : Launch} {D : va_G} {g : gT} {N : Nat} {ad ln : Nat → Nat} (hN : 183 ≤ N) {A A' : gM} {x1 : Int32} {r : Int32} (h : mX4_nodeOfCode A x1 = some (A', r)) : gKi l yX4_nodeOfCode cX4_nodeOfCode 2 (some .int) (0) D g N ad ln A [gr 129, gi x1] A' r := by
  refine g_meti (by decide) (Nat.le_of_ble_eq_true rfl) ?_
  intro p e s m args below meth c C hr
  refine g_sub [1] rfl ?_
  exact wX4_nodeOfCode_b0 hN C hr h
def mX4_isPair_b15 (A : gM) (s0 : Int32) : Option (gM × Int32) :=
  if (s0 : Int32) = 0 ∨ (s0 : Int32) = 1 then some (A, s0) else none
def mX4_isPair_b10 (A : gM) : Option (gM × Int32) :=
  mX4_isPair_b15 A 1
def mX4_isPair_b0 (A : gM) (x1 : Int32) : Option (gM × Int32) :=
  if x1 = 2 then
  mX4_isPair_b10 A
  else
  if x1 = 3 then
  mX4_isPair_b10 A
  else
  mX4_isPair_b15 A 0
def mX4_isPair (A : gM) (x1 : Int32) : Option (gM × Int32) := mX4_isPair_b0 A x1
set_option maxHeartbeats 2000000 in
set_option maxRecDepth 20000 in
theorem wX4_isPair_b15 (hN : 183 ≤ N) {A0 A' : gM} {r : Int32} (C : gC p R s m args meth c cX4_isPair RX4 2 D g (va_A (gw g ad ln A0 N) s.heap.size) 0) (hr : meth.sig.returnType = some .boolean)  {A : gM} {s0 : Int32} (h : mX4_isPair_b15 A s0 = some (A', r)) : gJ p l e R s m args below meth c (gEi below D g N ad ln A0 A' r args s) 2 D g (va_A (gw g ad ln A0 N) s.heap.size) N ad ln A [] 0 0 15 [gi s0] := by
  unfold mX4_isPair_b15 at h
  obtain ⟨hz1, h⟩ := g_gd h
  obtain ⟨rfl, rfl⟩ := Prod.mk.inj (Option.some.inj h)
  exact g_retz C hr hz1 dX4_isPair_15

set_option maxHeartbeats 2000000 in
set_option maxRecDepth 20000 in
theorem wX4_isPair_b10 (hN : 183 ≤ N) {A0 A' : gM} {r : Int32} (C : gC p R s m args meth c cX4_isPair RX4 2 D g (va_A (gw g ad ln A0 N) s.heap.size) 0) (hr : meth.sig.returnType = some .boolean)  {A : gM} (h : mX4_isPair_b10 A = some (A', r)) : gJ p l e R s m args below meth c (gEi below D g N ad ln A0 A' r args s) 2 D g (va_A (gw g ad ln A0 N) s.heap.size) N ad ln A [] 0 0 10 [] := by
  unfold mX4_isPair_b10 at h
  refine g_iconst (v := 1) C dX4_isPair_10 (by decide) ?_
  refine g_goto C dX4_isPair_11 (tgt := 15) (by decide) ?_
  refine g_sub [] rfl ?_
  exact wX4_isPair_b15 hN C hr h

set_option maxHeartbeats 2000000 in
set_option maxRecDepth 20000 in
theorem wX4_isPair_b0 (hN : 183 ≤ N) {A0 A' : gM} {r : Int32} (C : gC p R s m args meth c cX4_isPair RX4 2 D g (va_A (gw g ad ln A0 N) s.heap.size) 0) (hr : meth.sig.returnType = some .boolean)  {A : gM} {x1 : Int32} (h : mX4_isPair_b0 A x1 = some (A', r)) : gJ p l e R s m args below meth c (gEi below D g N ad ln A0 A' r args s) 2 D g (va_A (gw g ad ln A0 N) s.heap.size) N ad ln A [(1, gi x1)] 0 0 0 [] := by
  unfold mX4_isPair_b0 at h
  refine g_iload_n C 0 dX4_isPair_0 rfl ?_
  refine g_iconst (v := 2) C dX4_isPair_1 (by decide) ?_
  refine g_icmp_eq C dX4_isPair_2 (tgt := 10) (by decide) (fun c1 => ?_) (fun c1 => ?_)
  · have h := g_tt c1 h
    refine g_sub [] rfl ?_
    exact wX4_isPair_b10 hN C hr h
  · have h := g_ff c1 h
    refine g_iload_n C 0 dX4_isPair_5 rfl ?_
    refine g_iconst (v := 3) C dX4_isPair_6 (by decide) ?_
    refine g_icmp_ne C dX4_isPair_7 (tgt := 14) (by decide) (fun c2 => ?_) (fun c2 => ?_)
    · have h := g_ff c2 h
      refine g_iconst (v := 0) C dX4_isPair_14 (by decide) ?_
      refine g_sub [] rfl ?_
      exact wX4_isPair_b15 hN C hr h
    · have h := g_tt c2 h
      refine g_sub [] rfl ?_
      exact wX4_isPair_b10 hN C hr h

set_option maxHeartbeats 2000000 in
set_option maxRecDepth 20000 in
theorem kX4_isPair {l : Launch} {D : va_G} {g : gT} {N : Nat} {ad ln : Nat → Nat} (hN : 183 ≤ N) {A A' : gM} {x1 : Int32} {r : Int32} (h : mX4_isPair A x1 = some (A', r)) : gKi l yX4_isPair cX4_isPair 2 (some .boolean) (0) D g N ad ln A [gr 129, gi x1] A' r := by
  refine g_meti (by decide) (Nat.le_of_ble_eq_true rfl) ?_
  intro p e s m args below meth c C hr
  refine g_sub [1] rfl ?_
  exact wX4_isPair_b0 hN C hr h
def mX4_resolve_b61 (A : gM) (s0 : Int32) : Option (gM × Int32) :=
  some (A, s0)
def mX4_resolve_b60 (A : gM) : Option (gM × Int32) :=
  mX4_resolve_b61 A 0
def mX4_resolve_b45 (A : gM) (x2 : Int32) : Option (gM × Int32) :=
  if x2 < 0 then
  mX4_resolve_b60 A
  else
  if 2600 ≤ x2 then
  mX4_resolve_b60 A
  else
  mX4_resolve_b61 A x2
def mX4_resolve_b4 (K4 : gM → Int32 → Int32 → Option (gM × Int32)) (A : gM) (x2 : Int32) (x3 : Int32) : Option (gM × Int32) :=
  if 2600 ≤ x3 then
  mX4_resolve_b45 A x2
  else
  if x2 < 0 then
  mX4_resolve_b45 A x2
  else
  if 2600 ≤ x2 then
  mX4_resolve_b45 A x2
  else
  if g_in x2 2600 = true then
  if (A 130 x2.toNatClampNeg) = 5 then
  if g_in x2 2600 = true then
  g_let (A 131 x2.toNatClampNeg) fun v7 =>
  g_let (x3 + 1) fun v8 =>
  K4 A v7 v8
  else none
  else
  mX4_resolve_b45 A x2
  else none
def mX4_resolve_L4 : Nat → gM → Int32 → Int32 → Option (gM × Int32)
  | 0 => fun _ _ _ => none
  | f + 1 => mX4_resolve_b4 (mX4_resolve_L4 f)
def mX4_resolve_b0 (A : gM) (x1 : Int32) : Option (gM × Int32) :=
  mX4_resolve_L4 gF A x1 0
def mX4_resolve (A : gM) (x1 : Int32) : Option (gM × Int32) := mX4_resolve_b0 A x1
set_option maxHeartbeats 2000000 in
set_option maxRecDepth 20000 in
theorem wX4_resolve_b61 (hN : 183 ≤ N) {A0 A' : gM} {r : Int32} (C : gC p R s m args meth c cX4_resolve RX4 4 D g (va_A (gw g ad ln A0 N) s.heap.size) 0) (hr : meth.sig.returnType = some .int)  {A : gM} {s0 : Int32} (h : mX4_resolve_b61 A s0 = some (A', r)) : gJ p l e R s m args below meth c (gEi below D g N ad ln A0 A' r args s) 4 D g (va_A (gw g ad ln A0 N) s.heap.size) N ad ln A [] 0 0 61 [gi s0] := by
  unfold mX4_resolve_b61 at h
  obtain ⟨rfl, rfl⟩ := Prod.mk.inj (Option.some.inj h)
  exact g_reti C hr dX4_resolve_61

set_option maxHeartbeats 2000000 in
set_option maxRecDepth 20000 in
theorem wX4_resolve_b60 (hN : 183 ≤ N) {A0 A' : gM} {r : Int32} (C : gC p R s m args meth c cX4_resolve RX4 4 D g (va_A (gw g ad ln A0 N) s.heap.size) 0) (hr : meth.sig.returnType = some .int)  {A : gM} (h : mX4_resolve_b60 A = some (A', r)) : gJ p l e R s m args below meth c (gEi below D g N ad ln A0 A' r args s) 4 D g (va_A (gw g ad ln A0 N) s.heap.size) N ad ln A [] 0 0 60 [] := by
  unfold mX4_resolve_b60 at h
  refine g_iconst (v := 0) C dX4_resolve_60 (by decide) ?_
  refine g_sub [] rfl ?_
  exact wX4_resolve_b61 hN C hr h

set_option maxHeartbeats 2000000 in
set_option maxRecDepth 20000 in
theorem wX4_resolve_b45 (hN : 183 ≤ N) {A0 A' : gM} {r : Int32} (C : gC p R s m args meth c cX4_resolve RX4 4 D g (va_A (gw g ad ln A0 N) s.heap.size) 0) (hr : meth.sig.returnType = some .int)  {A : gM} {x2 : Int32} (h : mX4_resolve_b45 A x2 = some (A', r)) : gJ p l e R s m args below meth c (gEi below D g N ad ln A0 A' r args s) 4 D g (va_A (gw g ad ln A0 N) s.heap.size) N ad ln A [(2, gi x2)] 0 0 45 [] := by
  unfold mX4_resolve_b45 at h
  refine g_iload_n C 0 dX4_resolve_45 rfl ?_
  refine g_if_lt C dX4_resolve_46 (tgt := 60) (by decide) (fun c1 => ?_) (fun c1 => ?_)
  · have h := g_tt c1 h
    refine g_sub [] rfl ?_
    exact wX4_resolve_b60 hN C hr h
  · have h := g_ff c1 h
    refine g_iload_n C 0 dX4_resolve_49 rfl ?_
    refine g_sipush (v := 2600) C dX4_resolve_50 (by decide) ?_
    refine g_icmp_ge C dX4_resolve_53 (tgt := 60) (by decide) (fun c2 => ?_) (fun c2 => ?_)
    · have h := g_tt c2 h
      refine g_sub [] rfl ?_
      exact wX4_resolve_b60 hN C hr h
    · have h := g_ff c2 h
      refine g_iload_n C 0 dX4_resolve_56 rfl ?_
      refine g_goto C dX4_resolve_57 (tgt := 61) (by decide) ?_
      refine g_sub [] rfl ?_
      exact wX4_resolve_b61 hN C hr h

set_option maxHeartbeats 2000000 in
set_option maxRecDepth 20000 in
theorem wX4_resolve_b4 (hN : 183 ≤ N) {A0 A' : gM} {r : Int32} (C : gC p R s m args meth c cX4_resolve RX4 4 D g (va_A (gw g ad ln A0 N) s.heap.size) 0) (hr : meth.sig.returnType = some .int) {K4 : gM → Int32 → Int32 → Option (gM × Int32)} (hK4 : ∀ {A : gM} {x2 : Int32} {x3 : Int32}, K4 A x2 x3 = some (A', r) → gJ p l e R s m args below meth c (gEi below D g N ad ln A0 A' r args s) 4 D g (va_A (gw g ad ln A0 N) s.heap.size) N ad ln A [(0, gr 129), (2, gi x2), (3, gi x3)] 0 0 4 []) {A : gM} {x2 : Int32} {x3 : Int32} (h : mX4_resolve_b4 K4 A x2 x3 = some (A', r)) : gJ p l e R s m args below meth c (gEi below D g N ad ln A0 A' r args s) 4 D g (va_A (gw g ad ln A0 N) s.heap.size) N ad ln A [(0, gr 129), (2, gi x2), (3, gi x3)] 0 0 4 [] := by
  unfold mX4_resolve_b4 at h
  refine g_iload_n C 2 dX4_resolve_4 rfl ?_
  refine g_sipush (v := 2600) C dX4_resolve_5 (by decide) ?_
  refine g_icmp_ge C dX4_resolve_8 (tgt := 45) (by decide) (fun c1 => ?_) (fun c1 => ?_)
  · have h := g_tt c1 h
    refine g_sub [1] rfl ?_
    exact wX4_resolve_b45 hN C hr h
  · have h := g_ff c1 h
    refine g_iload_n C 1 dX4_resolve_11 rfl ?_
    refine g_if_lt C dX4_resolve_12 (tgt := 45) (by decide) (fun c2 => ?_) (fun c2 => ?_)
    · have h := g_tt c2 h
      refine g_sub [1] rfl ?_
      exact wX4_resolve_b45 hN C hr h
    · have h := g_ff c2 h
      refine g_iload_n C 1 dX4_resolve_15 rfl ?_
      refine g_sipush (v := 2600) C dX4_resolve_16 (by decide) ?_
      refine g_icmp_ge C dX4_resolve_19 (tgt := 45) (by decide) (fun c3 => ?_) (fun c3 => ?_)
      · have h := g_tt c3 h
        refine g_sub [1] rfl ?_
        exact wX4_resolve_b45 hN C hr h
      · have h := g_ff c3 h
        refine g_aload_n C 0 dX4_resolve_22 rfl ?_
        refine g_get (v := gr 130) C 129 0 (by omega) rfl rfl gu_4 (by decide) qf_X4_11 rfl dX4_resolve_23 ?_
        refine g_iload_n C 1 dX4_resolve_26 rfl ?_
        obtain ⟨hg4, h⟩ := g_gd h
        refine g_iald C 130 (by omega) rfl rfl hg4 dX4_resolve_27 ?_
        refine g_iconst (v := 5) C dX4_resolve_28 (by decide) ?_
        refine g_icmp_ne C dX4_resolve_29 (tgt := 45) (by decide) (fun c5 => ?_) (fun c5 => ?_)
        · have h := g_ff c5 h
          refine g_sub [1] rfl ?_
          exact wX4_resolve_b45 hN C hr h
        · have h := g_tt c5 h
          refine g_aload_n C 0 dX4_resolve_32 rfl ?_
          refine g_get (v := gr 131) C 129 1 (by omega) rfl rfl gu_4 (by decide) qf_X4_15 rfl dX4_resolve_33 ?_
          refine g_iload_n C 1 dX4_resolve_36 rfl ?_
          obtain ⟨hg6, h⟩ := g_gd h
          refine g_iald C 131 (by omega) rfl rfl hg6 dX4_resolve_37 ?_
          obtain ⟨v7, ev7, h⟩ := g_lt h
          refine g_topi ev7 ?_
          refine g_istore_n C dX4_resolve_38 (by decide) rfl ?_
          obtain ⟨v8, ev8, h⟩ := g_lt h
          refine g_iinc C 2 dX4_resolve_39 rfl ev8 (by decide) rfl ?_
          refine g_goto C dX4_resolve_42 (tgt := 4) (by decide) ?_
          refine g_sub [2, 1, 0] rfl ?_
          exact hK4 h

set_option maxHeartbeats 2000000 in
set_option maxRecDepth 20000 in
theorem wX4_resolve_L4 (hN : 183 ≤ N) {A0 A' : gM} {r : Int32} (C : gC p R s m args meth c cX4_resolve RX4 4 D g (va_A (gw g ad ln A0 N) s.heap.size) 0) (hr : meth.sig.returnType = some .int)  : ∀ (f : Nat) {A : gM} {x2 : Int32} {x3 : Int32}, mX4_resolve_L4 f A x2 x3 = some (A', r) → gJ p l e R s m args below meth c (gEi below D g N ad ln A0 A' r args s) 4 D g (va_A (gw g ad ln A0 N) s.heap.size) N ad ln A [(0, gr 129), (2, gi x2), (3, gi x3)] 0 0 4 []
  | 0, A, x2, x3, h => by cases h
  | f + 1, A, x2, x3, h => wX4_resolve_b4 hN C hr (fun {A} {x2} {x3} h => wX4_resolve_L4 hN C hr f h) h
set_option maxHeartbeats 2000000 in
set_option maxRecDepth 20000 in
theorem wX4_resolve_b0 (hN : 183 ≤ N) {A0 A' : gM} {r : Int32} (C : gC p R s m args meth c cX4_resolve RX4 4 D g (va_A (gw g ad ln A0 N) s.heap.size) 0) (hr : meth.sig.returnType = some .int)  {A : gM} {x1 : Int32} (h : mX4_resolve_b0 A x1 = some (A', r)) : gJ p l e R s m args below meth c (gEi below D g N ad ln A0 A' r args s) 4 D g (va_A (gw g ad ln A0 N) s.heap.size) N ad ln A [(0, gr 129), (1, gi x1)] 0 0 0 [] := by
  unfold mX4_resolve_b0 at h
  refine g_iload_n C 1 dX4_resolve_0 rfl ?_
  refine g_istore_n C dX4_resolve_1 (by decide) rfl ?_
  refine g_iconst (v := 0) C dX4_resolve_2 (by decide) ?_
  refine g_istore_n C dX4_resolve_3 (by decide) rfl ?_
  refine g_sub [2, 1, 0] rfl ?_
  exact wX4_resolve_L4 hN C hr gF h

set_option maxHeartbeats 2000000 in
set_option maxRecDepth 20000 in
theorem kX4_resolve {l : Launch} {D : va_G} {g : gT} {N : Nat} {ad ln : Nat → Nat} (hN : 183 ≤ N) {A A' : gM} {x1 : Int32} {r : Int32} (h : mX4_resolve A x1 = some (A', r)) : gKi l yX4_resolve cX4_resolve 4 (some .int) (0) D g N ad ln A [gr 129, gi x1] A' r := by
  refine g_meti (by decide) (Nat.le_of_ble_eq_true rfl) ?_
  intro p e s m args below meth c C hr
  refine g_sub [0, 1] rfl ?_
  exact wX4_resolve_b0 hN C hr h
def mX4_markWithin_b121 (A : gM) : Option (gM) :=
  some A
def mX4_markWithin_b115 (K11 : gM → Int32 → Int32 → Option (gM)) (A : gM) (x2 : Int32) (x3 : Int32) : Option (gM) :=
  g_let (x3 + 1) fun v1 =>
  K11 A x2 v1
def mX4_markWithin_b11 (K11 : gM → Int32 → Int32 → Option (gM)) (A : gM) (x2 : Int32) (x3 : Int32) : Option (gM) :=
  if x2 ≤ 0 then
  mX4_markWithin_b121 A
  else
  if 1000000 ≤ x3 then
  mX4_markWithin_b121 A
  else
  g_let (x2 + (-1)) fun v3 =>
  if g_in v3 5208 = true then
  (mX4_resolve A (A 134 v3.toNatClampNeg)).bind fun q5 =>
  if g_in q5.2 2600 = true then
  if (q5.1 133 q5.2.toNatClampNeg) = (q5.1 129 10) then
  mX4_markWithin_b115 K11 q5.1 v3 x3
  else
  if g_in q5.2 2600 = true then g_let (g_up q5.1 133 q5.2.toNatClampNeg (q5.1 129 10)) fun A9 =>
  if g_in q5.2 2600 = true then
  (mX4_isPair A9 (A9 130 q5.2.toNatClampNeg)).bind fun q11 =>
  if q11.2 = 0 then
  mX4_markWithin_b115 K11 q11.1 v3 x3
  else
  if 5208 < (v3 + 2) then
  mX4_markWithin_b115 K11 q11.1 v3 x3
  else
  if g_in q5.2 2600 = true then
  if g_in v3 5208 = true then g_let (g_up q11.1 134 v3.toNatClampNeg (q11.1 132 q5.2.toNatClampNeg)) fun A16 =>
  if g_in q5.2 2600 = true then
  if g_in (v3 + 1) 5208 = true then g_let (g_up A16 134 (v3 + 1).toNatClampNeg (A16 131 q5.2.toNatClampNeg)) fun A19 =>
  g_let (v3 + 2) fun v20 =>
  mX4_markWithin_b115 K11 A19 v20 x3
  else none
  else none
  else none
  else none
  else none
  else none
  else none
  else none
def mX4_markWithin_L11 : Nat → gM → Int32 → Int32 → Option (gM)
  | 0 => fun _ _ _ => none
  | f + 1 => mX4_markWithin_b11 (mX4_markWithin_L11 f)
def mX4_markWithin_b0 (A : gM) (x1 : Int32) : Option (gM) :=
  if g_in 0 5208 = true then g_let (g_up A 134 (0 : Int32).toNatClampNeg x1) fun A2 =>
  mX4_markWithin_L11 gF A2 1 0
  else none
def mX4_markWithin (A : gM) (x1 : Int32) : Option (gM) := mX4_markWithin_b0 A x1
set_option maxHeartbeats 2000000 in
set_option maxRecDepth 20000 in
theorem wX4_markWithin_b121 (hN : 183 ≤ N) {A0 A' : gM} (C : gC p R s m args meth c cX4_markWithin RX4 5 D g (va_A (gw g ad ln A0 N) s.heap.size) 1) (hr : meth.sig.returnType = none)  {A : gM} (h : mX4_markWithin_b121 A = some A') : gJ p l e R s m args below meth c (gEv below D g N ad ln A0 A' args s) 5 D g (va_A (gw g ad ln A0 N) s.heap.size) N ad ln A [] 0 0 121 [] := by
  unfold mX4_markWithin_b121 at h
  obtain rfl := Option.some.inj h
  exact g_retv C hr dX4_markWithin_121

set_option maxHeartbeats 2000000 in
set_option maxRecDepth 20000 in
theorem wX4_markWithin_b115 (hN : 183 ≤ N) {A0 A' : gM} (C : gC p R s m args meth c cX4_markWithin RX4 5 D g (va_A (gw g ad ln A0 N) s.heap.size) 1) (hr : meth.sig.returnType = none) {K11 : gM → Int32 → Int32 → Option (gM)} (hK11 : ∀ {A : gM} {x2 : Int32} {x3 : Int32}, K11 A x2 x3 = some A' → gJ p l e R s m args below meth c (gEv below D g N ad ln A0 A' args s) 5 D g (va_A (gw g ad ln A0 N) s.heap.size) N ad ln A [(0, gr 129), (2, gi x2), (3, gi x3)] 0 0 11 []) {A : gM} {x2 : Int32} {x3 : Int32} (h : mX4_markWithin_b115 K11 A x2 x3 = some A') : gJ p l e R s m args below meth c (gEv below D g N ad ln A0 A' args s) 5 D g (va_A (gw g ad ln A0 N) s.heap.size) N ad ln A [(0, gr 129), (2, gi x2), (3, gi x3)] 0 0 115 [] := by
  unfold mX4_markWithin_b115 at h
  obtain ⟨v1, ev1, h⟩ := g_lt h
  refine g_iinc C 2 dX4_markWithin_115 rfl ev1 (by decide) rfl ?_
  refine g_goto C dX4_markWithin_118 (tgt := 11) (by decide) ?_
  refine g_sub [1, 2, 0] rfl ?_
  exact hK11 h

set_option maxHeartbeats 2000000 in
set_option maxRecDepth 20000 in
theorem wX4_markWithin_b11 (hN : 183 ≤ N) {A0 A' : gM} (C : gC p R s m args meth c cX4_markWithin RX4 5 D g (va_A (gw g ad ln A0 N) s.heap.size) 1) (hr : meth.sig.returnType = none) {K11 : gM → Int32 → Int32 → Option (gM)} (hK11 : ∀ {A : gM} {x2 : Int32} {x3 : Int32}, K11 A x2 x3 = some A' → gJ p l e R s m args below meth c (gEv below D g N ad ln A0 A' args s) 5 D g (va_A (gw g ad ln A0 N) s.heap.size) N ad ln A [(0, gr 129), (2, gi x2), (3, gi x3)] 0 0 11 []) {A : gM} {x2 : Int32} {x3 : Int32} (h : mX4_markWithin_b11 K11 A x2 x3 = some A') : gJ p l e R s m args below meth c (gEv below D g N ad ln A0 A' args s) 5 D g (va_A (gw g ad ln A0 N) s.heap.size) N ad ln A [(0, gr 129), (2, gi x2), (3, gi x3)] 0 0 11 [] := by
  unfold mX4_markWithin_b11 at h
  refine g_iload_n C 1 dX4_markWithin_11 rfl ?_
  refine g_if_le C dX4_markWithin_12 (tgt := 121) (by decide) (fun c1 => ?_) (fun c1 => ?_)
  · have h := g_tt c1 h
    refine g_sub [] rfl ?_
    exact wX4_markWithin_b121 hN C hr h
  · have h := g_ff c1 h
    refine g_iload_n C 2 dX4_markWithin_15 rfl ?_
    refine g_ldc C qc_X4_47 dX4_markWithin_16 ?_
    refine g_icmp_ge C dX4_markWithin_18 (tgt := 121) (by decide) (fun c2 => ?_) (fun c2 => ?_)
    · have h := g_tt c2 h
      refine g_sub [] rfl ?_
      exact wX4_markWithin_b121 hN C hr h
    · have h := g_ff c2 h
      obtain ⟨v3, ev3, h⟩ := g_lt h
      refine g_iinc C 1 dX4_markWithin_21 rfl ev3 (by decide) rfl ?_
      refine g_aload_n C 1 dX4_markWithin_24 rfl ?_
      refine g_aload_n C 1 dX4_markWithin_25 rfl ?_
      refine g_get (v := gr 134) C 129 4 (by omega) rfl rfl gu_4 (by decide) qf_X4_24 rfl dX4_markWithin_26 ?_
      refine g_iload_n C 0 dX4_markWithin_29 rfl ?_
      obtain ⟨hg4, h⟩ := g_gd h
      refine g_iald C 134 (by omega) rfl rfl hg4 dX4_markWithin_30 ?_
      obtain ⟨q5, eq5, h⟩ := g_bd h
      refine g_calliV C 129 [gi (A 134 v3.toNatClampNeg)] (kX4_resolve hN eq5) qs_X4_48 (by omega) (by omega) rfl rfl rfl rfl (Nat.le_of_ble_eq_true rfl) ⟨Nat.zero_le _, Nat.zero_le _⟩ dX4_markWithin_31 ?_
      refine g_istore C dX4_markWithin_34 (by decide) rfl ?_
      refine g_aload_n C 2 dX4_markWithin_36 rfl ?_
      refine g_get (v := gr 133) C 129 3 (by omega) rfl rfl gu_4 (by decide) qf_X4_21 rfl dX4_markWithin_37 ?_
      refine g_iload C 0 dX4_markWithin_40 rfl ?_
      obtain ⟨hg6, h⟩ := g_gd h
      refine g_iald C 133 (by omega) rfl rfl hg6 dX4_markWithin_42 ?_
      refine g_aload_n C 2 dX4_markWithin_43 rfl ?_
      refine g_get (v := gi (q5.1 129 10)) C 129 10 (by omega) rfl rfl gu_4 (by decide) qf_X4_44 rfl dX4_markWithin_44 ?_
      refine g_icmp_eq C dX4_markWithin_47 (tgt := 115) (by decide) (fun c7 => ?_) (fun c7 => ?_)
      · have h := g_tt c7 h
        refine g_sub [2, 1, 3] rfl ?_
        exact wX4_markWithin_b115 hN C hr hK11 h
      · have h := g_ff c7 h
        refine g_aload_n C 2 dX4_markWithin_50 rfl ?_
        refine g_get (v := gr 133) C 129 3 (by omega) rfl rfl gu_4 (by decide) qf_X4_21 rfl dX4_markWithin_51 ?_
        refine g_iload C 0 dX4_markWithin_54 rfl ?_
        refine g_aload_n C 2 dX4_markWithin_56 rfl ?_
        refine g_get (v := gi (q5.1 129 10)) C 129 10 (by omega) rfl rfl gu_4 (by decide) qf_X4_44 rfl dX4_markWithin_57 ?_
        obtain ⟨hg8, h⟩ := g_gd h
        obtain ⟨A9, eA9, h⟩ := g_lt h
        refine g_iast C 133 (by omega) rfl rfl hg8 eA9 dX4_markWithin_60 ?_
        refine g_aload_n C 2 dX4_markWithin_61 rfl ?_
        refine g_aload_n C 2 dX4_markWithin_62 rfl ?_
        refine g_get (v := gr 130) C 129 0 (by omega) rfl rfl gu_4 (by decide) qf_X4_11 rfl dX4_markWithin_63 ?_
        refine g_iload C 0 dX4_markWithin_66 rfl ?_
        obtain ⟨hg10, h⟩ := g_gd h
        refine g_iald C 130 (by omega) rfl rfl hg10 dX4_markWithin_68 ?_
        obtain ⟨q11, eq11, h⟩ := g_bd h
        refine g_calliV C 129 [gi (A9 130 q5.2.toNatClampNeg)] (kX4_isPair hN eq11) qs_X4_52 (by omega) (by omega) rfl rfl rfl rfl (Nat.le_of_ble_eq_true rfl) ⟨Nat.zero_le _, Nat.zero_le _⟩ dX4_markWithin_69 ?_
        refine g_if_eq C dX4_markWithin_72 (tgt := 115) (by decide) (fun c12 => ?_) (fun c12 => ?_)
        · have h := g_tt c12 h
          refine g_sub [2, 1, 3] rfl ?_
          exact wX4_markWithin_b115 hN C hr hK11 h
        · have h := g_ff c12 h
          refine g_iload_n C 1 dX4_markWithin_75 rfl ?_
          refine g_iconst (v := 2) C dX4_markWithin_76 (by decide) ?_
          refine g_iadd C dX4_markWithin_77 ?_
          refine g_sipush (v := 5208) C dX4_markWithin_78 (by decide) ?_
          refine g_icmp_gt C dX4_markWithin_81 (tgt := 115) (by decide) (fun c13 => ?_) (fun c13 => ?_)
          · have h := g_tt c13 h
            refine g_sub [2, 1, 3] rfl ?_
            exact wX4_markWithin_b115 hN C hr hK11 h
          · have h := g_ff c13 h
            refine g_aload_n C 2 dX4_markWithin_84 rfl ?_
            refine g_get (v := gr 134) C 129 4 (by omega) rfl rfl gu_4 (by decide) qf_X4_24 rfl dX4_markWithin_85 ?_
            refine g_iload_n C 1 dX4_markWithin_88 rfl ?_
            refine g_aload_n C 2 dX4_markWithin_89 rfl ?_
            refine g_get (v := gr 132) C 129 2 (by omega) rfl rfl gu_4 (by decide) qf_X4_18 rfl dX4_markWithin_90 ?_
            refine g_iload C 0 dX4_markWithin_93 rfl ?_
            obtain ⟨hg14, h⟩ := g_gd h
            refine g_iald C 132 (by omega) rfl rfl hg14 dX4_markWithin_95 ?_
            obtain ⟨hg15, h⟩ := g_gd h
            obtain ⟨A16, eA16, h⟩ := g_lt h
            refine g_iast C 134 (by omega) rfl rfl hg15 eA16 dX4_markWithin_96 ?_
            refine g_aload_n C 2 dX4_markWithin_97 rfl ?_
            refine g_get (v := gr 134) C 129 4 (by omega) rfl rfl gu_4 (by decide) qf_X4_24 rfl dX4_markWithin_98 ?_
            refine g_iload_n C 1 dX4_markWithin_101 rfl ?_
            refine g_iconst (v := 1) C dX4_markWithin_102 (by decide) ?_
            refine g_iadd C dX4_markWithin_103 ?_
            refine g_aload_n C 2 dX4_markWithin_104 rfl ?_
            refine g_get (v := gr 131) C 129 1 (by omega) rfl rfl gu_4 (by decide) qf_X4_15 rfl dX4_markWithin_105 ?_
            refine g_iload C 0 dX4_markWithin_108 rfl ?_
            obtain ⟨hg17, h⟩ := g_gd h
            refine g_iald C 131 (by omega) rfl rfl hg17 dX4_markWithin_110 ?_
            obtain ⟨hg18, h⟩ := g_gd h
            obtain ⟨A19, eA19, h⟩ := g_lt h
            refine g_iast C 134 (by omega) rfl rfl hg18 eA19 dX4_markWithin_111 ?_
            obtain ⟨v20, ev20, h⟩ := g_lt h
            refine g_iinc C 1 dX4_markWithin_112 rfl ev20 (by decide) rfl ?_
            refine g_sub [2, 0, 3] rfl ?_
            exact wX4_markWithin_b115 hN C hr hK11 h

set_option maxHeartbeats 2000000 in
set_option maxRecDepth 20000 in
theorem wX4_markWithin_L11 (hN : 183 ≤ N) {A0 A' : gM} (C : gC p R s m args meth c cX4_markWithin RX4 5 D g (va_A (gw g ad ln A0 N) s.heap.size) 1) (hr : meth.sig.returnType = none)  : ∀ (f : Nat) {A : gM} {x2 : Int32} {x3 : Int32}, mX4_markWithin_L11 f A x2 x3 = some A' → gJ p l e R s m args below meth c (gEv below D g N ad ln A0 A' args s) 5 D g (va_A (gw g ad ln A0 N) s.heap.size) N ad ln A [(0, gr 129), (2, gi x2), (3, gi x3)] 0 0 11 []
  | 0, A, x2, x3, h => by cases h
  | f + 1, A, x2, x3, h => wX4_markWithin_b11 hN C hr (fun {A} {x2} {x3} h => wX4_markWithin_L11 hN C hr f h) h
set_option maxHeartbeats 2000000 in
set_option maxRecDepth 20000 in
theorem wX4_markWithin_b0 (hN : 183 ≤ N) {A0 A' : gM} (C : gC p R s m args meth c cX4_markWithin RX4 5 D g (va_A (gw g ad ln A0 N) s.heap.size) 1) (hr : meth.sig.returnType = none)  {A : gM} {x1 : Int32} (h : mX4_markWithin_b0 A x1 = some A') : gJ p l e R s m args below meth c (gEv below D g N ad ln A0 A' args s) 5 D g (va_A (gw g ad ln A0 N) s.heap.size) N ad ln A [(0, gr 129), (1, gi x1)] 0 0 0 [] := by
  unfold mX4_markWithin_b0 at h
  refine g_iconst (v := 1) C dX4_markWithin_0 (by decide) ?_
  refine g_istore_n C dX4_markWithin_1 (by decide) rfl ?_
  refine g_aload_n C 1 dX4_markWithin_2 rfl ?_
  refine g_get (v := gr 134) C 129 4 (by omega) rfl rfl gu_4 (by decide) qf_X4_24 rfl dX4_markWithin_3 ?_
  refine g_iconst (v := 0) C dX4_markWithin_6 (by decide) ?_
  refine g_iload_n C 2 dX4_markWithin_7 rfl ?_
  obtain ⟨hg1, h⟩ := g_gd h
  obtain ⟨A2, eA2, h⟩ := g_lt h
  refine g_iast C 134 (by omega) rfl rfl hg1 eA2 dX4_markWithin_8 ?_
  refine g_iconst (v := 0) C dX4_markWithin_9 (by decide) ?_
  refine g_istore_n C dX4_markWithin_10 (by decide) rfl ?_
  refine g_sub [2, 1, 0] rfl ?_
  exact wX4_markWithin_L11 hN C hr gF h

set_option maxHeartbeats 2000000 in
set_option maxRecDepth 20000 in
theorem kX4_markWithin {l : Launch} {D : va_G} {g : gT} {N : Nat} {ad ln : Nat → Nat} (hN : 183 ≤ N) {A A' : gM} {x1 : Int32} (h : mX4_markWithin A x1 = some A') : gKv l yX4_markWithin cX4_markWithin 5 (none) (1) D g N ad ln A [gr 129, gi x1] A' := by
  refine g_metv (by decide) (Nat.le_of_ble_eq_true rfl) ?_
  intro p e s m args below meth c C hr
  refine g_sub [0, 1] rfl ?_
  exact wX4_markWithin_b0 hN C hr h
def mX4_putPair_b11 (A : gM) (x1 : Int32) : Option (gM × Int32) :=
  some (A, x1)
def mX4_putPair_b0 (A : gM) (x1 : Int32) (x2 : Int32) (x3 : Int32) : Option (gM × Int32) :=
  if x1 < 0 then
  mX4_putPair_b11 A x1
  else
  if x1 < 5208 then
  if g_in x1 5208 = true then g_let (g_up A 135 x1.toNatClampNeg x2) fun A4 =>
  if g_in x1 5208 = true then g_let (g_up A4 136 x1.toNatClampNeg x3) fun A6 =>
  some (A6, (x1 + 1))
  else none
  else none
  else
  mX4_putPair_b11 A x1
def mX4_putPair (A : gM) (x1 : Int32) (x2 : Int32) (x3 : Int32) : Option (gM × Int32) := mX4_putPair_b0 A x1 x2 x3
set_option maxHeartbeats 2000000 in
set_option maxRecDepth 20000 in
theorem wX4_putPair_b11 (hN : 183 ≤ N) {A0 A' : gM} {r : Int32} (C : gC p R s m args meth c cX4_putPair RX4 4 D g (va_A (gw g ad ln A0 N) s.heap.size) 0) (hr : meth.sig.returnType = some .int)  {A : gM} {x1 : Int32} (h : mX4_putPair_b11 A x1 = some (A', r)) : gJ p l e R s m args below meth c (gEi below D g N ad ln A0 A' r args s) 4 D g (va_A (gw g ad ln A0 N) s.heap.size) N ad ln A [(1, gi x1)] 0 0 11 [] := by
  unfold mX4_putPair_b11 at h
  refine g_iload_n C 0 dX4_putPair_11 rfl ?_
  obtain ⟨rfl, rfl⟩ := Prod.mk.inj (Option.some.inj h)
  exact g_reti C hr dX4_putPair_12

set_option maxHeartbeats 2000000 in
set_option maxRecDepth 20000 in
theorem wX4_putPair_b0 (hN : 183 ≤ N) {A0 A' : gM} {r : Int32} (C : gC p R s m args meth c cX4_putPair RX4 4 D g (va_A (gw g ad ln A0 N) s.heap.size) 0) (hr : meth.sig.returnType = some .int)  {A : gM} {x1 : Int32} {x2 : Int32} {x3 : Int32} (h : mX4_putPair_b0 A x1 x2 x3 = some (A', r)) : gJ p l e R s m args below meth c (gEi below D g N ad ln A0 A' r args s) 4 D g (va_A (gw g ad ln A0 N) s.heap.size) N ad ln A [(0, gr 129), (1, gi x1), (2, gi x2), (3, gi x3)] 0 0 0 [] := by
  unfold mX4_putPair_b0 at h
  refine g_iload_n C 1 dX4_putPair_0 rfl ?_
  refine g_if_lt C dX4_putPair_1 (tgt := 11) (by decide) (fun c1 => ?_) (fun c1 => ?_)
  · have h := g_tt c1 h
    refine g_sub [1] rfl ?_
    exact wX4_putPair_b11 hN C hr h
  · have h := g_ff c1 h
    refine g_iload_n C 1 dX4_putPair_4 rfl ?_
    refine g_sipush (v := 5208) C dX4_putPair_5 (by decide) ?_
    refine g_icmp_lt C dX4_putPair_8 (tgt := 13) (by decide) (fun c2 => ?_) (fun c2 => ?_)
    · have h := g_tt c2 h
      refine g_aload_n C 0 dX4_putPair_13 rfl ?_
      refine g_get (v := gr 135) C 129 5 (by omega) rfl rfl gu_4 (by decide) qf_X4_27 rfl dX4_putPair_14 ?_
      refine g_iload_n C 1 dX4_putPair_17 rfl ?_
      refine g_iload_n C 2 dX4_putPair_18 rfl ?_
      obtain ⟨hg3, h⟩ := g_gd h
      obtain ⟨A4, eA4, h⟩ := g_lt h
      refine g_iast C 135 (by omega) rfl rfl hg3 eA4 dX4_putPair_19 ?_
      refine g_aload_n C 0 dX4_putPair_20 rfl ?_
      refine g_get (v := gr 136) C 129 6 (by omega) rfl rfl gu_4 (by decide) qf_X4_30 rfl dX4_putPair_21 ?_
      refine g_iload_n C 1 dX4_putPair_24 rfl ?_
      refine g_iload_n C 3 dX4_putPair_25 rfl ?_
      obtain ⟨hg5, h⟩ := g_gd h
      obtain ⟨A6, eA6, h⟩ := g_lt h
      refine g_iast C 136 (by omega) rfl rfl hg5 eA6 dX4_putPair_26 ?_
      refine g_iload_n C 1 dX4_putPair_27 rfl ?_
      refine g_iconst (v := 1) C dX4_putPair_28 (by decide) ?_
      refine g_iadd C dX4_putPair_29 ?_
      obtain ⟨rfl, rfl⟩ := Prod.mk.inj (Option.some.inj h)
      exact g_reti C hr dX4_putPair_30
    · have h := g_ff c2 h
      refine g_sub [1] rfl ?_
      exact wX4_putPair_b11 hN C hr h

set_option maxHeartbeats 2000000 in
set_option maxRecDepth 20000 in
theorem kX4_putPair {l : Launch} {D : va_G} {g : gT} {N : Nat} {ad ln : Nat → Nat} (hN : 183 ≤ N) {A A' : gM} {x1 : Int32} {x2 : Int32} {x3 : Int32} {r : Int32} (h : mX4_putPair A x1 x2 x3 = some (A', r)) : gKi l yX4_putPair cX4_putPair 4 (some .int) (0) D g N ad ln A [gr 129, gi x1, gi x2, gi x3] A' r := by
  refine g_meti (by decide) (Nat.le_of_ble_eq_true rfl) ?_
  intro p e s m args below meth c C hr
  refine g_sub [0, 1, 2, 3] rfl ?_
  exact wX4_putPair_b0 hN C hr h
def mX4_give_b36 (A : gM) : Option (gM) :=
  some A
def mX4_give_b0 (A : gM) (x1 : Int32) (x2 : Int32) : Option (gM) :=
  (mX4_resolve A x2).bind fun q1 =>
  if x1 < 0 then
  mX4_give_b36 q1.1
  else
  if 2600 ≤ x1 then
  mX4_give_b36 q1.1
  else
  if x1 = q1.2 then
  mX4_give_b36 q1.1
  else
  if g_in x1 2600 = true then g_let (g_up q1.1 130 x1.toNatClampNeg 5) fun A6 =>
  if g_in x1 2600 = true then g_let (g_up A6 131 x1.toNatClampNeg q1.2) fun A8 =>
  mX4_give_b36 A8
  else none
  else none
def mX4_give (A : gM) (x1 : Int32) (x2 : Int32) : Option (gM) := mX4_give_b0 A x1 x2
set_option maxHeartbeats 2000000 in
set_option maxRecDepth 20000 in
theorem wX4_give_b36 (hN : 183 ≤ N) {A0 A' : gM} (C : gC p R s m args meth c cX4_give RX4 4 D g (va_A (gw g ad ln A0 N) s.heap.size) 1) (hr : meth.sig.returnType = none)  {A : gM} (h : mX4_give_b36 A = some A') : gJ p l e R s m args below meth c (gEv below D g N ad ln A0 A' args s) 4 D g (va_A (gw g ad ln A0 N) s.heap.size) N ad ln A [] 0 0 36 [] := by
  unfold mX4_give_b36 at h
  obtain rfl := Option.some.inj h
  exact g_retv C hr dX4_give_36

set_option maxHeartbeats 2000000 in
set_option maxRecDepth 20000 in
theorem wX4_give_b0 (hN : 183 ≤ N) {A0 A' : gM} (C : gC p R s m args meth c cX4_give RX4 4 D g (va_A (gw g ad ln A0 N) s.heap.size) 1) (hr : meth.sig.returnType = none)  {A : gM} {x1 : Int32} {x2 : Int32} (h : mX4_give_b0 A x1 x2 = some A') : gJ p l e R s m args below meth c (gEv below D g N ad ln A0 A' args s) 4 D g (va_A (gw g ad ln A0 N) s.heap.size) N ad ln A [(0, gr 129), (1, gi x1), (2, gi x2)] 0 0 0 [] := by
  unfold mX4_give_b0 at h
  refine g_aload_n C 0 dX4_give_0 rfl ?_
  refine g_iload_n C 2 dX4_give_1 rfl ?_
  obtain ⟨q1, eq1, h⟩ := g_bd h
  refine g_calliV C 129 [gi x2] (kX4_resolve hN eq1) qs_X4_48 (by omega) (by omega) rfl rfl rfl rfl (Nat.le_of_ble_eq_true rfl) ⟨Nat.zero_le _, Nat.zero_le _⟩ dX4_give_2 ?_
  refine g_istore_n C dX4_give_5 (by decide) rfl ?_
  refine g_iload_n C 2 dX4_give_6 rfl ?_
  refine g_if_lt C dX4_give_7 (tgt := 36) (by decide) (fun c2 => ?_) (fun c2 => ?_)
  · have h := g_tt c2 h
    refine g_sub [] rfl ?_
    exact wX4_give_b36 hN C hr h
  · have h := g_ff c2 h
    refine g_iload_n C 2 dX4_give_10 rfl ?_
    refine g_sipush (v := 2600) C dX4_give_11 (by decide) ?_
    refine g_icmp_ge C dX4_give_14 (tgt := 36) (by decide) (fun c3 => ?_) (fun c3 => ?_)
    · have h := g_tt c3 h
      refine g_sub [] rfl ?_
      exact wX4_give_b36 hN C hr h
    · have h := g_ff c3 h
      refine g_iload_n C 2 dX4_give_17 rfl ?_
      refine g_iload_n C 0 dX4_give_18 rfl ?_
      refine g_icmp_eq C dX4_give_19 (tgt := 36) (by decide) (fun c4 => ?_) (fun c4 => ?_)
      · have h := g_tt c4 h
        refine g_sub [] rfl ?_
        exact wX4_give_b36 hN C hr h
      · have h := g_ff c4 h
        refine g_aload_n C 1 dX4_give_22 rfl ?_
        refine g_get (v := gr 130) C 129 0 (by omega) rfl rfl gu_4 (by decide) qf_X4_11 rfl dX4_give_23 ?_
        refine g_iload_n C 2 dX4_give_26 rfl ?_
        refine g_iconst (v := 5) C dX4_give_27 (by decide) ?_
        obtain ⟨hg5, h⟩ := g_gd h
        obtain ⟨A6, eA6, h⟩ := g_lt h
        refine g_iast C 130 (by omega) rfl rfl hg5 eA6 dX4_give_28 ?_
        refine g_aload_n C 1 dX4_give_29 rfl ?_
        refine g_get (v := gr 131) C 129 1 (by omega) rfl rfl gu_4 (by decide) qf_X4_15 rfl dX4_give_30 ?_
        refine g_iload_n C 2 dX4_give_33 rfl ?_
        refine g_iload_n C 0 dX4_give_34 rfl ?_
        obtain ⟨hg7, h⟩ := g_gd h
        obtain ⟨A8, eA8, h⟩ := g_lt h
        refine g_iast C 131 (by omega) rfl rfl hg7 eA8 dX4_give_35 ?_
        refine g_sub [] rfl ?_
        exact wX4_give_b36 hN C hr h

set_option maxHeartbeats 2000000 in
set_option maxRecDepth 20000 in
theorem kX4_give {l : Launch} {D : va_G} {g : gT} {N : Nat} {ad ln : Nat → Nat} (hN : 183 ≤ N) {A A' : gM} {x1 : Int32} {x2 : Int32} (h : mX4_give A x1 x2 = some A') : gKv l yX4_give cX4_give 4 (none) (1) D g N ad ln A [gr 129, gi x1, gi x2] A' := by
  refine g_metv (by decide) (Nat.le_of_ble_eq_true rfl) ?_
  intro p e s m args below meth c C hr
  refine g_sub [0, 1, 2] rfl ?_
  exact wX4_give_b0 hN C hr h
def mX4_match_b261 (A : gM) : Option (gM × Int32) :=
  some (A, 0)
def mX4_match_b255 (K11 : gM → Int32 → Int32 → Option (gM × Int32)) (A : gM) (x3 : Int32) (x4 : Int32) : Option (gM × Int32) :=
  g_let (x4 + 1) fun v1 =>
  K11 A x3 v1
def mX4_match_b145 (K11 : gM → Int32 → Int32 → Option (gM × Int32)) (A : gM) (x3 : Int32) (x4 : Int32) (x7 : Int32) (s0 : Int32) : Option (gM × Int32) :=
  (mX4_forgetMarks A).bind fun q1 =>
  (mX4_markWithin q1 s0).bind fun q2 =>
  if g_in x7 2600 = true then
  if (q2 133 x7.toNatClampNeg) = (q2 129 10) then
  some (q2, 3)
  else
  (mX4_give q2 x7 s0).bind fun q5 =>
  mX4_match_b255 K11 q5 x3 x4
  else none
def mX4_match_b129 (K11 : gM → Int32 → Int32 → Option (gM × Int32)) (A : gM) (x3 : Int32) (x4 : Int32) (x5 : Int32) (x6 : Int32) (s0 : Int32) : Option (gM × Int32) :=
  if s0 = x5 then
  mX4_match_b145 K11 A x3 x4 s0 x6
  else
  mX4_match_b145 K11 A x3 x4 s0 x5
def mX4_match_b111 (K11 : gM → Int32 → Int32 → Option (gM × Int32)) (A : gM) (x3 : Int32) (x4 : Int32) (x5 : Int32) (x6 : Int32) : Option (gM × Int32) :=
  if g_in x5 2600 = true then
  if (A 130 x5.toNatClampNeg) = 4 then
  mX4_match_b129 K11 A x3 x4 x5 x6 x5
  else
  mX4_match_b129 K11 A x3 x4 x5 x6 x6
  else none
def mX4_match_b11 (K11 : gM → Int32 → Int32 → Option (gM × Int32)) (A : gM) (x3 : Int32) (x4 : Int32) : Option (gM × Int32) :=
  if x3 ≤ 0 then
  mX4_match_b261 A
  else
  if 1000000 ≤ x4 then
  mX4_match_b261 A
  else
  g_let (x3 + (-1)) fun v3 =>
  if g_in v3 5208 = true then
  if 0 ≤ (A 135 v3.toNatClampNeg) then
  if g_in v3 5208 = true then
  (mX4_resolve A (A 135 v3.toNatClampNeg)).bind fun q7 =>
  if g_in v3 5208 = true then
  (mX4_resolve q7.1 (q7.1 136 v3.toNatClampNeg)).bind fun q9 =>
  if q7.2 = q9.2 then
  mX4_match_b255 K11 q9.1 v3 x4
  else
  if g_in q7.2 2600 = true then
  if (q9.1 130 q7.2.toNatClampNeg) = 4 then
  mX4_match_b111 K11 q9.1 v3 x4 q7.2 q9.2
  else
  if g_in q9.2 2600 = true then
  if (q9.1 130 q9.2.toNatClampNeg) = 4 then
  mX4_match_b111 K11 q9.1 v3 x4 q7.2 q9.2
  else
  if g_in q7.2 2600 = true then
  if g_in q9.2 2600 = true then
  if (q9.1 130 q7.2.toNatClampNeg) = (q9.1 130 q9.2.toNatClampNeg) then
  (mX4_putPair q9.1 v3 ((-1) - q7.2) q9.2).bind fun q18 =>
  if g_in q7.2 2600 = true then
  if g_in q9.2 2600 = true then
  (mX4_putPair q18.1 q18.2 (q18.1 132 q7.2.toNatClampNeg) (q18.1 132 q9.2.toNatClampNeg)).bind fun q21 =>
  if g_in q7.2 2600 = true then
  if g_in q9.2 2600 = true then
  (mX4_putPair q21.1 q21.2 (q21.1 131 q7.2.toNatClampNeg) (q21.1 131 q9.2.toNatClampNeg)).bind fun q24 =>
  mX4_match_b255 K11 q24.1 q24.2 x4
  else none
  else none
  else none
  else none
  else
  some (q9.1, 2)
  else none
  else none
  else none
  else none
  else none
  else none
  else
  if g_in v3 5208 = true then
  if g_in v3 5208 = true then
  (mX4_give A ((-1) - (A 135 v3.toNatClampNeg)) (A 136 v3.toNatClampNeg)).bind fun q27 =>
  mX4_match_b255 K11 q27 v3 x4
  else none
  else none
  else none
def mX4_match_L11 : Nat → gM → Int32 → Int32 → Option (gM × Int32)
  | 0 => fun _ _ _ => none
  | f + 1 => mX4_match_b11 (mX4_match_L11 f)
def mX4_match_b0 (A : gM) (x1 : Int32) (x2 : Int32) : Option (gM × Int32) :=
  (mX4_putPair A 0 x1 x2).bind fun q1 =>
  mX4_match_L11 gF q1.1 q1.2 0
def mX4_match (A : gM) (x1 : Int32) (x2 : Int32) : Option (gM × Int32) := mX4_match_b0 A x1 x2
set_option maxHeartbeats 2000000 in
set_option maxRecDepth 20000 in
theorem wX4_match_b261 (hN : 183 ≤ N) {A0 A' : gM} {r : Int32} (C : gC p R s m args meth c cX4_match RX4 9 D g (va_A (gw g ad ln A0 N) s.heap.size) 2) (hr : meth.sig.returnType = some .int)  {A : gM} (h : mX4_match_b261 A = some (A', r)) : gJ p l e R s m args below meth c (gEi below D g N ad ln A0 A' r args s) 9 D g (va_A (gw g ad ln A0 N) s.heap.size) N ad ln A [] 0 0 261 [] := by
  unfold mX4_match_b261 at h
  refine g_iconst (v := 0) C dX4_match_261 (by decide) ?_
  obtain ⟨rfl, rfl⟩ := Prod.mk.inj (Option.some.inj h)
  exact g_reti C hr dX4_match_262

set_option maxHeartbeats 2000000 in
set_option maxRecDepth 20000 in
theorem wX4_match_b255 (hN : 183 ≤ N) {A0 A' : gM} {r : Int32} (C : gC p R s m args meth c cX4_match RX4 9 D g (va_A (gw g ad ln A0 N) s.heap.size) 2) (hr : meth.sig.returnType = some .int) {K11 : gM → Int32 → Int32 → Option (gM × Int32)} (hK11 : ∀ {A : gM} {x3 : Int32} {x4 : Int32}, K11 A x3 x4 = some (A', r) → gJ p l e R s m args below meth c (gEi below D g N ad ln A0 A' r args s) 9 D g (va_A (gw g ad ln A0 N) s.heap.size) N ad ln A [(0, gr 129), (3, gi x3), (4, gi x4)] 0 0 11 []) {A : gM} {x3 : Int32} {x4 : Int32} (h : mX4_match_b255 K11 A x3 x4 = some (A', r)) : gJ p l e R s m args below meth c (gEi below D g N ad ln A0 A' r args s) 9 D g (va_A (gw g ad ln A0 N) s.heap.size) N ad ln A [(0, gr 129), (3, gi x3), (4, gi x4)] 0 0 255 [] := by
  unfold mX4_match_b255 at h
  obtain ⟨v1, ev1, h⟩ := g_lt h
  refine g_iinc C 2 dX4_match_255 rfl ev1 (by decide) rfl ?_
  refine g_goto C dX4_match_258 (tgt := 11) (by decide) ?_
  refine g_sub [1, 2, 0] rfl ?_
  exact hK11 h

set_option maxHeartbeats 2000000 in
set_option maxRecDepth 20000 in
theorem wX4_match_b145 (hN : 183 ≤ N) {A0 A' : gM} {r : Int32} (C : gC p R s m args meth c cX4_match RX4 9 D g (va_A (gw g ad ln A0 N) s.heap.size) 2) (hr : meth.sig.returnType = some .int) {K11 : gM → Int32 → Int32 → Option (gM × Int32)} (hK11 : ∀ {A : gM} {x3 : Int32} {x4 : Int32}, K11 A x3 x4 = some (A', r) → gJ p l e R s m args below meth c (gEi below D g N ad ln A0 A' r args s) 9 D g (va_A (gw g ad ln A0 N) s.heap.size) N ad ln A [(0, gr 129), (3, gi x3), (4, gi x4)] 0 0 11 []) {A : gM} {x3 : Int32} {x4 : Int32} {x7 : Int32} {s0 : Int32} (h : mX4_match_b145 K11 A x3 x4 x7 s0 = some (A', r)) : gJ p l e R s m args below meth c (gEi below D g N ad ln A0 A' r args s) 9 D g (va_A (gw g ad ln A0 N) s.heap.size) N ad ln A [(0, gr 129), (3, gi x3), (4, gi x4), (7, gi x7)] 0 0 145 [gi s0] := by
  unfold mX4_match_b145 at h
  refine g_istore C dX4_match_145 (by decide) rfl ?_
  refine g_aload_n C 1 dX4_match_147 rfl ?_
  obtain ⟨q1, eq1, h⟩ := g_bd h
  refine g_callvV C 129 [] (kX4_forgetMarks hN eq1) qs_X4_63 (by omega) (by omega) rfl rfl rfl rfl (Nat.le_of_ble_eq_true rfl) ⟨Nat.zero_le _, Nat.zero_le _⟩ dX4_match_148 ?_
  refine g_aload_n C 1 dX4_match_151 rfl ?_
  refine g_iload C 0 dX4_match_152 rfl ?_
  obtain ⟨q2, eq2, h⟩ := g_bd h
  refine g_callvV C 129 [gi s0] (kX4_markWithin hN eq2) qs_X4_66 (by omega) (by omega) rfl rfl rfl rfl (Nat.le_of_ble_eq_true rfl) ⟨Nat.zero_le _, Nat.zero_le _⟩ dX4_match_154 ?_
  refine g_aload_n C 1 dX4_match_157 rfl ?_
  refine g_get (v := gr 133) C 129 3 (by omega) rfl rfl gu_4 (by decide) qf_X4_21 rfl dX4_match_158 ?_
  refine g_iload C 4 dX4_match_161 rfl ?_
  obtain ⟨hg3, h⟩ := g_gd h
  refine g_iald C 133 (by omega) rfl rfl hg3 dX4_match_163 ?_
  refine g_aload_n C 1 dX4_match_164 rfl ?_
  refine g_get (v := gi (q2 129 10)) C 129 10 (by omega) rfl rfl gu_4 (by decide) qf_X4_44 rfl dX4_match_165 ?_
  refine g_icmp_ne C dX4_match_168 (tgt := 173) (by decide) (fun c4 => ?_) (fun c4 => ?_)
  · have h := g_ff c4 h
    refine g_aload_n C 1 dX4_match_173 rfl ?_
    refine g_iload C 4 dX4_match_174 rfl ?_
    refine g_iload C 0 dX4_match_176 rfl ?_
    obtain ⟨q5, eq5, h⟩ := g_bd h
    refine g_callvV C 129 [gi x7, gi s0] (kX4_give hN eq5) qs_X4_59 (by omega) (by omega) rfl rfl rfl rfl (Nat.le_of_ble_eq_true rfl) ⟨Nat.zero_le _, Nat.zero_le _⟩ dX4_match_178 ?_
    refine g_goto C dX4_match_181 (tgt := 255) (by decide) ?_
    refine g_sub [1, 2, 3] rfl ?_
    exact wX4_match_b255 hN C hr hK11 h
  · have h := g_tt c4 h
    refine g_iconst (v := 3) C dX4_match_171 (by decide) ?_
    obtain ⟨rfl, rfl⟩ := Prod.mk.inj (Option.some.inj h)
    exact g_reti C hr dX4_match_172

set_option maxHeartbeats 2000000 in
set_option maxRecDepth 20000 in
theorem wX4_match_b129 (hN : 183 ≤ N) {A0 A' : gM} {r : Int32} (C : gC p R s m args meth c cX4_match RX4 9 D g (va_A (gw g ad ln A0 N) s.heap.size) 2) (hr : meth.sig.returnType = some .int) {K11 : gM → Int32 → Int32 → Option (gM × Int32)} (hK11 : ∀ {A : gM} {x3 : Int32} {x4 : Int32}, K11 A x3 x4 = some (A', r) → gJ p l e R s m args below meth c (gEi below D g N ad ln A0 A' r args s) 9 D g (va_A (gw g ad ln A0 N) s.heap.size) N ad ln A [(0, gr 129), (3, gi x3), (4, gi x4)] 0 0 11 []) {A : gM} {x3 : Int32} {x4 : Int32} {x5 : Int32} {x6 : Int32} {s0 : Int32} (h : mX4_match_b129 K11 A x3 x4 x5 x6 s0 = some (A', r)) : gJ p l e R s m args below meth c (gEi below D g N ad ln A0 A' r args s) 9 D g (va_A (gw g ad ln A0 N) s.heap.size) N ad ln A [(0, gr 129), (3, gi x3), (4, gi x4), (5, gi x5), (6, gi x6)] 0 0 129 [gi s0] := by
  unfold mX4_match_b129 at h
  refine g_istore C dX4_match_129 (by decide) rfl ?_
  refine g_iload C 0 dX4_match_131 rfl ?_
  refine g_iload C 4 dX4_match_133 rfl ?_
  refine g_icmp_ne C dX4_match_135 (tgt := 143) (by decide) (fun c1 => ?_) (fun c1 => ?_)
  · have h := g_ff c1 h
    refine g_iload C 4 dX4_match_143 rfl ?_
    refine g_sub [1, 2, 3, 0] rfl ?_
    exact wX4_match_b145 hN C hr hK11 h
  · have h := g_tt c1 h
    refine g_iload C 5 dX4_match_138 rfl ?_
    refine g_goto C dX4_match_140 (tgt := 145) (by decide) ?_
    refine g_sub [1, 2, 3, 0] rfl ?_
    exact wX4_match_b145 hN C hr hK11 h

set_option maxHeartbeats 2000000 in
set_option maxRecDepth 20000 in
theorem wX4_match_b111 (hN : 183 ≤ N) {A0 A' : gM} {r : Int32} (C : gC p R s m args meth c cX4_match RX4 9 D g (va_A (gw g ad ln A0 N) s.heap.size) 2) (hr : meth.sig.returnType = some .int) {K11 : gM → Int32 → Int32 → Option (gM × Int32)} (hK11 : ∀ {A : gM} {x3 : Int32} {x4 : Int32}, K11 A x3 x4 = some (A', r) → gJ p l e R s m args below meth c (gEi below D g N ad ln A0 A' r args s) 9 D g (va_A (gw g ad ln A0 N) s.heap.size) N ad ln A [(0, gr 129), (3, gi x3), (4, gi x4)] 0 0 11 []) {A : gM} {x3 : Int32} {x4 : Int32} {x5 : Int32} {x6 : Int32} (h : mX4_match_b111 K11 A x3 x4 x5 x6 = some (A', r)) : gJ p l e R s m args below meth c (gEi below D g N ad ln A0 A' r args s) 9 D g (va_A (gw g ad ln A0 N) s.heap.size) N ad ln A [(0, gr 129), (3, gi x3), (4, gi x4), (5, gi x5), (6, gi x6)] 0 0 111 [] := by
  unfold mX4_match_b111 at h
  refine g_aload_n C 0 dX4_match_111 rfl ?_
  refine g_get (v := gr 130) C 129 0 (by omega) rfl rfl gu_4 (by decide) qf_X4_11 rfl dX4_match_112 ?_
  refine g_iload C 3 dX4_match_115 rfl ?_
  obtain ⟨hg1, h⟩ := g_gd h
  refine g_iald C 130 (by omega) rfl rfl hg1 dX4_match_117 ?_
  refine g_iconst (v := 4) C dX4_match_118 (by decide) ?_
  refine g_icmp_ne C dX4_match_119 (tgt := 127) (by decide) (fun c2 => ?_) (fun c2 => ?_)
  · have h := g_ff c2 h
    refine g_iload C 4 dX4_match_127 rfl ?_
    refine g_sub [0, 1, 2, 3, 4] rfl ?_
    exact wX4_match_b129 hN C hr hK11 h
  · have h := g_tt c2 h
    refine g_iload C 3 dX4_match_122 rfl ?_
    refine g_goto C dX4_match_124 (tgt := 129) (by decide) ?_
    refine g_sub [0, 1, 2, 3, 4] rfl ?_
    exact wX4_match_b129 hN C hr hK11 h

set_option maxHeartbeats 2000000 in
set_option maxRecDepth 20000 in
theorem wX4_match_b11 (hN : 183 ≤ N) {A0 A' : gM} {r : Int32} (C : gC p R s m args meth c cX4_match RX4 9 D g (va_A (gw g ad ln A0 N) s.heap.size) 2) (hr : meth.sig.returnType = some .int) {K11 : gM → Int32 → Int32 → Option (gM × Int32)} (hK11 : ∀ {A : gM} {x3 : Int32} {x4 : Int32}, K11 A x3 x4 = some (A', r) → gJ p l e R s m args below meth c (gEi below D g N ad ln A0 A' r args s) 9 D g (va_A (gw g ad ln A0 N) s.heap.size) N ad ln A [(0, gr 129), (3, gi x3), (4, gi x4)] 0 0 11 []) {A : gM} {x3 : Int32} {x4 : Int32} (h : mX4_match_b11 K11 A x3 x4 = some (A', r)) : gJ p l e R s m args below meth c (gEi below D g N ad ln A0 A' r args s) 9 D g (va_A (gw g ad ln A0 N) s.heap.size) N ad ln A [(0, gr 129), (3, gi x3), (4, gi x4)] 0 0 11 [] := by
  unfold mX4_match_b11 at h
  refine g_iload_n C 1 dX4_match_11 rfl ?_
  refine g_if_le C dX4_match_12 (tgt := 261) (by decide) (fun c1 => ?_) (fun c1 => ?_)
  · have h := g_tt c1 h
    refine g_sub [] rfl ?_
    exact wX4_match_b261 hN C hr h
  · have h := g_ff c1 h
    refine g_iload C 2 dX4_match_15 rfl ?_
    refine g_ldc C qc_X4_47 dX4_match_17 ?_
    refine g_icmp_ge C dX4_match_19 (tgt := 261) (by decide) (fun c2 => ?_) (fun c2 => ?_)
    · have h := g_tt c2 h
      refine g_sub [] rfl ?_
      exact wX4_match_b261 hN C hr h
    · have h := g_ff c2 h
      obtain ⟨v3, ev3, h⟩ := g_lt h
      refine g_iinc C 1 dX4_match_22 rfl ev3 (by decide) rfl ?_
      refine g_aload_n C 1 dX4_match_25 rfl ?_
      refine g_get (v := gr 135) C 129 5 (by omega) rfl rfl gu_4 (by decide) qf_X4_27 rfl dX4_match_26 ?_
      refine g_iload_n C 0 dX4_match_29 rfl ?_
      obtain ⟨hg4, h⟩ := g_gd h
      refine g_iald C 135 (by omega) rfl rfl hg4 dX4_match_30 ?_
      refine g_if_ge C dX4_match_31 (tgt := 55) (by decide) (fun c5 => ?_) (fun c5 => ?_)
      · have h := g_tt c5 h
        refine g_aload_n C 1 dX4_match_55 rfl ?_
        refine g_aload_n C 1 dX4_match_56 rfl ?_
        refine g_get (v := gr 135) C 129 5 (by omega) rfl rfl gu_4 (by decide) qf_X4_27 rfl dX4_match_57 ?_
        refine g_iload_n C 0 dX4_match_60 rfl ?_
        obtain ⟨hg6, h⟩ := g_gd h
        refine g_iald C 135 (by omega) rfl rfl hg6 dX4_match_61 ?_
        obtain ⟨q7, eq7, h⟩ := g_bd h
        refine g_calliV C 129 [gi (A 135 v3.toNatClampNeg)] (kX4_resolve hN eq7) qs_X4_48 (by omega) (by omega) rfl rfl rfl rfl (Nat.le_of_ble_eq_true rfl) ⟨Nat.zero_le _, Nat.zero_le _⟩ dX4_match_62 ?_
        refine g_istore C dX4_match_65 (by decide) rfl ?_
        refine g_aload_n C 2 dX4_match_67 rfl ?_
        refine g_aload_n C 2 dX4_match_68 rfl ?_
        refine g_get (v := gr 136) C 129 6 (by omega) rfl rfl gu_4 (by decide) qf_X4_30 rfl dX4_match_69 ?_
        refine g_iload_n C 1 dX4_match_72 rfl ?_
        obtain ⟨hg8, h⟩ := g_gd h
        refine g_iald C 136 (by omega) rfl rfl hg8 dX4_match_73 ?_
        obtain ⟨q9, eq9, h⟩ := g_bd h
        refine g_calliV C 129 [gi (q7.1 136 v3.toNatClampNeg)] (kX4_resolve hN eq9) qs_X4_48 (by omega) (by omega) rfl rfl rfl rfl (Nat.le_of_ble_eq_true rfl) ⟨Nat.zero_le _, Nat.zero_le _⟩ dX4_match_74 ?_
        refine g_istore C dX4_match_77 (by decide) rfl ?_
        refine g_iload C 1 dX4_match_79 rfl ?_
        refine g_iload C 0 dX4_match_81 rfl ?_
        refine g_icmp_ne C dX4_match_83 (tgt := 89) (by decide) (fun c10 => ?_) (fun c10 => ?_)
        · have h := g_ff c10 h
          refine g_aload_n C 3 dX4_match_89 rfl ?_
          refine g_get (v := gr 130) C 129 0 (by omega) rfl rfl gu_4 (by decide) qf_X4_11 rfl dX4_match_90 ?_
          refine g_iload C 1 dX4_match_93 rfl ?_
          obtain ⟨hg11, h⟩ := g_gd h
          refine g_iald C 130 (by omega) rfl rfl hg11 dX4_match_95 ?_
          refine g_iconst (v := 4) C dX4_match_96 (by decide) ?_
          refine g_icmp_eq C dX4_match_97 (tgt := 111) (by decide) (fun c12 => ?_) (fun c12 => ?_)
          · have h := g_tt c12 h
            refine g_sub [3, 2, 4, 1, 0] rfl ?_
            exact wX4_match_b111 hN C hr hK11 h
          · have h := g_ff c12 h
            refine g_aload_n C 3 dX4_match_100 rfl ?_
            refine g_get (v := gr 130) C 129 0 (by omega) rfl rfl gu_4 (by decide) qf_X4_11 rfl dX4_match_101 ?_
            refine g_iload C 0 dX4_match_104 rfl ?_
            obtain ⟨hg13, h⟩ := g_gd h
            refine g_iald C 130 (by omega) rfl rfl hg13 dX4_match_106 ?_
            refine g_iconst (v := 4) C dX4_match_107 (by decide) ?_
            refine g_icmp_ne C dX4_match_108 (tgt := 184) (by decide) (fun c14 => ?_) (fun c14 => ?_)
            · have h := g_ff c14 h
              refine g_aload_n C 3 dX4_match_184 rfl ?_
              refine g_get (v := gr 130) C 129 0 (by omega) rfl rfl gu_4 (by decide) qf_X4_11 rfl dX4_match_185 ?_
              refine g_iload C 1 dX4_match_188 rfl ?_
              obtain ⟨hg15, h⟩ := g_gd h
              refine g_iald C 130 (by omega) rfl rfl hg15 dX4_match_190 ?_
              refine g_aload_n C 3 dX4_match_191 rfl ?_
              refine g_get (v := gr 130) C 129 0 (by omega) rfl rfl gu_4 (by decide) qf_X4_11 rfl dX4_match_192 ?_
              refine g_iload C 0 dX4_match_195 rfl ?_
              obtain ⟨hg16, h⟩ := g_gd h
              refine g_iald C 130 (by omega) rfl rfl hg16 dX4_match_197 ?_
              refine g_icmp_eq C dX4_match_198 (tgt := 203) (by decide) (fun c17 => ?_) (fun c17 => ?_)
              · have h := g_tt c17 h
                refine g_aload_n C 3 dX4_match_203 rfl ?_
                refine g_iload_n C 2 dX4_match_204 rfl ?_
                refine g_iconst (v := (-1)) C dX4_match_205 (by decide) ?_
                refine g_iload C 1 dX4_match_206 rfl ?_
                refine g_isub C dX4_match_208 ?_
                refine g_iload C 0 dX4_match_209 rfl ?_
                obtain ⟨q18, eq18, h⟩ := g_bd h
                refine g_calliV C 129 [gi v3, gi ((-1) - q7.2), gi q9.2] (kX4_putPair hN eq18) qs_X4_56 (by omega) (by omega) rfl rfl rfl rfl (Nat.le_of_ble_eq_true rfl) ⟨Nat.zero_le _, Nat.zero_le _⟩ dX4_match_211 ?_
                refine g_istore_n C dX4_match_214 (by decide) rfl ?_
                refine g_aload_n C 3 dX4_match_215 rfl ?_
                refine g_iload_n C 0 dX4_match_216 rfl ?_
                refine g_aload_n C 3 dX4_match_217 rfl ?_
                refine g_get (v := gr 132) C 129 2 (by omega) rfl rfl gu_4 (by decide) qf_X4_18 rfl dX4_match_218 ?_
                refine g_iload C 2 dX4_match_221 rfl ?_
                obtain ⟨hg19, h⟩ := g_gd h
                refine g_iald C 132 (by omega) rfl rfl hg19 dX4_match_223 ?_
                refine g_aload_n C 3 dX4_match_224 rfl ?_
                refine g_get (v := gr 132) C 129 2 (by omega) rfl rfl gu_4 (by decide) qf_X4_18 rfl dX4_match_225 ?_
                refine g_iload C 1 dX4_match_228 rfl ?_
                obtain ⟨hg20, h⟩ := g_gd h
                refine g_iald C 132 (by omega) rfl rfl hg20 dX4_match_230 ?_
                obtain ⟨q21, eq21, h⟩ := g_bd h
                refine g_calliV C 129 [gi q18.2, gi (q18.1 132 q7.2.toNatClampNeg), gi (q18.1 132 q9.2.toNatClampNeg)] (kX4_putPair hN eq21) qs_X4_56 (by omega) (by omega) rfl rfl rfl rfl (Nat.le_of_ble_eq_true rfl) ⟨Nat.zero_le _, Nat.zero_le _⟩ dX4_match_231 ?_
                refine g_istore_n C dX4_match_234 (by decide) rfl ?_
                refine g_aload_n C 3 dX4_match_235 rfl ?_
                refine g_iload_n C 0 dX4_match_236 rfl ?_
                refine g_aload_n C 3 dX4_match_237 rfl ?_
                refine g_get (v := gr 131) C 129 1 (by omega) rfl rfl gu_4 (by decide) qf_X4_15 rfl dX4_match_238 ?_
                refine g_iload C 2 dX4_match_241 rfl ?_
                obtain ⟨hg22, h⟩ := g_gd h
                refine g_iald C 131 (by omega) rfl rfl hg22 dX4_match_243 ?_
                refine g_aload_n C 3 dX4_match_244 rfl ?_
                refine g_get (v := gr 131) C 129 1 (by omega) rfl rfl gu_4 (by decide) qf_X4_15 rfl dX4_match_245 ?_
                refine g_iload C 1 dX4_match_248 rfl ?_
                obtain ⟨hg23, h⟩ := g_gd h
                refine g_iald C 131 (by omega) rfl rfl hg23 dX4_match_250 ?_
                obtain ⟨q24, eq24, h⟩ := g_bd h
                refine g_calliV C 129 [gi q21.2, gi (q21.1 131 q7.2.toNatClampNeg), gi (q21.1 131 q9.2.toNatClampNeg)] (kX4_putPair hN eq24) qs_X4_56 (by omega) (by omega) rfl rfl rfl rfl (Nat.le_of_ble_eq_true rfl) ⟨Nat.zero_le _, Nat.zero_le _⟩ dX4_match_251 ?_
                refine g_istore_n C dX4_match_254 (by decide) rfl ?_
                refine g_sub [3, 0, 4] rfl ?_
                exact wX4_match_b255 hN C hr hK11 h
              · have h := g_ff c17 h
                refine g_iconst (v := 2) C dX4_match_201 (by decide) ?_
                obtain ⟨rfl, rfl⟩ := Prod.mk.inj (Option.some.inj h)
                exact g_reti C hr dX4_match_202
            · have h := g_tt c14 h
              refine g_sub [3, 2, 4, 1, 0] rfl ?_
              exact wX4_match_b111 hN C hr hK11 h
        · have h := g_tt c10 h
          refine g_goto C dX4_match_86 (tgt := 255) (by decide) ?_
          refine g_sub [3, 2, 4] rfl ?_
          exact wX4_match_b255 hN C hr hK11 h
      · have h := g_ff c5 h
        refine g_aload_n C 1 dX4_match_34 rfl ?_
        refine g_iconst (v := (-1)) C dX4_match_35 (by decide) ?_
        refine g_aload_n C 1 dX4_match_36 rfl ?_
        refine g_get (v := gr 135) C 129 5 (by omega) rfl rfl gu_4 (by decide) qf_X4_27 rfl dX4_match_37 ?_
        refine g_iload_n C 0 dX4_match_40 rfl ?_
        obtain ⟨hg25, h⟩ := g_gd h
        refine g_iald C 135 (by omega) rfl rfl hg25 dX4_match_41 ?_
        refine g_isub C dX4_match_42 ?_
        refine g_aload_n C 1 dX4_match_43 rfl ?_
        refine g_get (v := gr 136) C 129 6 (by omega) rfl rfl gu_4 (by decide) qf_X4_30 rfl dX4_match_44 ?_
        refine g_iload_n C 0 dX4_match_47 rfl ?_
        obtain ⟨hg26, h⟩ := g_gd h
        refine g_iald C 136 (by omega) rfl rfl hg26 dX4_match_48 ?_
        obtain ⟨q27, eq27, h⟩ := g_bd h
        refine g_callvV C 129 [gi ((-1) - (A 135 v3.toNatClampNeg)), gi (A 136 v3.toNatClampNeg)] (kX4_give hN eq27) qs_X4_59 (by omega) (by omega) rfl rfl rfl rfl (Nat.le_of_ble_eq_true rfl) ⟨Nat.zero_le _, Nat.zero_le _⟩ dX4_match_49 ?_
        refine g_goto C dX4_match_52 (tgt := 255) (by decide) ?_
        refine g_sub [1, 0, 2] rfl ?_
        exact wX4_match_b255 hN C hr hK11 h

set_option maxHeartbeats 2000000 in
set_option maxRecDepth 20000 in
theorem wX4_match_L11 (hN : 183 ≤ N) {A0 A' : gM} {r : Int32} (C : gC p R s m args meth c cX4_match RX4 9 D g (va_A (gw g ad ln A0 N) s.heap.size) 2) (hr : meth.sig.returnType = some .int)  : ∀ (f : Nat) {A : gM} {x3 : Int32} {x4 : Int32}, mX4_match_L11 f A x3 x4 = some (A', r) → gJ p l e R s m args below meth c (gEi below D g N ad ln A0 A' r args s) 9 D g (va_A (gw g ad ln A0 N) s.heap.size) N ad ln A [(0, gr 129), (3, gi x3), (4, gi x4)] 0 0 11 []
  | 0, A, x3, x4, h => by cases h
  | f + 1, A, x3, x4, h => wX4_match_b11 hN C hr (fun {A} {x3} {x4} h => wX4_match_L11 hN C hr f h) h
set_option maxHeartbeats 2000000 in
set_option maxRecDepth 20000 in
theorem wX4_match_b0 (hN : 183 ≤ N) {A0 A' : gM} {r : Int32} (C : gC p R s m args meth c cX4_match RX4 9 D g (va_A (gw g ad ln A0 N) s.heap.size) 2) (hr : meth.sig.returnType = some .int)  {A : gM} {x1 : Int32} {x2 : Int32} (h : mX4_match_b0 A x1 x2 = some (A', r)) : gJ p l e R s m args below meth c (gEi below D g N ad ln A0 A' r args s) 9 D g (va_A (gw g ad ln A0 N) s.heap.size) N ad ln A [(0, gr 129), (1, gi x1), (2, gi x2)] 0 0 0 [] := by
  unfold mX4_match_b0 at h
  refine g_aload_n C 0 dX4_match_0 rfl ?_
  refine g_iconst (v := 0) C dX4_match_1 (by decide) ?_
  refine g_iload_n C 1 dX4_match_2 rfl ?_
  refine g_iload_n C 2 dX4_match_3 rfl ?_
  obtain ⟨q1, eq1, h⟩ := g_bd h
  refine g_calliV C 129 [gi 0, gi x1, gi x2] (kX4_putPair hN eq1) qs_X4_56 (by omega) (by omega) rfl rfl rfl rfl (Nat.le_of_ble_eq_true rfl) ⟨Nat.zero_le _, Nat.zero_le _⟩ dX4_match_4 ?_
  refine g_istore_n C dX4_match_7 (by decide) rfl ?_
  refine g_iconst (v := 0) C dX4_match_8 (by decide) ?_
  refine g_istore C dX4_match_9 (by decide) rfl ?_
  refine g_sub [2, 1, 0] rfl ?_
  exact wX4_match_L11 hN C hr gF h

set_option maxHeartbeats 2000000 in
set_option maxRecDepth 20000 in
theorem kX4_match {l : Launch} {D : va_G} {g : gT} {N : Nat} {ad ln : Nat → Nat} (hN : 183 ≤ N) {A A' : gM} {x1 : Int32} {x2 : Int32} {r : Int32} (h : mX4_match A x1 x2 = some (A', r)) : gKi l yX4_match cX4_match 9 (some .int) (2) D g N ad ln A [gr 129, gi x1, gi x2] A' r := by
  refine g_meti (by decide) (Nat.le_of_ble_eq_true rfl) ?_
  intro p e s m args below meth c C hr
  refine g_sub [0, 1, 2] rfl ?_
  exact wX4_match_b0 hN C hr h
end T4
end
section
theorem qf_X2_11 : Cond.fieldLink RX2 11 (TX2 0).1 (TX2 0).2.1 (TX2 0).2.2.1 ∈ gtb := g_tb (List.mem_of_getElem? (i := 62) (by decide +kernel)) (by decide +kernel)
theorem qf_X2_16 : Cond.fieldLink RX2 16 (TX2 1).1 (TX2 1).2.1 (TX2 1).2.2.1 ∈ gtb := g_tb (List.mem_of_getElem? (i := 63) (by decide +kernel)) (by decide +kernel)
theorem qf_X4_33 : Cond.fieldLink RX4 33 (TX4 7).1 (TX4 7).2.1 (TX4 7).2.2.1 ∈ gtb := g_tb (List.mem_of_getElem? (i := 109) (by decide +kernel)) (by decide +kernel)
theorem qf_X4_70 : Cond.fieldLink RX4 70 (TX4 8).1 (TX4 8).2.1 (TX4 8).2.2.1 ∈ gtb := g_tb (List.mem_of_getElem? (i := 110) (by decide +kernel)) (by decide +kernel)
theorem qm_X2_35 : g_siteM RX2 35 Lib.Math.max.name Lib.Math.max.code := ⟨g_tb (List.mem_of_getElem? (i := 297) (by decide +kernel)) (by decide +kernel), g_tb (List.mem_of_getElem? (i := 298) (by decide +kernel)) (by decide +kernel), g_tb (List.mem_of_getElem? (i := 39) (by decide +kernel)) (by decide +kernel), g_tb (List.mem_of_getElem? (i := 299) (by decide +kernel)) (by decide +kernel)⟩
theorem qm_X4_82 : g_siteM RX4 82 Lib.Math.min.name Lib.Math.min.code := ⟨g_tb (List.mem_of_getElem? (i := 348) (by decide +kernel)) (by decide +kernel), g_tb (List.mem_of_getElem? (i := 334) (by decide +kernel)) (by decide +kernel), g_tb (List.mem_of_getElem? (i := 39) (by decide +kernel)) (by decide +kernel), g_tb (List.mem_of_getElem? (i := 335) (by decide +kernel)) (by decide +kernel)⟩
theorem qs_X2_20 : g_site RX2 RX2 20 yX2_sizeOf cX2_sizeOf 2 (some .int) 1 := ⟨g_tb (List.mem_of_getElem? (i := 261) (by decide +kernel)) (by decide +kernel), g_tb (List.mem_of_getElem? (i := 263) (by decide +kernel)) (by decide +kernel), g_tb (List.mem_of_getElem? (i := 3) (by decide +kernel)) (by decide +kernel), g_tb (List.mem_of_getElem? (i := 34) (by decide +kernel)) (by decide +kernel), g_tb (List.mem_of_getElem? (i := 264) (by decide +kernel)) (by decide +kernel), ⟨rfl, by decide, by decide, by decide +kernel⟩, by decide⟩
theorem qs_X2_24 : g_site RX2 RX2 24 yX2_fact cX2_fact 4 (some .int) 2 := ⟨g_tb (List.mem_of_getElem? (i := 265) (by decide +kernel)) (by decide +kernel), g_tb (List.mem_of_getElem? (i := 266) (by decide +kernel)) (by decide +kernel), g_tb (List.mem_of_getElem? (i := 267) (by decide +kernel)) (by decide +kernel), g_tb (List.mem_of_getElem? (i := 34) (by decide +kernel)) (by decide +kernel), g_tb (List.mem_of_getElem? (i := 268) (by decide +kernel)) (by decide +kernel), ⟨rfl, by decide, by decide, by decide +kernel⟩, by decide⟩
theorem qs_X2_28 : g_site RX2 RX2 28 yX2_sizeOver cX2_sizeOver 4 (some .int) 3 := ⟨g_tb (List.mem_of_getElem? (i := 292) (by decide +kernel)) (by decide +kernel), g_tb (List.mem_of_getElem? (i := 258) (by decide +kernel)) (by decide +kernel), g_tb (List.mem_of_getElem? (i := 259) (by decide +kernel)) (by decide +kernel), g_tb (List.mem_of_getElem? (i := 34) (by decide +kernel)) (by decide +kernel), g_tb (List.mem_of_getElem? (i := 260) (by decide +kernel)) (by decide +kernel), ⟨rfl, by decide, by decide, by decide +kernel⟩, by decide⟩
theorem qs_X2_32 : g_site RX2 RX2 32 yX2_depthOf cX2_depthOf 2 (some .int) 1 := ⟨g_tb (List.mem_of_getElem? (i := 293) (by decide +kernel)) (by decide +kernel), g_tb (List.mem_of_getElem? (i := 295) (by decide +kernel)) (by decide +kernel), g_tb (List.mem_of_getElem? (i := 4) (by decide +kernel)) (by decide +kernel), g_tb (List.mem_of_getElem? (i := 34) (by decide +kernel)) (by decide +kernel), g_tb (List.mem_of_getElem? (i := 296) (by decide +kernel)) (by decide +kernel), ⟨rfl, by decide, by decide, by decide +kernel⟩, by decide⟩
theorem qs_X4_73 : g_site RX4 RX4 73 yX4_codeOf cX4_codeOf 2 (some .int) 1 := ⟨g_tb (List.mem_of_getElem? (i := 431) (by decide +kernel)) (by decide +kernel), g_tb (List.mem_of_getElem? (i := 433) (by decide +kernel)) (by decide +kernel), g_tb (List.mem_of_getElem? (i := 16) (by decide +kernel)) (by decide +kernel), g_tb (List.mem_of_getElem? (i := 37) (by decide +kernel)) (by decide +kernel), g_tb (List.mem_of_getElem? (i := 434) (by decide +kernel)) (by decide +kernel), ⟨rfl, by decide, by decide, by decide +kernel⟩, by decide⟩
theorem qs_X4_76 : g_site RX4 RX4 76 yX4_codeOfNode cX4_codeOfNode 2 (some .int) 1 := ⟨g_tb (List.mem_of_getElem? (i := 435) (by decide +kernel)) (by decide +kernel), g_tb (List.mem_of_getElem? (i := 374) (by decide +kernel)) (by decide +kernel), g_tb (List.mem_of_getElem? (i := 375) (by decide +kernel)) (by decide +kernel), g_tb (List.mem_of_getElem? (i := 37) (by decide +kernel)) (by decide +kernel), g_tb (List.mem_of_getElem? (i := 376) (by decide +kernel)) (by decide +kernel), ⟨rfl, by decide, by decide, by decide +kernel⟩, by decide⟩
theorem qs_X4_79 : g_site RX4 RX4 79 yX4_seatOf cX4_seatOf 3 (some .int) 1 := ⟨g_tb (List.mem_of_getElem? (i := 436) (by decide +kernel)) (by decide +kernel), g_tb (List.mem_of_getElem? (i := 438) (by decide +kernel)) (by decide +kernel), g_tb (List.mem_of_getElem? (i := 17) (by decide +kernel)) (by decide +kernel), g_tb (List.mem_of_getElem? (i := 37) (by decide +kernel)) (by decide +kernel), g_tb (List.mem_of_getElem? (i := 439) (by decide +kernel)) (by decide +kernel), ⟨rfl, by decide, by decide, by decide +kernel⟩, by decide⟩
theorem qs_X4_88 : g_site RX4 RX4 88 yX4_isNode cX4_isNode 2 (some .boolean) 1 := ⟨g_tb (List.mem_of_getElem? (i := 353) (by decide +kernel)) (by decide +kernel), g_tb (List.mem_of_getElem? (i := 354) (by decide +kernel)) (by decide +kernel), g_tb (List.mem_of_getElem? (i := 355) (by decide +kernel)) (by decide +kernel), g_tb (List.mem_of_getElem? (i := 37) (by decide +kernel)) (by decide +kernel), g_tb (List.mem_of_getElem? (i := 356) (by decide +kernel)) (by decide +kernel), ⟨rfl, by decide, by decide, by decide +kernel⟩, by decide⟩
theorem qs_X4_91 : g_site RX4 RX4 91 yX4_nodeOfCode cX4_nodeOfCode 2 (some .int) 1 := ⟨g_tb (List.mem_of_getElem? (i := 357) (by decide +kernel)) (by decide +kernel), g_tb (List.mem_of_getElem? (i := 358) (by decide +kernel)) (by decide +kernel), g_tb (List.mem_of_getElem? (i := 359) (by decide +kernel)) (by decide +kernel), g_tb (List.mem_of_getElem? (i := 37) (by decide +kernel)) (by decide +kernel), g_tb (List.mem_of_getElem? (i := 360) (by decide +kernel)) (by decide +kernel), ⟨rfl, by decide, by decide, by decide +kernel⟩, by decide⟩
theorem qs_X4_94 : g_site RX4 RX4 94 yX4_variableAt cX4_variableAt 2 (some .int) 1 := ⟨g_tb (List.mem_of_getElem? (i := 361) (by decide +kernel)) (by decide +kernel), g_tb (List.mem_of_getElem? (i := 363) (by decide +kernel)) (by decide +kernel), g_tb (List.mem_of_getElem? (i := 9) (by decide +kernel)) (by decide +kernel), g_tb (List.mem_of_getElem? (i := 37) (by decide +kernel)) (by decide +kernel), g_tb (List.mem_of_getElem? (i := 364) (by decide +kernel)) (by decide +kernel), ⟨rfl, by decide, by decide, by decide +kernel⟩, by decide⟩
theorem gu_2 : ∀ w ∈ wsX20, w ∈ gtb := by decide +kernel
theorem dX4_clear_0 : decode cX4_clear 0 = .ok (.aload_n 0, 1) := by decide +kernel
theorem dX4_clear_1 : decode cX4_clear 1 = .ok (.iconst 0, 1) := by decide +kernel
theorem dX4_clear_2 : decode cX4_clear 2 = .ok (.putfield 36, 3) := by decide +kernel
theorem dX4_clear_5 : decode cX4_clear 5 = .ok (.aload_n 0, 1) := by decide +kernel
theorem dX4_clear_6 : decode cX4_clear 6 = .ok (.iconst 0, 1) := by decide +kernel
theorem dX4_clear_7 : decode cX4_clear 7 = .ok (.iconst (-1), 1) := by decide +kernel
theorem dX4_clear_8 : decode cX4_clear 8 = .ok (.iconst (-1), 1) := by decide +kernel
theorem dX4_clear_9 : decode cX4_clear 9 = .ok (.invokevirtual 40, 3) := by decide +kernel
theorem dX4_clear_12 : decode cX4_clear 12 = .ok (.pop, 1) := by decide +kernel
theorem dX4_clear_13 : decode cX4_clear 13 = .ok (.aload_n 0, 1) := by decide +kernel
theorem dX4_clear_14 : decode cX4_clear 14 = .ok (.iconst 1, 1) := by decide +kernel
theorem dX4_clear_15 : decode cX4_clear 15 = .ok (.iconst (-1), 1) := by decide +kernel
theorem dX4_clear_16 : decode cX4_clear 16 = .ok (.iconst (-1), 1) := by decide +kernel
theorem dX4_clear_17 : decode cX4_clear 17 = .ok (.invokevirtual 40, 3) := by decide +kernel
theorem dX4_clear_20 : decode cX4_clear 20 = .ok (.pop, 1) := by decide +kernel
theorem dX4_clear_21 : decode cX4_clear 21 = .ok (.return_, 1) := by decide +kernel
theorem dX4_variableAt_0 : decode cX4_variableAt 0 = .ok (.iload_n 1, 1) := by decide +kernel
theorem dX4_variableAt_1 : decode cX4_variableAt 1 = .ok (.ifCond .lt 9, 3) := by decide +kernel
theorem dX4_variableAt_4 : decode cX4_variableAt 4 = .ok (.iload_n 1, 1) := by decide +kernel
theorem dX4_variableAt_5 : decode cX4_variableAt 5 = .ok (.bipush 60, 2) := by decide +kernel
theorem dX4_variableAt_7 : decode cX4_variableAt 7 = .ok (.if_icmp .lt 5, 3) := by decide +kernel
theorem dX4_variableAt_10 : decode cX4_variableAt 10 = .ok (.iconst 0, 1) := by decide +kernel
theorem dX4_variableAt_11 : decode cX4_variableAt 11 = .ok (.ireturn, 1) := by decide +kernel
theorem dX4_variableAt_12 : decode cX4_variableAt 12 = .ok (.aload_n 0, 1) := by decide +kernel
theorem dX4_variableAt_13 : decode cX4_variableAt 13 = .ok (.getfield 33, 3) := by decide +kernel
theorem dX4_variableAt_16 : decode cX4_variableAt 16 = .ok (.iload_n 1, 1) := by decide +kernel
theorem dX4_variableAt_17 : decode cX4_variableAt 17 = .ok (.iaload, 1) := by decide +kernel
theorem dX4_variableAt_18 : decode cX4_variableAt 18 = .ok (.iconst (-1), 1) := by decide +kernel
theorem dX4_variableAt_19 : decode cX4_variableAt 19 = .ok (.if_icmp .ne 16, 3) := by decide +kernel
theorem dX4_variableAt_22 : decode cX4_variableAt 22 = .ok (.aload_n 0, 1) := by decide +kernel
theorem dX4_variableAt_23 : decode cX4_variableAt 23 = .ok (.getfield 33, 3) := by decide +kernel
theorem dX4_variableAt_26 : decode cX4_variableAt 26 = .ok (.iload_n 1, 1) := by decide +kernel
theorem dX4_variableAt_27 : decode cX4_variableAt 27 = .ok (.aload_n 0, 1) := by decide +kernel
theorem dX4_variableAt_28 : decode cX4_variableAt 28 = .ok (.iconst 4, 1) := by decide +kernel
theorem dX4_variableAt_29 : decode cX4_variableAt 29 = .ok (.iconst (-1), 1) := by decide +kernel
theorem dX4_variableAt_30 : decode cX4_variableAt 30 = .ok (.iconst (-1), 1) := by decide +kernel
theorem dX4_variableAt_31 : decode cX4_variableAt 31 = .ok (.invokevirtual 40, 3) := by decide +kernel
theorem dX4_variableAt_34 : decode cX4_variableAt 34 = .ok (.iastore, 1) := by decide +kernel
theorem dX4_variableAt_35 : decode cX4_variableAt 35 = .ok (.aload_n 0, 1) := by decide +kernel
theorem dX4_variableAt_36 : decode cX4_variableAt 36 = .ok (.getfield 33, 3) := by decide +kernel
theorem dX4_variableAt_39 : decode cX4_variableAt 39 = .ok (.iload_n 1, 1) := by decide +kernel
theorem dX4_variableAt_40 : decode cX4_variableAt 40 = .ok (.iaload, 1) := by decide +kernel
theorem dX4_variableAt_41 : decode cX4_variableAt 41 = .ok (.ireturn, 1) := by decide +kernel
theorem dX4_seatOf_0 : decode cX4_seatOf 0 = .ok (.iconst 0, 1) := by decide +kernel
theorem dX4_seatOf_1 : decode cX4_seatOf 1 = .ok (.istore_n 2, 1) := by decide +kernel
theorem dX4_seatOf_2 : decode cX4_seatOf 2 = .ok (.iload_n 2, 1) := by decide +kernel
theorem dX4_seatOf_3 : decode cX4_seatOf 3 = .ok (.aload_n 0, 1) := by decide +kernel
theorem dX4_seatOf_4 : decode cX4_seatOf 4 = .ok (.getfield 70, 3) := by decide +kernel
theorem dX4_seatOf_7 : decode cX4_seatOf 7 = .ok (.if_icmp .ge 27, 3) := by decide +kernel
theorem dX4_seatOf_10 : decode cX4_seatOf 10 = .ok (.iload_n 2, 1) := by decide +kernel
theorem dX4_seatOf_11 : decode cX4_seatOf 11 = .ok (.bipush 60, 2) := by decide +kernel
theorem dX4_seatOf_13 : decode cX4_seatOf 13 = .ok (.if_icmp .ge 21, 3) := by decide +kernel
theorem dX4_seatOf_16 : decode cX4_seatOf 16 = .ok (.aload_n 0, 1) := by decide +kernel
theorem dX4_seatOf_17 : decode cX4_seatOf 17 = .ok (.getfield 33, 3) := by decide +kernel
theorem dX4_seatOf_20 : decode cX4_seatOf 20 = .ok (.iload_n 2, 1) := by decide +kernel
theorem dX4_seatOf_21 : decode cX4_seatOf 21 = .ok (.iaload, 1) := by decide +kernel
theorem dX4_seatOf_22 : decode cX4_seatOf 22 = .ok (.iload_n 1, 1) := by decide +kernel
theorem dX4_seatOf_23 : decode cX4_seatOf 23 = .ok (.if_icmp .ne 5, 3) := by decide +kernel
theorem dX4_seatOf_26 : decode cX4_seatOf 26 = .ok (.iload_n 2, 1) := by decide +kernel
theorem dX4_seatOf_27 : decode cX4_seatOf 27 = .ok (.ireturn, 1) := by decide +kernel
theorem dX4_seatOf_28 : decode cX4_seatOf 28 = .ok (.iinc 2 1, 3) := by decide +kernel
theorem dX4_seatOf_31 : decode cX4_seatOf 31 = .ok (.goto (-29), 3) := by decide +kernel
theorem dX4_seatOf_34 : decode cX4_seatOf 34 = .ok (.aload_n 0, 1) := by decide +kernel
theorem dX4_seatOf_35 : decode cX4_seatOf 35 = .ok (.getfield 70, 3) := by decide +kernel
theorem dX4_seatOf_38 : decode cX4_seatOf 38 = .ok (.ifCond .lt 32, 3) := by decide +kernel
theorem dX4_seatOf_41 : decode cX4_seatOf 41 = .ok (.aload_n 0, 1) := by decide +kernel
theorem dX4_seatOf_42 : decode cX4_seatOf 42 = .ok (.getfield 70, 3) := by decide +kernel
theorem dX4_seatOf_45 : decode cX4_seatOf 45 = .ok (.bipush 60, 2) := by decide +kernel
theorem dX4_seatOf_47 : decode cX4_seatOf 47 = .ok (.if_icmp .ge 23, 3) := by decide +kernel
theorem dX4_seatOf_50 : decode cX4_seatOf 50 = .ok (.aload_n 0, 1) := by decide +kernel
theorem dX4_seatOf_51 : decode cX4_seatOf 51 = .ok (.getfield 33, 3) := by decide +kernel
theorem dX4_seatOf_54 : decode cX4_seatOf 54 = .ok (.aload_n 0, 1) := by decide +kernel
theorem dX4_seatOf_55 : decode cX4_seatOf 55 = .ok (.getfield 70, 3) := by decide +kernel
theorem dX4_seatOf_58 : decode cX4_seatOf 58 = .ok (.iload_n 1, 1) := by decide +kernel
theorem dX4_seatOf_59 : decode cX4_seatOf 59 = .ok (.iastore, 1) := by decide +kernel
theorem dX4_seatOf_60 : decode cX4_seatOf 60 = .ok (.aload_n 0, 1) := by decide +kernel
theorem dX4_seatOf_61 : decode cX4_seatOf 61 = .ok (.dup, 1) := by decide +kernel
theorem dX4_seatOf_62 : decode cX4_seatOf 62 = .ok (.getfield 70, 3) := by decide +kernel
theorem dX4_seatOf_65 : decode cX4_seatOf 65 = .ok (.iconst 1, 1) := by decide +kernel
theorem dX4_seatOf_66 : decode cX4_seatOf 66 = .ok (.iadd, 1) := by decide +kernel
theorem dX4_seatOf_67 : decode cX4_seatOf 67 = .ok (.putfield 70, 3) := by decide +kernel
theorem dX4_seatOf_70 : decode cX4_seatOf 70 = .ok (.aload_n 0, 1) := by decide +kernel
theorem dX4_seatOf_71 : decode cX4_seatOf 71 = .ok (.getfield 70, 3) := by decide +kernel
theorem dX4_seatOf_74 : decode cX4_seatOf 74 = .ok (.iconst 1, 1) := by decide +kernel
theorem dX4_seatOf_75 : decode cX4_seatOf 75 = .ok (.isub, 1) := by decide +kernel
theorem dX4_seatOf_76 : decode cX4_seatOf 76 = .ok (.ireturn, 1) := by decide +kernel
theorem dX4_codeOf_0 : decode cX4_codeOf 0 = .ok (.iload_n 1, 1) := by decide +kernel
theorem dX4_codeOf_1 : decode cX4_codeOf 1 = .ok (.ifCond .lt 10, 3) := by decide +kernel
theorem dX4_codeOf_4 : decode cX4_codeOf 4 = .ok (.iload_n 1, 1) := by decide +kernel
theorem dX4_codeOf_5 : decode cX4_codeOf 5 = .ok (.sipush 2600, 3) := by decide +kernel
theorem dX4_codeOf_8 : decode cX4_codeOf 8 = .ok (.if_icmp .lt 5, 3) := by decide +kernel
theorem dX4_codeOf_11 : decode cX4_codeOf 11 = .ok (.iconst 0, 1) := by decide +kernel
theorem dX4_codeOf_12 : decode cX4_codeOf 12 = .ok (.ireturn, 1) := by decide +kernel
theorem dX4_codeOf_13 : decode cX4_codeOf 13 = .ok (.aload_n 0, 1) := by decide +kernel
theorem dX4_codeOf_14 : decode cX4_codeOf 14 = .ok (.getfield 11, 3) := by decide +kernel
theorem dX4_codeOf_17 : decode cX4_codeOf 17 = .ok (.iload_n 1, 1) := by decide +kernel
theorem dX4_codeOf_18 : decode cX4_codeOf 18 = .ok (.iaload, 1) := by decide +kernel
theorem dX4_codeOf_19 : decode cX4_codeOf 19 = .ok (.iconst 4, 1) := by decide +kernel
theorem dX4_codeOf_20 : decode cX4_codeOf 20 = .ok (.if_icmp .eq 10, 3) := by decide +kernel
theorem dX4_codeOf_23 : decode cX4_codeOf 23 = .ok (.aload_n 0, 1) := by decide +kernel
theorem dX4_codeOf_24 : decode cX4_codeOf 24 = .ok (.getfield 11, 3) := by decide +kernel
theorem dX4_codeOf_27 : decode cX4_codeOf 27 = .ok (.iload_n 1, 1) := by decide +kernel
theorem dX4_codeOf_28 : decode cX4_codeOf 28 = .ok (.iaload, 1) := by decide +kernel
theorem dX4_codeOf_29 : decode cX4_codeOf 29 = .ok (.ireturn, 1) := by decide +kernel
theorem dX4_codeOf_30 : decode cX4_codeOf 30 = .ok (.aload_n 0, 1) := by decide +kernel
theorem dX4_codeOf_31 : decode cX4_codeOf 31 = .ok (.getfield 21, 3) := by decide +kernel
theorem dX4_codeOf_34 : decode cX4_codeOf 34 = .ok (.iload_n 1, 1) := by decide +kernel
theorem dX4_codeOf_35 : decode cX4_codeOf 35 = .ok (.iaload, 1) := by decide +kernel
theorem dX4_codeOf_36 : decode cX4_codeOf 36 = .ok (.aload_n 0, 1) := by decide +kernel
theorem dX4_codeOf_37 : decode cX4_codeOf 37 = .ok (.getfield 44, 3) := by decide +kernel
theorem dX4_codeOf_40 : decode cX4_codeOf 40 = .ok (.if_icmp .ne 11, 3) := by decide +kernel
theorem dX4_codeOf_43 : decode cX4_codeOf 43 = .ok (.aload_n 0, 1) := by decide +kernel
theorem dX4_codeOf_44 : decode cX4_codeOf 44 = .ok (.iload_n 1, 1) := by decide +kernel
theorem dX4_codeOf_45 : decode cX4_codeOf 45 = .ok (.invokevirtual 76, 3) := by decide +kernel
theorem dX4_codeOf_48 : decode cX4_codeOf 48 = .ok (.goto 11, 3) := by decide +kernel
theorem dX4_codeOf_51 : decode cX4_codeOf 51 = .ok (.bipush 10, 2) := by decide +kernel
theorem dX4_codeOf_53 : decode cX4_codeOf 53 = .ok (.aload_n 0, 1) := by decide +kernel
theorem dX4_codeOf_54 : decode cX4_codeOf 54 = .ok (.iload_n 1, 1) := by decide +kernel
theorem dX4_codeOf_55 : decode cX4_codeOf 55 = .ok (.invokevirtual 79, 3) := by decide +kernel
theorem dX4_codeOf_58 : decode cX4_codeOf 58 = .ok (.iadd, 1) := by decide +kernel
theorem dX4_codeOf_59 : decode cX4_codeOf 59 = .ok (.ireturn, 1) := by decide +kernel
theorem dX4_write_0 : decode cX4_write 0 = .ok (.iconst 0, 1) := by decide +kernel
theorem dX4_write_1 : decode cX4_write 1 = .ok (.istore_n 3, 1) := by decide +kernel
theorem dX4_write_2 : decode cX4_write 2 = .ok (.iconst 1, 1) := by decide +kernel
theorem dX4_write_3 : decode cX4_write 3 = .ok (.istore 4, 2) := by decide +kernel
theorem dX4_write_5 : decode cX4_write 5 = .ok (.aload_n 0, 1) := by decide +kernel
theorem dX4_write_6 : decode cX4_write 6 = .ok (.iconst 0, 1) := by decide +kernel
theorem dX4_write_7 : decode cX4_write 7 = .ok (.putfield 70, 3) := by decide +kernel
theorem dX4_write_10 : decode cX4_write 10 = .ok (.aload_n 0, 1) := by decide +kernel
theorem dX4_write_11 : decode cX4_write 11 = .ok (.getfield 24, 3) := by decide +kernel
theorem dX4_write_14 : decode cX4_write 14 = .ok (.iconst 0, 1) := by decide +kernel
theorem dX4_write_15 : decode cX4_write 15 = .ok (.iload_n 1, 1) := by decide +kernel
theorem dX4_write_16 : decode cX4_write 16 = .ok (.iastore, 1) := by decide +kernel
theorem dX4_write_17 : decode cX4_write 17 = .ok (.iload 4, 2) := by decide +kernel
theorem dX4_write_19 : decode cX4_write 19 = .ok (.ifCond .le 100, 3) := by decide +kernel
theorem dX4_write_22 : decode cX4_write 22 = .ok (.iload_n 3, 1) := by decide +kernel
theorem dX4_write_23 : decode cX4_write 23 = .ok (.iload 4, 2) := by decide +kernel
theorem dX4_write_25 : decode cX4_write 25 = .ok (.iadd, 1) := by decide +kernel
theorem dX4_write_26 : decode cX4_write 26 = .ok (.aload_n 2, 1) := by decide +kernel
theorem dX4_write_27 : decode cX4_write 27 = .ok (.arraylength, 1) := by decide +kernel
theorem dX4_write_28 : decode cX4_write 28 = .ok (.if_icmp .gt 91, 3) := by decide +kernel
theorem dX4_write_31 : decode cX4_write 31 = .ok (.iload 4, 2) := by decide +kernel
theorem dX4_write_33 : decode cX4_write 33 = .ok (.iconst 2, 1) := by decide +kernel
theorem dX4_write_34 : decode cX4_write 34 = .ok (.iadd, 1) := by decide +kernel
theorem dX4_write_35 : decode cX4_write 35 = .ok (.sipush 5208, 3) := by decide +kernel
theorem dX4_write_38 : decode cX4_write 38 = .ok (.if_icmp .gt 81, 3) := by decide +kernel
theorem dX4_write_41 : decode cX4_write 41 = .ok (.iinc 4 (-1), 3) := by decide +kernel
theorem dX4_write_44 : decode cX4_write 44 = .ok (.aload_n 0, 1) := by decide +kernel
theorem dX4_write_45 : decode cX4_write 45 = .ok (.aload_n 0, 1) := by decide +kernel
theorem dX4_write_46 : decode cX4_write 46 = .ok (.getfield 24, 3) := by decide +kernel
theorem dX4_write_49 : decode cX4_write 49 = .ok (.iload 4, 2) := by decide +kernel
theorem dX4_write_51 : decode cX4_write 51 = .ok (.iaload, 1) := by decide +kernel
theorem dX4_write_52 : decode cX4_write 52 = .ok (.invokevirtual 48, 3) := by decide +kernel
theorem dX4_write_55 : decode cX4_write 55 = .ok (.istore 5, 2) := by decide +kernel
theorem dX4_write_57 : decode cX4_write 57 = .ok (.aload_n 2, 1) := by decide +kernel
theorem dX4_write_58 : decode cX4_write 58 = .ok (.iload_n 3, 1) := by decide +kernel
theorem dX4_write_59 : decode cX4_write 59 = .ok (.aload_n 0, 1) := by decide +kernel
theorem dX4_write_60 : decode cX4_write 60 = .ok (.iload 5, 2) := by decide +kernel
theorem dX4_write_62 : decode cX4_write 62 = .ok (.invokevirtual 73, 3) := by decide +kernel
theorem dX4_write_65 : decode cX4_write 65 = .ok (.iastore, 1) := by decide +kernel
theorem dX4_write_66 : decode cX4_write 66 = .ok (.iinc 3 1, 3) := by decide +kernel
theorem dX4_write_69 : decode cX4_write 69 = .ok (.aload_n 0, 1) := by decide +kernel
theorem dX4_write_70 : decode cX4_write 70 = .ok (.aload_n 0, 1) := by decide +kernel
theorem dX4_write_71 : decode cX4_write 71 = .ok (.getfield 11, 3) := by decide +kernel
theorem dX4_write_74 : decode cX4_write 74 = .ok (.iload 5, 2) := by decide +kernel
theorem dX4_write_76 : decode cX4_write 76 = .ok (.iaload, 1) := by decide +kernel
theorem dX4_write_77 : decode cX4_write 77 = .ok (.invokevirtual 52, 3) := by decide +kernel
theorem dX4_write_80 : decode cX4_write 80 = .ok (.ifCond .eq 36, 3) := by decide +kernel
theorem dX4_write_83 : decode cX4_write 83 = .ok (.aload_n 0, 1) := by decide +kernel
theorem dX4_write_84 : decode cX4_write 84 = .ok (.getfield 24, 3) := by decide +kernel
theorem dX4_write_87 : decode cX4_write 87 = .ok (.iload 4, 2) := by decide +kernel
theorem dX4_write_89 : decode cX4_write 89 = .ok (.aload_n 0, 1) := by decide +kernel
theorem dX4_write_90 : decode cX4_write 90 = .ok (.getfield 18, 3) := by decide +kernel
theorem dX4_write_93 : decode cX4_write 93 = .ok (.iload 5, 2) := by decide +kernel
theorem dX4_write_95 : decode cX4_write 95 = .ok (.iaload, 1) := by decide +kernel
theorem dX4_write_96 : decode cX4_write 96 = .ok (.iastore, 1) := by decide +kernel
theorem dX4_write_97 : decode cX4_write 97 = .ok (.aload_n 0, 1) := by decide +kernel
theorem dX4_write_98 : decode cX4_write 98 = .ok (.getfield 24, 3) := by decide +kernel
theorem dX4_write_101 : decode cX4_write 101 = .ok (.iload 4, 2) := by decide +kernel
theorem dX4_write_103 : decode cX4_write 103 = .ok (.iconst 1, 1) := by decide +kernel
theorem dX4_write_104 : decode cX4_write 104 = .ok (.iadd, 1) := by decide +kernel
theorem dX4_write_105 : decode cX4_write 105 = .ok (.aload_n 0, 1) := by decide +kernel
theorem dX4_write_106 : decode cX4_write 106 = .ok (.getfield 15, 3) := by decide +kernel
theorem dX4_write_109 : decode cX4_write 109 = .ok (.iload 5, 2) := by decide +kernel
theorem dX4_write_111 : decode cX4_write 111 = .ok (.iaload, 1) := by decide +kernel
theorem dX4_write_112 : decode cX4_write 112 = .ok (.iastore, 1) := by decide +kernel
theorem dX4_write_113 : decode cX4_write 113 = .ok (.iinc 4 2, 3) := by decide +kernel
theorem dX4_write_116 : decode cX4_write 116 = .ok (.goto (-99), 3) := by decide +kernel
theorem dX4_write_119 : decode cX4_write 119 = .ok (.iload 4, 2) := by decide +kernel
theorem dX4_write_121 : decode cX4_write 121 = .ok (.ifCond .le 10, 3) := by decide +kernel
theorem dX4_write_124 : decode cX4_write 124 = .ok (.aload_n 2, 1) := by decide +kernel
theorem dX4_write_125 : decode cX4_write 125 = .ok (.arraylength, 1) := by decide +kernel
theorem dX4_write_126 : decode cX4_write 126 = .ok (.iconst 1, 1) := by decide +kernel
theorem dX4_write_127 : decode cX4_write 127 = .ok (.iadd, 1) := by decide +kernel
theorem dX4_write_128 : decode cX4_write 128 = .ok (.goto 4, 3) := by decide +kernel
theorem dX4_write_131 : decode cX4_write 131 = .ok (.iload_n 3, 1) := by decide +kernel
theorem dX4_write_132 : decode cX4_write 132 = .ok (.ireturn, 1) := by decide +kernel
theorem dX4_build_0 : decode cX4_build 0 = .ok (.iconst 0, 1) := by decide +kernel
theorem dX4_build_1 : decode cX4_build 1 = .ok (.istore_n 3, 1) := by decide +kernel
theorem dX4_build_2 : decode cX4_build 2 = .ok (.iload_n 3, 1) := by decide +kernel
theorem dX4_build_3 : decode cX4_build 3 = .ok (.bipush 60, 2) := by decide +kernel
theorem dX4_build_5 : decode cX4_build 5 = .ok (.if_icmp .ge 16, 3) := by decide +kernel
theorem dX4_build_8 : decode cX4_build 8 = .ok (.aload_n 0, 1) := by decide +kernel
theorem dX4_build_9 : decode cX4_build 9 = .ok (.getfield 33, 3) := by decide +kernel
theorem dX4_build_12 : decode cX4_build 12 = .ok (.iload_n 3, 1) := by decide +kernel
theorem dX4_build_13 : decode cX4_build 13 = .ok (.iconst (-1), 1) := by decide +kernel
theorem dX4_build_14 : decode cX4_build 14 = .ok (.iastore, 1) := by decide +kernel
theorem dX4_build_15 : decode cX4_build 15 = .ok (.iinc 3 1, 3) := by decide +kernel
theorem dX4_build_18 : decode cX4_build 18 = .ok (.goto (-16), 3) := by decide +kernel
theorem dX4_build_21 : decode cX4_build 21 = .ok (.iconst 0, 1) := by decide +kernel
theorem dX4_build_22 : decode cX4_build 22 = .ok (.istore_n 3, 1) := by decide +kernel
theorem dX4_build_23 : decode cX4_build 23 = .ok (.iload_n 2, 1) := by decide +kernel
theorem dX4_build_24 : decode cX4_build 24 = .ok (.aload_n 1, 1) := by decide +kernel
theorem dX4_build_25 : decode cX4_build 25 = .ok (.arraylength, 1) := by decide +kernel
theorem dX4_build_26 : decode cX4_build 26 = .ok (.invokestatic 82, 3) := by decide +kernel
theorem dX4_build_29 : decode cX4_build 29 = .ok (.iconst 1, 1) := by decide +kernel
theorem dX4_build_30 : decode cX4_build 30 = .ok (.isub, 1) := by decide +kernel
theorem dX4_build_31 : decode cX4_build 31 = .ok (.istore 4, 2) := by decide +kernel
theorem dX4_build_33 : decode cX4_build 33 = .ok (.iload 4, 2) := by decide +kernel
theorem dX4_build_35 : decode cX4_build 35 = .ok (.ifCond .lt 121, 3) := by decide +kernel
theorem dX4_build_38 : decode cX4_build 38 = .ok (.aload_n 1, 1) := by decide +kernel
theorem dX4_build_39 : decode cX4_build 39 = .ok (.iload 4, 2) := by decide +kernel
theorem dX4_build_41 : decode cX4_build 41 = .ok (.iaload, 1) := by decide +kernel
theorem dX4_build_42 : decode cX4_build 42 = .ok (.istore 5, 2) := by decide +kernel
theorem dX4_build_44 : decode cX4_build 44 = .ok (.iload 5, 2) := by decide +kernel
theorem dX4_build_46 : decode cX4_build 46 = .ok (.istore 6, 2) := by decide +kernel
theorem dX4_build_48 : decode cX4_build 48 = .ok (.aload_n 0, 1) := by decide +kernel
theorem dX4_build_49 : decode cX4_build 49 = .ok (.iload 5, 2) := by decide +kernel
theorem dX4_build_51 : decode cX4_build 51 = .ok (.invokevirtual 52, 3) := by decide +kernel
theorem dX4_build_54 : decode cX4_build 54 = .ok (.ifCond .eq 40, 3) := by decide +kernel
theorem dX4_build_57 : decode cX4_build 57 = .ok (.iload_n 3, 1) := by decide +kernel
theorem dX4_build_58 : decode cX4_build 58 = .ok (.iconst 2, 1) := by decide +kernel
theorem dX4_build_59 : decode cX4_build 59 = .ok (.if_icmp .ge 5, 3) := by decide +kernel
theorem dX4_build_62 : decode cX4_build 62 = .ok (.iconst 0, 1) := by decide +kernel
theorem dX4_build_63 : decode cX4_build 63 = .ok (.ireturn, 1) := by decide +kernel
theorem dX4_build_64 : decode cX4_build 64 = .ok (.aload_n 0, 1) := by decide +kernel
theorem dX4_build_65 : decode cX4_build 65 = .ok (.iload 5, 2) := by decide +kernel
theorem dX4_build_67 : decode cX4_build 67 = .ok (.aload_n 0, 1) := by decide +kernel
theorem dX4_build_68 : decode cX4_build 68 = .ok (.getfield 24, 3) := by decide +kernel
theorem dX4_build_71 : decode cX4_build 71 = .ok (.iload_n 3, 1) := by decide +kernel
theorem dX4_build_72 : decode cX4_build 72 = .ok (.iconst 1, 1) := by decide +kernel
theorem dX4_build_73 : decode cX4_build 73 = .ok (.isub, 1) := by decide +kernel
theorem dX4_build_74 : decode cX4_build 74 = .ok (.iaload, 1) := by decide +kernel
theorem dX4_build_75 : decode cX4_build 75 = .ok (.aload_n 0, 1) := by decide +kernel
theorem dX4_build_76 : decode cX4_build 76 = .ok (.getfield 24, 3) := by decide +kernel
theorem dX4_build_79 : decode cX4_build 79 = .ok (.iload_n 3, 1) := by decide +kernel
theorem dX4_build_80 : decode cX4_build 80 = .ok (.iconst 2, 1) := by decide +kernel
theorem dX4_build_81 : decode cX4_build 81 = .ok (.isub, 1) := by decide +kernel
theorem dX4_build_82 : decode cX4_build 82 = .ok (.iaload, 1) := by decide +kernel
theorem dX4_build_83 : decode cX4_build 83 = .ok (.invokevirtual 40, 3) := by decide +kernel
theorem dX4_build_86 : decode cX4_build 86 = .ok (.istore 6, 2) := by decide +kernel
theorem dX4_build_88 : decode cX4_build 88 = .ok (.iinc 3 (-2), 3) := by decide +kernel
theorem dX4_build_91 : decode cX4_build 91 = .ok (.goto 41, 3) := by decide +kernel
theorem dX4_build_94 : decode cX4_build 94 = .ok (.aload_n 0, 1) := by decide +kernel
theorem dX4_build_95 : decode cX4_build 95 = .ok (.iload 5, 2) := by decide +kernel
theorem dX4_build_97 : decode cX4_build 97 = .ok (.invokevirtual 88, 3) := by decide +kernel
theorem dX4_build_100 : decode cX4_build 100 = .ok (.ifCond .eq 14, 3) := by decide +kernel
theorem dX4_build_103 : decode cX4_build 103 = .ok (.aload_n 0, 1) := by decide +kernel
theorem dX4_build_104 : decode cX4_build 104 = .ok (.iload 5, 2) := by decide +kernel
theorem dX4_build_106 : decode cX4_build 106 = .ok (.invokevirtual 91, 3) := by decide +kernel
theorem dX4_build_109 : decode cX4_build 109 = .ok (.istore 6, 2) := by decide +kernel
theorem dX4_build_111 : decode cX4_build 111 = .ok (.goto 21, 3) := by decide +kernel
theorem dX4_build_114 : decode cX4_build 114 = .ok (.iload 5, 2) := by decide +kernel
theorem dX4_build_116 : decode cX4_build 116 = .ok (.bipush 10, 2) := by decide +kernel
theorem dX4_build_118 : decode cX4_build 118 = .ok (.if_icmp .lt 14, 3) := by decide +kernel
theorem dX4_build_121 : decode cX4_build 121 = .ok (.aload_n 0, 1) := by decide +kernel
theorem dX4_build_122 : decode cX4_build 122 = .ok (.iload 5, 2) := by decide +kernel
theorem dX4_build_124 : decode cX4_build 124 = .ok (.bipush 10, 2) := by decide +kernel
theorem dX4_build_126 : decode cX4_build 126 = .ok (.isub, 1) := by decide +kernel
theorem dX4_build_127 : decode cX4_build 127 = .ok (.invokevirtual 94, 3) := by decide +kernel
theorem dX4_build_130 : decode cX4_build 130 = .ok (.istore 6, 2) := by decide +kernel
theorem dX4_build_132 : decode cX4_build 132 = .ok (.iload_n 3, 1) := by decide +kernel
theorem dX4_build_133 : decode cX4_build 133 = .ok (.sipush 5208, 3) := by decide +kernel
theorem dX4_build_136 : decode cX4_build 136 = .ok (.if_icmp .ge 14, 3) := by decide +kernel
theorem dX4_build_139 : decode cX4_build 139 = .ok (.aload_n 0, 1) := by decide +kernel
theorem dX4_build_140 : decode cX4_build 140 = .ok (.getfield 24, 3) := by decide +kernel
theorem dX4_build_143 : decode cX4_build 143 = .ok (.iload_n 3, 1) := by decide +kernel
theorem dX4_build_144 : decode cX4_build 144 = .ok (.iload 6, 2) := by decide +kernel
theorem dX4_build_146 : decode cX4_build 146 = .ok (.iastore, 1) := by decide +kernel
theorem dX4_build_147 : decode cX4_build 147 = .ok (.iinc 3 1, 3) := by decide +kernel
theorem dX4_build_150 : decode cX4_build 150 = .ok (.iinc 4 (-1), 3) := by decide +kernel
theorem dX4_build_153 : decode cX4_build 153 = .ok (.goto (-120), 3) := by decide +kernel
theorem dX4_build_156 : decode cX4_build 156 = .ok (.iload_n 3, 1) := by decide +kernel
theorem dX4_build_157 : decode cX4_build 157 = .ok (.ifCond .le 14, 3) := by decide +kernel
theorem dX4_build_160 : decode cX4_build 160 = .ok (.aload_n 0, 1) := by decide +kernel
theorem dX4_build_161 : decode cX4_build 161 = .ok (.getfield 24, 3) := by decide +kernel
theorem dX4_build_164 : decode cX4_build 164 = .ok (.iload_n 3, 1) := by decide +kernel
theorem dX4_build_165 : decode cX4_build 165 = .ok (.iconst 1, 1) := by decide +kernel
theorem dX4_build_166 : decode cX4_build 166 = .ok (.isub, 1) := by decide +kernel
theorem dX4_build_167 : decode cX4_build 167 = .ok (.iaload, 1) := by decide +kernel
theorem dX4_build_168 : decode cX4_build 168 = .ok (.goto 4, 3) := by decide +kernel
theorem dX4_build_171 : decode cX4_build 171 = .ok (.iconst 0, 1) := by decide +kernel
theorem dX4_build_172 : decode cX4_build 172 = .ok (.ireturn, 1) := by decide +kernel
theorem dX2_made_0 : decode cX2_made 0 = .ok (.aload_n 0, 1) := by decide +kernel
theorem dX2_made_1 : decode cX2_made 1 = .ok (.getfield 16, 3) := by decide +kernel
theorem dX2_made_4 : decode cX2_made 4 = .ok (.ireturn, 1) := by decide +kernel
theorem dX2_fact_0 : decode cX2_fact 0 = .ok (.iload_n 1, 1) := by decide +kernel
theorem dX2_fact_1 : decode cX2_fact 1 = .ok (.ifCond .lt 21, 3) := by decide +kernel
theorem dX2_fact_4 : decode cX2_fact 4 = .ok (.iload_n 1, 1) := by decide +kernel
theorem dX2_fact_5 : decode cX2_fact 5 = .ok (.aload_n 0, 1) := by decide +kernel
theorem dX2_fact_6 : decode cX2_fact 6 = .ok (.getfield 16, 3) := by decide +kernel
theorem dX2_fact_9 : decode cX2_fact 9 = .ok (.if_icmp .ge 13, 3) := by decide +kernel
theorem dX2_fact_12 : decode cX2_fact 12 = .ok (.iload_n 1, 1) := by decide +kernel
theorem dX2_fact_13 : decode cX2_fact 13 = .ok (.bipush 40, 2) := by decide +kernel
theorem dX2_fact_15 : decode cX2_fact 15 = .ok (.if_icmp .ge 7, 3) := by decide +kernel
theorem dX2_fact_18 : decode cX2_fact 18 = .ok (.iconst 1, 1) := by decide +kernel
theorem dX2_fact_19 : decode cX2_fact 19 = .ok (.goto 4, 3) := by decide +kernel
theorem dX2_fact_22 : decode cX2_fact 22 = .ok (.iconst 0, 1) := by decide +kernel
theorem dX2_fact_23 : decode cX2_fact 23 = .ok (.istore_n 3, 1) := by decide +kernel
theorem dX2_fact_24 : decode cX2_fact 24 = .ok (.iload_n 3, 1) := by decide +kernel
theorem dX2_fact_25 : decode cX2_fact 25 = .ok (.ifCond .eq 24, 3) := by decide +kernel
theorem dX2_fact_28 : decode cX2_fact 28 = .ok (.iload_n 2, 1) := by decide +kernel
theorem dX2_fact_29 : decode cX2_fact 29 = .ok (.ifCond .lt 20, 3) := by decide +kernel
theorem dX2_fact_32 : decode cX2_fact 32 = .ok (.iload_n 2, 1) := by decide +kernel
theorem dX2_fact_33 : decode cX2_fact 33 = .ok (.bipush 7, 2) := by decide +kernel
theorem dX2_fact_35 : decode cX2_fact 35 = .ok (.if_icmp .ge 14, 3) := by decide +kernel
theorem dX2_fact_38 : decode cX2_fact 38 = .ok (.aload_n 0, 1) := by decide +kernel
theorem dX2_fact_39 : decode cX2_fact 39 = .ok (.getfield 11, 3) := by decide +kernel
theorem dX2_fact_42 : decode cX2_fact 42 = .ok (.iload_n 1, 1) := by decide +kernel
theorem dX2_fact_43 : decode cX2_fact 43 = .ok (.aaload, 1) := by decide +kernel
theorem dX2_fact_44 : decode cX2_fact 44 = .ok (.iload_n 2, 1) := by decide +kernel
theorem dX2_fact_45 : decode cX2_fact 45 = .ok (.iaload, 1) := by decide +kernel
theorem dX2_fact_46 : decode cX2_fact 46 = .ok (.goto 4, 3) := by decide +kernel
theorem dX2_fact_49 : decode cX2_fact 49 = .ok (.iconst (-1), 1) := by decide +kernel
theorem dX2_fact_50 : decode cX2_fact 50 = .ok (.ireturn, 1) := by decide +kernel
theorem dX2_sizeOf_0 : decode cX2_sizeOf 0 = .ok (.iload_n 1, 1) := by decide +kernel
theorem dX2_sizeOf_1 : decode cX2_sizeOf 1 = .ok (.iconst (-1), 1) := by decide +kernel
theorem dX2_sizeOf_2 : decode cX2_sizeOf 2 = .ok (.if_icmp .ne 7, 3) := by decide +kernel
theorem dX2_sizeOf_5 : decode cX2_sizeOf 5 = .ok (.iconst 0, 1) := by decide +kernel
theorem dX2_sizeOf_6 : decode cX2_sizeOf 6 = .ok (.goto 9, 3) := by decide +kernel
theorem dX2_sizeOf_9 : decode cX2_sizeOf 9 = .ok (.aload_n 0, 1) := by decide +kernel
theorem dX2_sizeOf_10 : decode cX2_sizeOf 10 = .ok (.iload_n 1, 1) := by decide +kernel
theorem dX2_sizeOf_11 : decode cX2_sizeOf 11 = .ok (.iconst 5, 1) := by decide +kernel
theorem dX2_sizeOf_12 : decode cX2_sizeOf 12 = .ok (.invokevirtual 24, 3) := by decide +kernel
theorem dX2_sizeOf_15 : decode cX2_sizeOf 15 = .ok (.ireturn, 1) := by decide +kernel
theorem dX2_sizeOver_0 : decode cX2_sizeOver 0 = .ok (.iconst 1, 1) := by decide +kernel
theorem dX2_sizeOver_1 : decode cX2_sizeOver 1 = .ok (.aload_n 0, 1) := by decide +kernel
theorem dX2_sizeOver_2 : decode cX2_sizeOver 2 = .ok (.iload_n 1, 1) := by decide +kernel
theorem dX2_sizeOver_3 : decode cX2_sizeOver 3 = .ok (.invokevirtual 20, 3) := by decide +kernel
theorem dX2_sizeOver_6 : decode cX2_sizeOver 6 = .ok (.iadd, 1) := by decide +kernel
theorem dX2_sizeOver_7 : decode cX2_sizeOver 7 = .ok (.aload_n 0, 1) := by decide +kernel
theorem dX2_sizeOver_8 : decode cX2_sizeOver 8 = .ok (.iload_n 2, 1) := by decide +kernel
theorem dX2_sizeOver_9 : decode cX2_sizeOver 9 = .ok (.invokevirtual 20, 3) := by decide +kernel
theorem dX2_sizeOver_12 : decode cX2_sizeOver 12 = .ok (.iadd, 1) := by decide +kernel
theorem dX2_sizeOver_13 : decode cX2_sizeOver 13 = .ok (.aload_n 0, 1) := by decide +kernel
theorem dX2_sizeOver_14 : decode cX2_sizeOver 14 = .ok (.iload_n 3, 1) := by decide +kernel
theorem dX2_sizeOver_15 : decode cX2_sizeOver 15 = .ok (.invokevirtual 20, 3) := by decide +kernel
theorem dX2_sizeOver_18 : decode cX2_sizeOver 18 = .ok (.iadd, 1) := by decide +kernel
theorem dX2_sizeOver_19 : decode cX2_sizeOver 19 = .ok (.ireturn, 1) := by decide +kernel
theorem dX2_depthOf_0 : decode cX2_depthOf 0 = .ok (.iload_n 1, 1) := by decide +kernel
theorem dX2_depthOf_1 : decode cX2_depthOf 1 = .ok (.iconst (-1), 1) := by decide +kernel
theorem dX2_depthOf_2 : decode cX2_depthOf 2 = .ok (.if_icmp .ne 7, 3) := by decide +kernel
theorem dX2_depthOf_5 : decode cX2_depthOf 5 = .ok (.iconst 0, 1) := by decide +kernel
theorem dX2_depthOf_6 : decode cX2_depthOf 6 = .ok (.goto 10, 3) := by decide +kernel
theorem dX2_depthOf_9 : decode cX2_depthOf 9 = .ok (.aload_n 0, 1) := by decide +kernel
theorem dX2_depthOf_10 : decode cX2_depthOf 10 = .ok (.iload_n 1, 1) := by decide +kernel
theorem dX2_depthOf_11 : decode cX2_depthOf 11 = .ok (.bipush 6, 2) := by decide +kernel
theorem dX2_depthOf_13 : decode cX2_depthOf 13 = .ok (.invokevirtual 24, 3) := by decide +kernel
theorem dX2_depthOf_16 : decode cX2_depthOf 16 = .ok (.ireturn, 1) := by decide +kernel
theorem dX2_append_0 : decode cX2_append 0 = .ok (.aload_n 0, 1) := by decide +kernel
theorem dX2_append_1 : decode cX2_append 1 = .ok (.getfield 16, 3) := by decide +kernel
theorem dX2_append_4 : decode cX2_append 4 = .ok (.ifCond .lt 12, 3) := by decide +kernel
theorem dX2_append_7 : decode cX2_append 7 = .ok (.aload_n 0, 1) := by decide +kernel
theorem dX2_append_8 : decode cX2_append 8 = .ok (.getfield 16, 3) := by decide +kernel
theorem dX2_append_11 : decode cX2_append 11 = .ok (.bipush 40, 2) := by decide +kernel
theorem dX2_append_13 : decode cX2_append 13 = .ok (.if_icmp .lt 5, 3) := by decide +kernel
theorem dX2_append_16 : decode cX2_append 16 = .ok (.iconst (-1), 1) := by decide +kernel
theorem dX2_append_17 : decode cX2_append 17 = .ok (.ireturn, 1) := by decide +kernel
theorem dX2_append_18 : decode cX2_append 18 = .ok (.aload_n 0, 1) := by decide +kernel
theorem dX2_append_19 : decode cX2_append 19 = .ok (.getfield 11, 3) := by decide +kernel
theorem dX2_append_22 : decode cX2_append 22 = .ok (.aload_n 0, 1) := by decide +kernel
theorem dX2_append_23 : decode cX2_append 23 = .ok (.getfield 16, 3) := by decide +kernel
theorem dX2_append_26 : decode cX2_append 26 = .ok (.aaload, 1) := by decide +kernel
theorem dX2_append_27 : decode cX2_append 27 = .ok (.astore 6, 2) := by decide +kernel
theorem dX2_append_29 : decode cX2_append 29 = .ok (.aload 6, 2) := by decide +kernel
theorem dX2_append_31 : decode cX2_append 31 = .ok (.iconst 0, 1) := by decide +kernel
theorem dX2_append_32 : decode cX2_append 32 = .ok (.iload_n 1, 1) := by decide +kernel
theorem dX2_append_33 : decode cX2_append 33 = .ok (.iastore, 1) := by decide +kernel
theorem dX2_append_34 : decode cX2_append 34 = .ok (.aload 6, 2) := by decide +kernel
theorem dX2_append_36 : decode cX2_append 36 = .ok (.iconst 1, 1) := by decide +kernel
theorem dX2_append_37 : decode cX2_append 37 = .ok (.iload_n 3, 1) := by decide +kernel
theorem dX2_append_38 : decode cX2_append 38 = .ok (.iastore, 1) := by decide +kernel
theorem dX2_append_39 : decode cX2_append 39 = .ok (.aload 6, 2) := by decide +kernel
theorem dX2_append_41 : decode cX2_append 41 = .ok (.iconst 2, 1) := by decide +kernel
theorem dX2_append_42 : decode cX2_append 42 = .ok (.iload 4, 2) := by decide +kernel
theorem dX2_append_44 : decode cX2_append 44 = .ok (.iastore, 1) := by decide +kernel
theorem dX2_append_45 : decode cX2_append 45 = .ok (.aload 6, 2) := by decide +kernel
theorem dX2_append_47 : decode cX2_append 47 = .ok (.iconst 3, 1) := by decide +kernel
theorem dX2_append_48 : decode cX2_append 48 = .ok (.iload 5, 2) := by decide +kernel
theorem dX2_append_50 : decode cX2_append 50 = .ok (.iastore, 1) := by decide +kernel
theorem dX2_append_51 : decode cX2_append 51 = .ok (.aload 6, 2) := by decide +kernel
theorem dX2_append_53 : decode cX2_append 53 = .ok (.iconst 4, 1) := by decide +kernel
theorem dX2_append_54 : decode cX2_append 54 = .ok (.iload_n 2, 1) := by decide +kernel
theorem dX2_append_55 : decode cX2_append 55 = .ok (.iastore, 1) := by decide +kernel
theorem dX2_append_56 : decode cX2_append 56 = .ok (.aload 6, 2) := by decide +kernel
theorem dX2_append_58 : decode cX2_append 58 = .ok (.iconst 5, 1) := by decide +kernel
theorem dX2_append_59 : decode cX2_append 59 = .ok (.aload_n 0, 1) := by decide +kernel
theorem dX2_append_60 : decode cX2_append 60 = .ok (.iload_n 3, 1) := by decide +kernel
theorem dX2_append_61 : decode cX2_append 61 = .ok (.iload 4, 2) := by decide +kernel
theorem dX2_append_63 : decode cX2_append 63 = .ok (.iload 5, 2) := by decide +kernel
theorem dX2_append_65 : decode cX2_append 65 = .ok (.invokevirtual 28, 3) := by decide +kernel
theorem dX2_append_68 : decode cX2_append 68 = .ok (.iastore, 1) := by decide +kernel
theorem dX2_append_69 : decode cX2_append 69 = .ok (.aload 6, 2) := by decide +kernel
theorem dX2_append_71 : decode cX2_append 71 = .ok (.bipush 6, 2) := by decide +kernel
theorem dX2_append_73 : decode cX2_append 73 = .ok (.iconst 1, 1) := by decide +kernel
theorem dX2_append_74 : decode cX2_append 74 = .ok (.aload_n 0, 1) := by decide +kernel
theorem dX2_append_75 : decode cX2_append 75 = .ok (.iload_n 3, 1) := by decide +kernel
theorem dX2_append_76 : decode cX2_append 76 = .ok (.invokevirtual 32, 3) := by decide +kernel
theorem dX2_append_79 : decode cX2_append 79 = .ok (.aload_n 0, 1) := by decide +kernel
theorem dX2_append_80 : decode cX2_append 80 = .ok (.iload 4, 2) := by decide +kernel
theorem dX2_append_82 : decode cX2_append 82 = .ok (.invokevirtual 32, 3) := by decide +kernel
theorem dX2_append_85 : decode cX2_append 85 = .ok (.aload_n 0, 1) := by decide +kernel
theorem dX2_append_86 : decode cX2_append 86 = .ok (.iload 5, 2) := by decide +kernel
theorem dX2_append_88 : decode cX2_append 88 = .ok (.invokevirtual 32, 3) := by decide +kernel
theorem dX2_append_91 : decode cX2_append 91 = .ok (.invokestatic 35, 3) := by decide +kernel
theorem dX2_append_94 : decode cX2_append 94 = .ok (.invokestatic 35, 3) := by decide +kernel
theorem dX2_append_97 : decode cX2_append 97 = .ok (.iadd, 1) := by decide +kernel
theorem dX2_append_98 : decode cX2_append 98 = .ok (.iastore, 1) := by decide +kernel
theorem dX2_append_99 : decode cX2_append 99 = .ok (.aload_n 0, 1) := by decide +kernel
theorem dX2_append_100 : decode cX2_append 100 = .ok (.dup, 1) := by decide +kernel
theorem dX2_append_101 : decode cX2_append 101 = .ok (.getfield 16, 3) := by decide +kernel
theorem dX2_append_104 : decode cX2_append 104 = .ok (.iconst 1, 1) := by decide +kernel
theorem dX2_append_105 : decode cX2_append 105 = .ok (.iadd, 1) := by decide +kernel
theorem dX2_append_106 : decode cX2_append 106 = .ok (.putfield 16, 3) := by decide +kernel
theorem dX2_append_109 : decode cX2_append 109 = .ok (.aload_n 0, 1) := by decide +kernel
theorem dX2_append_110 : decode cX2_append 110 = .ok (.getfield 16, 3) := by decide +kernel
theorem dX2_append_113 : decode cX2_append 113 = .ok (.iconst 1, 1) := by decide +kernel
theorem dX2_append_114 : decode cX2_append 114 = .ok (.isub, 1) := by decide +kernel
theorem dX2_append_115 : decode cX2_append 115 = .ok (.ireturn, 1) := by decide +kernel
theorem dX2_dropLast_0 : decode cX2_dropLast 0 = .ok (.aload_n 0, 1) := by decide +kernel
theorem dX2_dropLast_1 : decode cX2_dropLast 1 = .ok (.getfield 16, 3) := by decide +kernel
theorem dX2_dropLast_4 : decode cX2_dropLast 4 = .ok (.ifCond .le 13, 3) := by decide +kernel
theorem dX2_dropLast_7 : decode cX2_dropLast 7 = .ok (.aload_n 0, 1) := by decide +kernel
theorem dX2_dropLast_8 : decode cX2_dropLast 8 = .ok (.dup, 1) := by decide +kernel
theorem dX2_dropLast_9 : decode cX2_dropLast 9 = .ok (.getfield 16, 3) := by decide +kernel
theorem dX2_dropLast_12 : decode cX2_dropLast 12 = .ok (.iconst 1, 1) := by decide +kernel
theorem dX2_dropLast_13 : decode cX2_dropLast 13 = .ok (.isub, 1) := by decide +kernel
theorem dX2_dropLast_14 : decode cX2_dropLast 14 = .ok (.putfield 16, 3) := by decide +kernel
theorem dX2_dropLast_17 : decode cX2_dropLast 17 = .ok (.return_, 1) := by decide +kernel
section T42
variable {p : Program} {l : Launch} {e : Env} {R : Room} {s : State} {m : MethodId} {args : Array Value} {below : List Frame} {meth : Method} {c : Code} {D : va_G} {g : gT} {N : Nat} {ad ln : Nat → Nat}
def mX4_clear_b0 (A : gM) : Option (gM) :=
  g_let (g_up A 129 9 0) fun A1 =>
  (mX4_make A1 0 (-1) (-1)).bind fun q2 =>
  (mX4_make q2.1 1 (-1) (-1)).bind fun q3 =>
  some q3.1
def mX4_clear (A : gM) : Option (gM) := mX4_clear_b0 A
set_option maxHeartbeats 2000000 in
set_option maxRecDepth 20000 in
theorem wX4_clear_b0 (hN : 183 ≤ N) {A0 A' : gM} (C : gC p R s m args meth c cX4_clear RX4 1 D g (va_A (gw g ad ln A0 N) s.heap.size) 1) (hr : meth.sig.returnType = none)  {A : gM} (h : mX4_clear_b0 A = some A') : gJ p l e R s m args below meth c (gEv below D g N ad ln A0 A' args s) 1 D g (va_A (gw g ad ln A0 N) s.heap.size) N ad ln A [(0, gr 129)] 0 0 0 [] := by
  unfold mX4_clear_b0 at h
  refine g_aload_n C 0 dX4_clear_0 rfl ?_
  refine g_iconst (v := 0) C dX4_clear_1 (by decide) ?_
  obtain ⟨A1, eA1, h⟩ := g_lt h
  refine g_put C 129 9 tyX4 tyX4_ok nmX4 (by omega) rfl rfl gu_4 (by decide) qf_X4_36 rfl (by decide +kernel) (Nat.le_of_ble_eq_true rfl) rfl eA1 dX4_clear_2 ?_
  refine g_aload_n C 0 dX4_clear_5 rfl ?_
  refine g_iconst (v := 0) C dX4_clear_6 (by decide) ?_
  refine g_iconst (v := (-1)) C dX4_clear_7 (by decide) ?_
  refine g_iconst (v := (-1)) C dX4_clear_8 (by decide) ?_
  obtain ⟨q2, eq2, h⟩ := g_bd h
  refine g_calliV C 129 [gi 0, gi (-1), gi (-1)] (kX4_make hN eq2) qs_X4_40 (by omega) (by omega) rfl rfl rfl rfl (Nat.le_of_ble_eq_true rfl) ⟨Nat.zero_le _, Nat.zero_le _⟩ dX4_clear_9 ?_
  refine g_pop_i C dX4_clear_12 ?_
  refine g_aload_n C 0 dX4_clear_13 rfl ?_
  refine g_iconst (v := 1) C dX4_clear_14 (by decide) ?_
  refine g_iconst (v := (-1)) C dX4_clear_15 (by decide) ?_
  refine g_iconst (v := (-1)) C dX4_clear_16 (by decide) ?_
  obtain ⟨q3, eq3, h⟩ := g_bd h
  refine g_calliV C 129 [gi 1, gi (-1), gi (-1)] (kX4_make hN eq3) qs_X4_40 (by omega) (by omega) rfl rfl rfl rfl (Nat.le_of_ble_eq_true rfl) ⟨Nat.zero_le _, Nat.zero_le _⟩ dX4_clear_17 ?_
  refine g_pop_i C dX4_clear_20 ?_
  obtain rfl := Option.some.inj h
  exact g_retv C hr dX4_clear_21

set_option maxHeartbeats 2000000 in
set_option maxRecDepth 20000 in
theorem kX4_clear {l : Launch} {D : va_G} {g : gT} {N : Nat} {ad ln : Nat → Nat} (hN : 183 ≤ N) {A A' : gM} (h : mX4_clear A = some A') : gKv l yX4_clear cX4_clear 1 (none) (1) D g N ad ln A [gr 129] A' := by
  refine g_metv (by decide) (Nat.le_of_ble_eq_true rfl) ?_
  intro p e s m args below meth c C hr
  refine g_sub [0] rfl ?_
  exact wX4_clear_b0 hN C hr h
def mX4_variableAt_b10 (A : gM) : Option (gM × Int32) :=
  some (A, 0)
def mX4_variableAt_b35 (A : gM) (x1 : Int32) : Option (gM × Int32) :=
  if g_in x1 60 = true then
  some (A, (A 137 x1.toNatClampNeg))
  else none
def mX4_variableAt_b0 (A : gM) (x1 : Int32) : Option (gM × Int32) :=
  if x1 < 0 then
  mX4_variableAt_b10 A
  else
  if x1 < 60 then
  if g_in x1 60 = true then
  if (A 137 x1.toNatClampNeg) = (-1) then
  (mX4_make A 4 (-1) (-1)).bind fun q5 =>
  if g_in x1 60 = true then g_let (g_up q5.1 137 x1.toNatClampNeg q5.2) fun A7 =>
  mX4_variableAt_b35 A7 x1
  else none
  else
  mX4_variableAt_b35 A x1
  else none
  else
  mX4_variableAt_b10 A
def mX4_variableAt (A : gM) (x1 : Int32) : Option (gM × Int32) := mX4_variableAt_b0 A x1
set_option maxHeartbeats 2000000 in
set_option maxRecDepth 20000 in
theorem wX4_variableAt_b10 (hN : 183 ≤ N) {A0 A' : gM} {r : Int32} (C : gC p R s m args meth c cX4_variableAt RX4 2 D g (va_A (gw g ad ln A0 N) s.heap.size) 1) (hr : meth.sig.returnType = some .int)  {A : gM} (h : mX4_variableAt_b10 A = some (A', r)) : gJ p l e R s m args below meth c (gEi below D g N ad ln A0 A' r args s) 2 D g (va_A (gw g ad ln A0 N) s.heap.size) N ad ln A [] 0 0 10 [] := by
  unfold mX4_variableAt_b10 at h
  refine g_iconst (v := 0) C dX4_variableAt_10 (by decide) ?_
  obtain ⟨rfl, rfl⟩ := Prod.mk.inj (Option.some.inj h)
  exact g_reti C hr dX4_variableAt_11

set_option maxHeartbeats 2000000 in
set_option maxRecDepth 20000 in
theorem wX4_variableAt_b35 (hN : 183 ≤ N) {A0 A' : gM} {r : Int32} (C : gC p R s m args meth c cX4_variableAt RX4 2 D g (va_A (gw g ad ln A0 N) s.heap.size) 1) (hr : meth.sig.returnType = some .int)  {A : gM} {x1 : Int32} (h : mX4_variableAt_b35 A x1 = some (A', r)) : gJ p l e R s m args below meth c (gEi below D g N ad ln A0 A' r args s) 2 D g (va_A (gw g ad ln A0 N) s.heap.size) N ad ln A [(0, gr 129), (1, gi x1)] 0 0 35 [] := by
  unfold mX4_variableAt_b35 at h
  refine g_aload_n C 0 dX4_variableAt_35 rfl ?_
  refine g_get (v := gr 137) C 129 7 (by omega) rfl rfl gu_4 (by decide) qf_X4_33 rfl dX4_variableAt_36 ?_
  refine g_iload_n C 1 dX4_variableAt_39 rfl ?_
  obtain ⟨hg1, h⟩ := g_gd h
  refine g_iald C 137 (by omega) rfl rfl hg1 dX4_variableAt_40 ?_
  obtain ⟨rfl, rfl⟩ := Prod.mk.inj (Option.some.inj h)
  exact g_reti C hr dX4_variableAt_41

set_option maxHeartbeats 2000000 in
set_option maxRecDepth 20000 in
theorem wX4_variableAt_b0 (hN : 183 ≤ N) {A0 A' : gM} {r : Int32} (C : gC p R s m args meth c cX4_variableAt RX4 2 D g (va_A (gw g ad ln A0 N) s.heap.size) 1) (hr : meth.sig.returnType = some .int)  {A : gM} {x1 : Int32} (h : mX4_variableAt_b0 A x1 = some (A', r)) : gJ p l e R s m args below meth c (gEi below D g N ad ln A0 A' r args s) 2 D g (va_A (gw g ad ln A0 N) s.heap.size) N ad ln A [(0, gr 129), (1, gi x1)] 0 0 0 [] := by
  unfold mX4_variableAt_b0 at h
  refine g_iload_n C 1 dX4_variableAt_0 rfl ?_
  refine g_if_lt C dX4_variableAt_1 (tgt := 10) (by decide) (fun c1 => ?_) (fun c1 => ?_)
  · have h := g_tt c1 h
    refine g_sub [] rfl ?_
    exact wX4_variableAt_b10 hN C hr h
  · have h := g_ff c1 h
    refine g_iload_n C 1 dX4_variableAt_4 rfl ?_
    refine g_bipush (v := 60) C dX4_variableAt_5 (by decide) ?_
    refine g_icmp_lt C dX4_variableAt_7 (tgt := 12) (by decide) (fun c2 => ?_) (fun c2 => ?_)
    · have h := g_tt c2 h
      refine g_aload_n C 0 dX4_variableAt_12 rfl ?_
      refine g_get (v := gr 137) C 129 7 (by omega) rfl rfl gu_4 (by decide) qf_X4_33 rfl dX4_variableAt_13 ?_
      refine g_iload_n C 1 dX4_variableAt_16 rfl ?_
      obtain ⟨hg3, h⟩ := g_gd h
      refine g_iald C 137 (by omega) rfl rfl hg3 dX4_variableAt_17 ?_
      refine g_iconst (v := (-1)) C dX4_variableAt_18 (by decide) ?_
      refine g_icmp_ne C dX4_variableAt_19 (tgt := 35) (by decide) (fun c4 => ?_) (fun c4 => ?_)
      · have h := g_ff c4 h
        refine g_sub [0, 1] rfl ?_
        exact wX4_variableAt_b35 hN C hr h
      · have h := g_tt c4 h
        refine g_aload_n C 0 dX4_variableAt_22 rfl ?_
        refine g_get (v := gr 137) C 129 7 (by omega) rfl rfl gu_4 (by decide) qf_X4_33 rfl dX4_variableAt_23 ?_
        refine g_iload_n C 1 dX4_variableAt_26 rfl ?_
        refine g_aload_n C 0 dX4_variableAt_27 rfl ?_
        refine g_iconst (v := 4) C dX4_variableAt_28 (by decide) ?_
        refine g_iconst (v := (-1)) C dX4_variableAt_29 (by decide) ?_
        refine g_iconst (v := (-1)) C dX4_variableAt_30 (by decide) ?_
        obtain ⟨q5, eq5, h⟩ := g_bd h
        refine g_calliV C 129 [gi 4, gi (-1), gi (-1)] (kX4_make hN eq5) qs_X4_40 (by omega) (by omega) rfl rfl rfl rfl (Nat.le_of_ble_eq_true rfl) ⟨Nat.zero_le _, Nat.zero_le _⟩ dX4_variableAt_31 ?_
        obtain ⟨hg6, h⟩ := g_gd h
        obtain ⟨A7, eA7, h⟩ := g_lt h
        refine g_iast C 137 (by omega) rfl rfl hg6 eA7 dX4_variableAt_34 ?_
        refine g_sub [0, 1] rfl ?_
        exact wX4_variableAt_b35 hN C hr h
    · have h := g_ff c2 h
      refine g_sub [] rfl ?_
      exact wX4_variableAt_b10 hN C hr h

set_option maxHeartbeats 2000000 in
set_option maxRecDepth 20000 in
theorem kX4_variableAt {l : Launch} {D : va_G} {g : gT} {N : Nat} {ad ln : Nat → Nat} (hN : 183 ≤ N) {A A' : gM} {x1 : Int32} {r : Int32} (h : mX4_variableAt A x1 = some (A', r)) : gKi l yX4_variableAt cX4_variableAt 2 (some .int) (1) D g N ad ln A [gr 129, gi x1] A' r := by
  refine g_meti (by decide) (Nat.le_of_ble_eq_true rfl) ?_
  intro p e s m args below meth c C hr
  refine g_sub [0, 1] rfl ?_
  exact wX4_variableAt_b0 hN C hr h
def mX4_seatOf_b70 (A : gM) : Option (gM × Int32) :=
  some (A, ((A 129 8) - 1))
def mX4_seatOf_b34 (A : gM) (x1 : Int32) : Option (gM × Int32) :=
  if (A 129 8) < 0 then
  mX4_seatOf_b70 A
  else
  if 60 ≤ (A 129 8) then
  mX4_seatOf_b70 A
  else
  if g_in (A 129 8) 60 = true then g_let (g_up A 137 (A 129 8).toNatClampNeg x1) fun A4 =>
  g_let (g_up A4 129 8 ((A4 129 8) + 1)) fun A5 =>
  mX4_seatOf_b70 A5
  else none
def mX4_seatOf_b2 (K2 : gM → Int32 → Int32 → Option (gM × Int32)) (A : gM) (x1 : Int32) (x2 : Int32) : Option (gM × Int32) :=
  if (A 129 8) ≤ x2 then
  mX4_seatOf_b34 A x1
  else
  if 60 ≤ x2 then
  mX4_seatOf_b34 A x1
  else
  if g_in x2 60 = true then
  if (A 137 x2.toNatClampNeg) = x1 then
  some (A, x2)
  else
  g_let (x2 + 1) fun v5 =>
  K2 A x1 v5
  else none
def mX4_seatOf_L2 : Nat → gM → Int32 → Int32 → Option (gM × Int32)
  | 0 => fun _ _ _ => none
  | f + 1 => mX4_seatOf_b2 (mX4_seatOf_L2 f)
def mX4_seatOf_b0 (A : gM) (x1 : Int32) : Option (gM × Int32) :=
  mX4_seatOf_L2 gF A x1 0
def mX4_seatOf (A : gM) (x1 : Int32) : Option (gM × Int32) := mX4_seatOf_b0 A x1
set_option maxHeartbeats 2000000 in
set_option maxRecDepth 20000 in
theorem wX4_seatOf_b70 (hN : 183 ≤ N) {A0 A' : gM} {r : Int32} (C : gC p R s m args meth c cX4_seatOf RX4 3 D g (va_A (gw g ad ln A0 N) s.heap.size) 0) (hr : meth.sig.returnType = some .int)  {A : gM} (h : mX4_seatOf_b70 A = some (A', r)) : gJ p l e R s m args below meth c (gEi below D g N ad ln A0 A' r args s) 3 D g (va_A (gw g ad ln A0 N) s.heap.size) N ad ln A [(0, gr 129)] 0 0 70 [] := by
  unfold mX4_seatOf_b70 at h
  refine g_aload_n C 0 dX4_seatOf_70 rfl ?_
  refine g_get (v := gi (A 129 8)) C 129 8 (by omega) rfl rfl gu_4 (by decide) qf_X4_70 rfl dX4_seatOf_71 ?_
  refine g_iconst (v := 1) C dX4_seatOf_74 (by decide) ?_
  refine g_isub C dX4_seatOf_75 ?_
  obtain ⟨rfl, rfl⟩ := Prod.mk.inj (Option.some.inj h)
  exact g_reti C hr dX4_seatOf_76

set_option maxHeartbeats 2000000 in
set_option maxRecDepth 20000 in
theorem wX4_seatOf_b34 (hN : 183 ≤ N) {A0 A' : gM} {r : Int32} (C : gC p R s m args meth c cX4_seatOf RX4 3 D g (va_A (gw g ad ln A0 N) s.heap.size) 0) (hr : meth.sig.returnType = some .int)  {A : gM} {x1 : Int32} (h : mX4_seatOf_b34 A x1 = some (A', r)) : gJ p l e R s m args below meth c (gEi below D g N ad ln A0 A' r args s) 3 D g (va_A (gw g ad ln A0 N) s.heap.size) N ad ln A [(0, gr 129), (1, gi x1)] 0 0 34 [] := by
  unfold mX4_seatOf_b34 at h
  refine g_aload_n C 0 dX4_seatOf_34 rfl ?_
  refine g_get (v := gi (A 129 8)) C 129 8 (by omega) rfl rfl gu_4 (by decide) qf_X4_70 rfl dX4_seatOf_35 ?_
  refine g_if_lt C dX4_seatOf_38 (tgt := 70) (by decide) (fun c1 => ?_) (fun c1 => ?_)
  · have h := g_tt c1 h
    refine g_sub [0] rfl ?_
    exact wX4_seatOf_b70 hN C hr h
  · have h := g_ff c1 h
    refine g_aload_n C 0 dX4_seatOf_41 rfl ?_
    refine g_get (v := gi (A 129 8)) C 129 8 (by omega) rfl rfl gu_4 (by decide) qf_X4_70 rfl dX4_seatOf_42 ?_
    refine g_bipush (v := 60) C dX4_seatOf_45 (by decide) ?_
    refine g_icmp_ge C dX4_seatOf_47 (tgt := 70) (by decide) (fun c2 => ?_) (fun c2 => ?_)
    · have h := g_tt c2 h
      refine g_sub [0] rfl ?_
      exact wX4_seatOf_b70 hN C hr h
    · have h := g_ff c2 h
      refine g_aload_n C 0 dX4_seatOf_50 rfl ?_
      refine g_get (v := gr 137) C 129 7 (by omega) rfl rfl gu_4 (by decide) qf_X4_33 rfl dX4_seatOf_51 ?_
      refine g_aload_n C 0 dX4_seatOf_54 rfl ?_
      refine g_get (v := gi (A 129 8)) C 129 8 (by omega) rfl rfl gu_4 (by decide) qf_X4_70 rfl dX4_seatOf_55 ?_
      refine g_iload_n C 1 dX4_seatOf_58 rfl ?_
      obtain ⟨hg3, h⟩ := g_gd h
      obtain ⟨A4, eA4, h⟩ := g_lt h
      refine g_iast C 137 (by omega) rfl rfl hg3 eA4 dX4_seatOf_59 ?_
      refine g_aload_n C 0 dX4_seatOf_60 rfl ?_
      refine g_dup_r C dX4_seatOf_61 ?_
      refine g_get (v := gi (A4 129 8)) C 129 8 (by omega) rfl rfl gu_4 (by decide) qf_X4_70 rfl dX4_seatOf_62 ?_
      refine g_iconst (v := 1) C dX4_seatOf_65 (by decide) ?_
      refine g_iadd C dX4_seatOf_66 ?_
      obtain ⟨A5, eA5, h⟩ := g_lt h
      refine g_put C 129 8 tyX4 tyX4_ok nmX4 (by omega) rfl rfl gu_4 (by decide) qf_X4_70 rfl (by decide +kernel) (Nat.le_of_ble_eq_true rfl) rfl eA5 dX4_seatOf_67 ?_
      refine g_sub [0] rfl ?_
      exact wX4_seatOf_b70 hN C hr h

set_option maxHeartbeats 2000000 in
set_option maxRecDepth 20000 in
theorem wX4_seatOf_b2 (hN : 183 ≤ N) {A0 A' : gM} {r : Int32} (C : gC p R s m args meth c cX4_seatOf RX4 3 D g (va_A (gw g ad ln A0 N) s.heap.size) 0) (hr : meth.sig.returnType = some .int) {K2 : gM → Int32 → Int32 → Option (gM × Int32)} (hK2 : ∀ {A : gM} {x1 : Int32} {x2 : Int32}, K2 A x1 x2 = some (A', r) → gJ p l e R s m args below meth c (gEi below D g N ad ln A0 A' r args s) 3 D g (va_A (gw g ad ln A0 N) s.heap.size) N ad ln A [(0, gr 129), (1, gi x1), (2, gi x2)] 0 0 2 []) {A : gM} {x1 : Int32} {x2 : Int32} (h : mX4_seatOf_b2 K2 A x1 x2 = some (A', r)) : gJ p l e R s m args below meth c (gEi below D g N ad ln A0 A' r args s) 3 D g (va_A (gw g ad ln A0 N) s.heap.size) N ad ln A [(0, gr 129), (1, gi x1), (2, gi x2)] 0 0 2 [] := by
  unfold mX4_seatOf_b2 at h
  refine g_iload_n C 2 dX4_seatOf_2 rfl ?_
  refine g_aload_n C 0 dX4_seatOf_3 rfl ?_
  refine g_get (v := gi (A 129 8)) C 129 8 (by omega) rfl rfl gu_4 (by decide) qf_X4_70 rfl dX4_seatOf_4 ?_
  refine g_icmp_ge C dX4_seatOf_7 (tgt := 34) (by decide) (fun c1 => ?_) (fun c1 => ?_)
  · have h := g_tt c1 h
    refine g_sub [0, 1] rfl ?_
    exact wX4_seatOf_b34 hN C hr h
  · have h := g_ff c1 h
    refine g_iload_n C 2 dX4_seatOf_10 rfl ?_
    refine g_bipush (v := 60) C dX4_seatOf_11 (by decide) ?_
    refine g_icmp_ge C dX4_seatOf_13 (tgt := 34) (by decide) (fun c2 => ?_) (fun c2 => ?_)
    · have h := g_tt c2 h
      refine g_sub [0, 1] rfl ?_
      exact wX4_seatOf_b34 hN C hr h
    · have h := g_ff c2 h
      refine g_aload_n C 0 dX4_seatOf_16 rfl ?_
      refine g_get (v := gr 137) C 129 7 (by omega) rfl rfl gu_4 (by decide) qf_X4_33 rfl dX4_seatOf_17 ?_
      refine g_iload_n C 2 dX4_seatOf_20 rfl ?_
      obtain ⟨hg3, h⟩ := g_gd h
      refine g_iald C 137 (by omega) rfl rfl hg3 dX4_seatOf_21 ?_
      refine g_iload_n C 1 dX4_seatOf_22 rfl ?_
      refine g_icmp_ne C dX4_seatOf_23 (tgt := 28) (by decide) (fun c4 => ?_) (fun c4 => ?_)
      · have h := g_ff c4 h
        obtain ⟨v5, ev5, h⟩ := g_lt h
        refine g_iinc C 2 dX4_seatOf_28 rfl ev5 (by decide) rfl ?_
        refine g_goto C dX4_seatOf_31 (tgt := 2) (by decide) ?_
        refine g_sub [1, 2, 0] rfl ?_
        exact hK2 h
      · have h := g_tt c4 h
        refine g_iload_n C 2 dX4_seatOf_26 rfl ?_
        obtain ⟨rfl, rfl⟩ := Prod.mk.inj (Option.some.inj h)
        exact g_reti C hr dX4_seatOf_27

set_option maxHeartbeats 2000000 in
set_option maxRecDepth 20000 in
theorem wX4_seatOf_L2 (hN : 183 ≤ N) {A0 A' : gM} {r : Int32} (C : gC p R s m args meth c cX4_seatOf RX4 3 D g (va_A (gw g ad ln A0 N) s.heap.size) 0) (hr : meth.sig.returnType = some .int)  : ∀ (f : Nat) {A : gM} {x1 : Int32} {x2 : Int32}, mX4_seatOf_L2 f A x1 x2 = some (A', r) → gJ p l e R s m args below meth c (gEi below D g N ad ln A0 A' r args s) 3 D g (va_A (gw g ad ln A0 N) s.heap.size) N ad ln A [(0, gr 129), (1, gi x1), (2, gi x2)] 0 0 2 []
  | 0, A, x1, x2, h => by cases h
  | f + 1, A, x1, x2, h => wX4_seatOf_b2 hN C hr (fun {A} {x1} {x2} h => wX4_seatOf_L2 hN C hr f h) h
set_option maxHeartbeats 2000000 in
set_option maxRecDepth 20000 in
theorem wX4_seatOf_b0 (hN : 183 ≤ N) {A0 A' : gM} {r : Int32} (C : gC p R s m args meth c cX4_seatOf RX4 3 D g (va_A (gw g ad ln A0 N) s.heap.size) 0) (hr : meth.sig.returnType = some .int)  {A : gM} {x1 : Int32} (h : mX4_seatOf_b0 A x1 = some (A', r)) : gJ p l e R s m args below meth c (gEi below D g N ad ln A0 A' r args s) 3 D g (va_A (gw g ad ln A0 N) s.heap.size) N ad ln A [(0, gr 129), (1, gi x1)] 0 0 0 [] := by
  unfold mX4_seatOf_b0 at h
  refine g_iconst (v := 0) C dX4_seatOf_0 (by decide) ?_
  refine g_istore_n C dX4_seatOf_1 (by decide) rfl ?_
  refine g_sub [1, 2, 0] rfl ?_
  exact wX4_seatOf_L2 hN C hr gF h

set_option maxHeartbeats 2000000 in
set_option maxRecDepth 20000 in
theorem kX4_seatOf {l : Launch} {D : va_G} {g : gT} {N : Nat} {ad ln : Nat → Nat} (hN : 183 ≤ N) {A A' : gM} {x1 : Int32} {r : Int32} (h : mX4_seatOf A x1 = some (A', r)) : gKi l yX4_seatOf cX4_seatOf 3 (some .int) (0) D g N ad ln A [gr 129, gi x1] A' r := by
  refine g_meti (by decide) (Nat.le_of_ble_eq_true rfl) ?_
  intro p e s m args below meth c C hr
  refine g_sub [0, 1] rfl ?_
  exact wX4_seatOf_b0 hN C hr h
def mX4_codeOf_b11 (A : gM) : Option (gM × Int32) :=
  some (A, 0)
def mX4_codeOf_b59 (A : gM) (s0 : Int32) : Option (gM × Int32) :=
  some (A, s0)
def mX4_codeOf_b0 (A : gM) (x1 : Int32) : Option (gM × Int32) :=
  if x1 < 0 then
  mX4_codeOf_b11 A
  else
  if x1 < 2600 then
  if g_in x1 2600 = true then
  if (A 130 x1.toNatClampNeg) = 4 then
  if g_in x1 2600 = true then
  if (A 133 x1.toNatClampNeg) = (A 129 10) then
  (mX4_codeOfNode A x1).bind fun q8 =>
  mX4_codeOf_b59 q8.1 q8.2
  else
  (mX4_seatOf A x1).bind fun q7 =>
  mX4_codeOf_b59 q7.1 (10 + q7.2)
  else none
  else
  if g_in x1 2600 = true then
  some (A, (A 130 x1.toNatClampNeg))
  else none
  else none
  else
  mX4_codeOf_b11 A
def mX4_codeOf (A : gM) (x1 : Int32) : Option (gM × Int32) := mX4_codeOf_b0 A x1
set_option maxHeartbeats 2000000 in
set_option maxRecDepth 20000 in
theorem wX4_codeOf_b11 (hN : 183 ≤ N) {A0 A' : gM} {r : Int32} (C : gC p R s m args meth c cX4_codeOf RX4 2 D g (va_A (gw g ad ln A0 N) s.heap.size) 1) (hr : meth.sig.returnType = some .int)  {A : gM} (h : mX4_codeOf_b11 A = some (A', r)) : gJ p l e R s m args below meth c (gEi below D g N ad ln A0 A' r args s) 2 D g (va_A (gw g ad ln A0 N) s.heap.size) N ad ln A [] 0 0 11 [] := by
  unfold mX4_codeOf_b11 at h
  refine g_iconst (v := 0) C dX4_codeOf_11 (by decide) ?_
  obtain ⟨rfl, rfl⟩ := Prod.mk.inj (Option.some.inj h)
  exact g_reti C hr dX4_codeOf_12

set_option maxHeartbeats 2000000 in
set_option maxRecDepth 20000 in
theorem wX4_codeOf_b59 (hN : 183 ≤ N) {A0 A' : gM} {r : Int32} (C : gC p R s m args meth c cX4_codeOf RX4 2 D g (va_A (gw g ad ln A0 N) s.heap.size) 1) (hr : meth.sig.returnType = some .int)  {A : gM} {s0 : Int32} (h : mX4_codeOf_b59 A s0 = some (A', r)) : gJ p l e R s m args below meth c (gEi below D g N ad ln A0 A' r args s) 2 D g (va_A (gw g ad ln A0 N) s.heap.size) N ad ln A [] 0 0 59 [gi s0] := by
  unfold mX4_codeOf_b59 at h
  obtain ⟨rfl, rfl⟩ := Prod.mk.inj (Option.some.inj h)
  exact g_reti C hr dX4_codeOf_59

set_option maxHeartbeats 2000000 in
set_option maxRecDepth 20000 in
theorem wX4_codeOf_b0 (hN : 183 ≤ N) {A0 A' : gM} {r : Int32} (C : gC p R s m args meth c cX4_codeOf RX4 2 D g (va_A (gw g ad ln A0 N) s.heap.size) 1) (hr : meth.sig.returnType = some .int)  {A : gM} {x1 : Int32} (h : mX4_codeOf_b0 A x1 = some (A', r)) : gJ p l e R s m args below meth c (gEi below D g N ad ln A0 A' r args s) 2 D g (va_A (gw g ad ln A0 N) s.heap.size) N ad ln A [(0, gr 129), (1, gi x1)] 0 0 0 [] := by
  unfold mX4_codeOf_b0 at h
  refine g_iload_n C 1 dX4_codeOf_0 rfl ?_
  refine g_if_lt C dX4_codeOf_1 (tgt := 11) (by decide) (fun c1 => ?_) (fun c1 => ?_)
  · have h := g_tt c1 h
    refine g_sub [] rfl ?_
    exact wX4_codeOf_b11 hN C hr h
  · have h := g_ff c1 h
    refine g_iload_n C 1 dX4_codeOf_4 rfl ?_
    refine g_sipush (v := 2600) C dX4_codeOf_5 (by decide) ?_
    refine g_icmp_lt C dX4_codeOf_8 (tgt := 13) (by decide) (fun c2 => ?_) (fun c2 => ?_)
    · have h := g_tt c2 h
      refine g_aload_n C 0 dX4_codeOf_13 rfl ?_
      refine g_get (v := gr 130) C 129 0 (by omega) rfl rfl gu_4 (by decide) qf_X4_11 rfl dX4_codeOf_14 ?_
      refine g_iload_n C 1 dX4_codeOf_17 rfl ?_
      obtain ⟨hg3, h⟩ := g_gd h
      refine g_iald C 130 (by omega) rfl rfl hg3 dX4_codeOf_18 ?_
      refine g_iconst (v := 4) C dX4_codeOf_19 (by decide) ?_
      refine g_icmp_eq C dX4_codeOf_20 (tgt := 30) (by decide) (fun c4 => ?_) (fun c4 => ?_)
      · have h := g_tt c4 h
        refine g_aload_n C 0 dX4_codeOf_30 rfl ?_
        refine g_get (v := gr 133) C 129 3 (by omega) rfl rfl gu_4 (by decide) qf_X4_21 rfl dX4_codeOf_31 ?_
        refine g_iload_n C 1 dX4_codeOf_34 rfl ?_
        obtain ⟨hg5, h⟩ := g_gd h
        refine g_iald C 133 (by omega) rfl rfl hg5 dX4_codeOf_35 ?_
        refine g_aload_n C 0 dX4_codeOf_36 rfl ?_
        refine g_get (v := gi (A 129 10)) C 129 10 (by omega) rfl rfl gu_4 (by decide) qf_X4_44 rfl dX4_codeOf_37 ?_
        refine g_icmp_ne C dX4_codeOf_40 (tgt := 51) (by decide) (fun c6 => ?_) (fun c6 => ?_)
        · have h := g_ff c6 h
          refine g_bipush (v := 10) C dX4_codeOf_51 (by decide) ?_
          refine g_aload_n C 0 dX4_codeOf_53 rfl ?_
          refine g_iload_n C 1 dX4_codeOf_54 rfl ?_
          obtain ⟨q7, eq7, h⟩ := g_bd h
          refine g_calliV C 129 [gi x1] (kX4_seatOf hN eq7) qs_X4_79 (by omega) (by omega) rfl rfl rfl rfl (Nat.le_of_ble_eq_true rfl) ⟨Nat.zero_le _, Nat.zero_le _⟩ dX4_codeOf_55 ?_
          refine g_iadd C dX4_codeOf_58 ?_
          refine g_sub [] rfl ?_
          exact wX4_codeOf_b59 hN C hr h
        · have h := g_tt c6 h
          refine g_aload_n C 0 dX4_codeOf_43 rfl ?_
          refine g_iload_n C 1 dX4_codeOf_44 rfl ?_
          obtain ⟨q8, eq8, h⟩ := g_bd h
          refine g_calliV C 129 [gi x1] (kX4_codeOfNode hN eq8) qs_X4_76 (by omega) (by omega) rfl rfl rfl rfl (Nat.le_of_ble_eq_true rfl) ⟨Nat.zero_le _, Nat.zero_le _⟩ dX4_codeOf_45 ?_
          refine g_goto C dX4_codeOf_48 (tgt := 59) (by decide) ?_
          refine g_sub [] rfl ?_
          exact wX4_codeOf_b59 hN C hr h
      · have h := g_ff c4 h
        refine g_aload_n C 0 dX4_codeOf_23 rfl ?_
        refine g_get (v := gr 130) C 129 0 (by omega) rfl rfl gu_4 (by decide) qf_X4_11 rfl dX4_codeOf_24 ?_
        refine g_iload_n C 1 dX4_codeOf_27 rfl ?_
        obtain ⟨hg9, h⟩ := g_gd h
        refine g_iald C 130 (by omega) rfl rfl hg9 dX4_codeOf_28 ?_
        obtain ⟨rfl, rfl⟩ := Prod.mk.inj (Option.some.inj h)
        exact g_reti C hr dX4_codeOf_29
    · have h := g_ff c2 h
      refine g_sub [] rfl ?_
      exact wX4_codeOf_b11 hN C hr h

set_option maxHeartbeats 2000000 in
set_option maxRecDepth 20000 in
theorem kX4_codeOf {l : Launch} {D : va_G} {g : gT} {N : Nat} {ad ln : Nat → Nat} (hN : 183 ≤ N) {A A' : gM} {x1 : Int32} {r : Int32} (h : mX4_codeOf A x1 = some (A', r)) : gKi l yX4_codeOf cX4_codeOf 2 (some .int) (1) D g N ad ln A [gr 129, gi x1] A' r := by
  refine g_meti (by decide) (Nat.le_of_ble_eq_true rfl) ?_
  intro p e s m args below meth c C hr
  refine g_sub [0, 1] rfl ?_
  exact wX4_codeOf_b0 hN C hr h
def mX4_write_b132 (A : gM) (s0 : Int32) : Option (gM × Int32) :=
  some (A, s0)
def mX4_write_b119 (A : gM) (x3 : Int32) (x4 : Int32) : Option (gM × Int32) :=
  if x4 ≤ 0 then
  mX4_write_b132 A x3
  else
  mX4_write_b132 A (60 + 1)
def mX4_write_b116 (K17 : gM → Int32 → Int32 → Option (gM × Int32)) (A : gM) (x3 : Int32) (x4 : Int32) : Option (gM × Int32) :=
  K17 A x3 x4
def mX4_write_b17 (K17 : gM → Int32 → Int32 → Option (gM × Int32)) (A : gM) (x3 : Int32) (x4 : Int32) : Option (gM × Int32) :=
  if x4 ≤ 0 then
  mX4_write_b119 A x3 x4
  else
  if 60 < (x3 + x4) then
  mX4_write_b119 A x3 x4
  else
  if 5208 < (x4 + 2) then
  mX4_write_b119 A x3 x4
  else
  g_let (x4 + (-1)) fun v4 =>
  if g_in v4 5208 = true then
  (mX4_resolve A (A 134 v4.toNatClampNeg)).bind fun q6 =>
  (mX4_codeOf q6.1 q6.2).bind fun q7 =>
  if g_in x3 60 = true then g_let (g_up q7.1 182 x3.toNatClampNeg q7.2) fun A9 =>
  g_let (x3 + 1) fun v10 =>
  if g_in q6.2 2600 = true then
  (mX4_isPair A9 (A9 130 q6.2.toNatClampNeg)).bind fun q12 =>
  if q12.2 = 0 then
  mX4_write_b116 K17 q12.1 v10 v4
  else
  if g_in q6.2 2600 = true then
  if g_in v4 5208 = true then g_let (g_up q12.1 134 v4.toNatClampNeg (q12.1 132 q6.2.toNatClampNeg)) fun A16 =>
  if g_in q6.2 2600 = true then
  if g_in (v4 + 1) 5208 = true then g_let (g_up A16 134 (v4 + 1).toNatClampNeg (A16 131 q6.2.toNatClampNeg)) fun A19 =>
  g_let (v4 + 2) fun v20 =>
  mX4_write_b116 K17 A19 v10 v20
  else none
  else none
  else none
  else none
  else none
  else none
  else none
def mX4_write_L17 : Nat → gM → Int32 → Int32 → Option (gM × Int32)
  | 0 => fun _ _ _ => none
  | f + 1 => mX4_write_b17 (mX4_write_L17 f)
def mX4_write_b0 (A : gM) (x1 : Int32) : Option (gM × Int32) :=
  g_let (g_up A 129 8 0) fun A1 =>
  if g_in 0 5208 = true then g_let (g_up A1 134 (0 : Int32).toNatClampNeg x1) fun A3 =>
  mX4_write_L17 gF A3 0 1
  else none
def mX4_write (A : gM) (x1 : Int32) : Option (gM × Int32) := mX4_write_b0 A x1
set_option maxHeartbeats 2000000 in
set_option maxRecDepth 20000 in
theorem wX4_write_b132 (hN : 183 ≤ N) {A0 A' : gM} {r : Int32} (C : gC p R s m args meth c cX4_write RX4 6 D g (va_A (gw g ad ln A0 N) s.heap.size) 2) (hr : meth.sig.returnType = some .int)  {A : gM} {s0 : Int32} (h : mX4_write_b132 A s0 = some (A', r)) : gJ p l e R s m args below meth c (gEi below D g N ad ln A0 A' r args s) 6 D g (va_A (gw g ad ln A0 N) s.heap.size) N ad ln A [] 0 0 132 [gi s0] := by
  unfold mX4_write_b132 at h
  obtain ⟨rfl, rfl⟩ := Prod.mk.inj (Option.some.inj h)
  exact g_reti C hr dX4_write_132

set_option maxHeartbeats 2000000 in
set_option maxRecDepth 20000 in
theorem wX4_write_b119 (hN : 183 ≤ N) {A0 A' : gM} {r : Int32} (C : gC p R s m args meth c cX4_write RX4 6 D g (va_A (gw g ad ln A0 N) s.heap.size) 2) (hr : meth.sig.returnType = some .int)  {A : gM} {x3 : Int32} {x4 : Int32} (h : mX4_write_b119 A x3 x4 = some (A', r)) : gJ p l e R s m args below meth c (gEi below D g N ad ln A0 A' r args s) 6 D g (va_A (gw g ad ln A0 N) s.heap.size) N ad ln A [(2, gr 182), (3, gi x3), (4, gi x4)] 0 0 119 [] := by
  unfold mX4_write_b119 at h
  refine g_iload C 2 dX4_write_119 rfl ?_
  refine g_if_le C dX4_write_121 (tgt := 131) (by decide) (fun c1 => ?_) (fun c1 => ?_)
  · have h := g_tt c1 h
    refine g_iload_n C 1 dX4_write_131 rfl ?_
    refine g_sub [] rfl ?_
    exact wX4_write_b132 hN C hr h
  · have h := g_ff c1 h
    refine g_aload_n C 0 dX4_write_124 rfl ?_
    refine g_alen (v := 60) C 182 (by omega) rfl rfl dX4_write_125 ?_
    refine g_iconst (v := 1) C dX4_write_126 (by decide) ?_
    refine g_iadd C dX4_write_127 ?_
    refine g_goto C dX4_write_128 (tgt := 132) (by decide) ?_
    refine g_sub [] rfl ?_
    exact wX4_write_b132 hN C hr h

set_option maxHeartbeats 2000000 in
set_option maxRecDepth 20000 in
theorem wX4_write_b116 (hN : 183 ≤ N) {A0 A' : gM} {r : Int32} (C : gC p R s m args meth c cX4_write RX4 6 D g (va_A (gw g ad ln A0 N) s.heap.size) 2) (hr : meth.sig.returnType = some .int) {K17 : gM → Int32 → Int32 → Option (gM × Int32)} (hK17 : ∀ {A : gM} {x3 : Int32} {x4 : Int32}, K17 A x3 x4 = some (A', r) → gJ p l e R s m args below meth c (gEi below D g N ad ln A0 A' r args s) 6 D g (va_A (gw g ad ln A0 N) s.heap.size) N ad ln A [(0, gr 129), (2, gr 182), (3, gi x3), (4, gi x4)] 0 0 17 []) {A : gM} {x3 : Int32} {x4 : Int32} (h : mX4_write_b116 K17 A x3 x4 = some (A', r)) : gJ p l e R s m args below meth c (gEi below D g N ad ln A0 A' r args s) 6 D g (va_A (gw g ad ln A0 N) s.heap.size) N ad ln A [(0, gr 129), (2, gr 182), (3, gi x3), (4, gi x4)] 0 0 116 [] := by
  unfold mX4_write_b116 at h
  refine g_goto C dX4_write_116 (tgt := 17) (by decide) ?_
  refine g_sub [0, 1, 2, 3] rfl ?_
  exact hK17 h

set_option maxHeartbeats 2000000 in
set_option maxRecDepth 20000 in
theorem wX4_write_b17 (hN : 183 ≤ N) {A0 A' : gM} {r : Int32} (C : gC p R s m args meth c cX4_write RX4 6 D g (va_A (gw g ad ln A0 N) s.heap.size) 2) (hr : meth.sig.returnType = some .int) {K17 : gM → Int32 → Int32 → Option (gM × Int32)} (hK17 : ∀ {A : gM} {x3 : Int32} {x4 : Int32}, K17 A x3 x4 = some (A', r) → gJ p l e R s m args below meth c (gEi below D g N ad ln A0 A' r args s) 6 D g (va_A (gw g ad ln A0 N) s.heap.size) N ad ln A [(0, gr 129), (2, gr 182), (3, gi x3), (4, gi x4)] 0 0 17 []) {A : gM} {x3 : Int32} {x4 : Int32} (h : mX4_write_b17 K17 A x3 x4 = some (A', r)) : gJ p l e R s m args below meth c (gEi below D g N ad ln A0 A' r args s) 6 D g (va_A (gw g ad ln A0 N) s.heap.size) N ad ln A [(0, gr 129), (2, gr 182), (3, gi x3), (4, gi x4)] 0 0 17 [] := by
  unfold mX4_write_b17 at h
  refine g_iload C 3 dX4_write_17 rfl ?_
  refine g_if_le C dX4_write_19 (tgt := 119) (by decide) (fun c1 => ?_) (fun c1 => ?_)
  · have h := g_tt c1 h
    refine g_sub [1, 2, 3] rfl ?_
    exact wX4_write_b119 hN C hr h
  · have h := g_ff c1 h
    refine g_iload_n C 2 dX4_write_22 rfl ?_
    refine g_iload C 3 dX4_write_23 rfl ?_
    refine g_iadd C dX4_write_25 ?_
    refine g_aload_n C 1 dX4_write_26 rfl ?_
    refine g_alen (v := 60) C 182 (by omega) rfl rfl dX4_write_27 ?_
    refine g_icmp_gt C dX4_write_28 (tgt := 119) (by decide) (fun c2 => ?_) (fun c2 => ?_)
    · have h := g_tt c2 h
      refine g_sub [1, 2, 3] rfl ?_
      exact wX4_write_b119 hN C hr h
    · have h := g_ff c2 h
      refine g_iload C 3 dX4_write_31 rfl ?_
      refine g_iconst (v := 2) C dX4_write_33 (by decide) ?_
      refine g_iadd C dX4_write_34 ?_
      refine g_sipush (v := 5208) C dX4_write_35 (by decide) ?_
      refine g_icmp_gt C dX4_write_38 (tgt := 119) (by decide) (fun c3 => ?_) (fun c3 => ?_)
      · have h := g_tt c3 h
        refine g_sub [1, 2, 3] rfl ?_
        exact wX4_write_b119 hN C hr h
      · have h := g_ff c3 h
        obtain ⟨v4, ev4, h⟩ := g_lt h
        refine g_iinc C 3 dX4_write_41 rfl ev4 (by decide) rfl ?_
        refine g_aload_n C 1 dX4_write_44 rfl ?_
        refine g_aload_n C 1 dX4_write_45 rfl ?_
        refine g_get (v := gr 134) C 129 4 (by omega) rfl rfl gu_4 (by decide) qf_X4_24 rfl dX4_write_46 ?_
        refine g_iload C 0 dX4_write_49 rfl ?_
        obtain ⟨hg5, h⟩ := g_gd h
        refine g_iald C 134 (by omega) rfl rfl hg5 dX4_write_51 ?_
        obtain ⟨q6, eq6, h⟩ := g_bd h
        refine g_calliV C 129 [gi (A 134 v4.toNatClampNeg)] (kX4_resolve hN eq6) qs_X4_48 (by omega) (by omega) rfl rfl rfl rfl (Nat.le_of_ble_eq_true rfl) ⟨Nat.zero_le _, Nat.zero_le _⟩ dX4_write_52 ?_
        refine g_istore C dX4_write_55 (by decide) rfl ?_
        refine g_aload_n C 3 dX4_write_57 rfl ?_
        refine g_iload_n C 4 dX4_write_58 rfl ?_
        refine g_aload_n C 2 dX4_write_59 rfl ?_
        refine g_iload C 0 dX4_write_60 rfl ?_
        obtain ⟨q7, eq7, h⟩ := g_bd h
        refine g_calliV C 129 [gi q6.2] (kX4_codeOf hN eq7) qs_X4_73 (by omega) (by omega) rfl rfl rfl rfl (Nat.le_of_ble_eq_true rfl) ⟨Nat.zero_le _, Nat.zero_le _⟩ dX4_write_62 ?_
        obtain ⟨hg8, h⟩ := g_gd h
        obtain ⟨A9, eA9, h⟩ := g_lt h
        refine g_iast C 182 (by omega) rfl rfl hg8 eA9 dX4_write_65 ?_
        obtain ⟨v10, ev10, h⟩ := g_lt h
        refine g_iinc C 4 dX4_write_66 rfl ev10 (by decide) rfl ?_
        refine g_aload_n C 3 dX4_write_69 rfl ?_
        refine g_aload_n C 3 dX4_write_70 rfl ?_
        refine g_get (v := gr 130) C 129 0 (by omega) rfl rfl gu_4 (by decide) qf_X4_11 rfl dX4_write_71 ?_
        refine g_iload C 1 dX4_write_74 rfl ?_
        obtain ⟨hg11, h⟩ := g_gd h
        refine g_iald C 130 (by omega) rfl rfl hg11 dX4_write_76 ?_
        obtain ⟨q12, eq12, h⟩ := g_bd h
        refine g_calliV C 129 [gi (A9 130 q6.2.toNatClampNeg)] (kX4_isPair hN eq12) qs_X4_52 (by omega) (by omega) rfl rfl rfl rfl (Nat.le_of_ble_eq_true rfl) ⟨Nat.zero_le _, Nat.zero_le _⟩ dX4_write_77 ?_
        refine g_if_eq C dX4_write_80 (tgt := 116) (by decide) (fun c13 => ?_) (fun c13 => ?_)
        · have h := g_tt c13 h
          refine g_sub [3, 4, 0, 2] rfl ?_
          exact wX4_write_b116 hN C hr hK17 h
        · have h := g_ff c13 h
          refine g_aload_n C 3 dX4_write_83 rfl ?_
          refine g_get (v := gr 134) C 129 4 (by omega) rfl rfl gu_4 (by decide) qf_X4_24 rfl dX4_write_84 ?_
          refine g_iload C 2 dX4_write_87 rfl ?_
          refine g_aload_n C 3 dX4_write_89 rfl ?_
          refine g_get (v := gr 132) C 129 2 (by omega) rfl rfl gu_4 (by decide) qf_X4_18 rfl dX4_write_90 ?_
          refine g_iload C 1 dX4_write_93 rfl ?_
          obtain ⟨hg14, h⟩ := g_gd h
          refine g_iald C 132 (by omega) rfl rfl hg14 dX4_write_95 ?_
          obtain ⟨hg15, h⟩ := g_gd h
          obtain ⟨A16, eA16, h⟩ := g_lt h
          refine g_iast C 134 (by omega) rfl rfl hg15 eA16 dX4_write_96 ?_
          refine g_aload_n C 3 dX4_write_97 rfl ?_
          refine g_get (v := gr 134) C 129 4 (by omega) rfl rfl gu_4 (by decide) qf_X4_24 rfl dX4_write_98 ?_
          refine g_iload C 2 dX4_write_101 rfl ?_
          refine g_iconst (v := 1) C dX4_write_103 (by decide) ?_
          refine g_iadd C dX4_write_104 ?_
          refine g_aload_n C 3 dX4_write_105 rfl ?_
          refine g_get (v := gr 131) C 129 1 (by omega) rfl rfl gu_4 (by decide) qf_X4_15 rfl dX4_write_106 ?_
          refine g_iload C 1 dX4_write_109 rfl ?_
          obtain ⟨hg17, h⟩ := g_gd h
          refine g_iald C 131 (by omega) rfl rfl hg17 dX4_write_111 ?_
          obtain ⟨hg18, h⟩ := g_gd h
          obtain ⟨A19, eA19, h⟩ := g_lt h
          refine g_iast C 134 (by omega) rfl rfl hg18 eA19 dX4_write_112 ?_
          obtain ⟨v20, ev20, h⟩ := g_lt h
          refine g_iinc C 2 dX4_write_113 rfl ev20 (by decide) rfl ?_
          refine g_sub [3, 4, 1, 0] rfl ?_
          exact wX4_write_b116 hN C hr hK17 h

set_option maxHeartbeats 2000000 in
set_option maxRecDepth 20000 in
theorem wX4_write_L17 (hN : 183 ≤ N) {A0 A' : gM} {r : Int32} (C : gC p R s m args meth c cX4_write RX4 6 D g (va_A (gw g ad ln A0 N) s.heap.size) 2) (hr : meth.sig.returnType = some .int)  : ∀ (f : Nat) {A : gM} {x3 : Int32} {x4 : Int32}, mX4_write_L17 f A x3 x4 = some (A', r) → gJ p l e R s m args below meth c (gEi below D g N ad ln A0 A' r args s) 6 D g (va_A (gw g ad ln A0 N) s.heap.size) N ad ln A [(0, gr 129), (2, gr 182), (3, gi x3), (4, gi x4)] 0 0 17 []
  | 0, A, x3, x4, h => by cases h
  | f + 1, A, x3, x4, h => wX4_write_b17 hN C hr (fun {A} {x3} {x4} h => wX4_write_L17 hN C hr f h) h
set_option maxHeartbeats 2000000 in
set_option maxRecDepth 20000 in
theorem wX4_write_b0 (hN : 183 ≤ N) {A0 A' : gM} {r : Int32} (C : gC p R s m args meth c cX4_write RX4 6 D g (va_A (gw g ad ln A0 N) s.heap.size) 2) (hr : meth.sig.returnType = some .int)  {A : gM} {x1 : Int32} (h : mX4_write_b0 A x1 = some (A', r)) : gJ p l e R s m args below meth c (gEi below D g N ad ln A0 A' r args s) 6 D g (va_A (gw g ad ln A0 N) s.heap.size) N ad ln A [(0, gr 129), (1, gi x1), (2, gr 182)] 0 0 0 [] := by
  unfold mX4_write_b0 at h
  refine g_iconst (v := 0) C dX4_write_0 (by decide) ?_
  refine g_istore_n C dX4_write_1 (by decide) rfl ?_
  refine g_iconst (v := 1) C dX4_write_2 (by decide) ?_
  refine g_istore C dX4_write_3 (by decide) rfl ?_
  refine g_aload_n C 2 dX4_write_5 rfl ?_
  refine g_iconst (v := 0) C dX4_write_6 (by decide) ?_
  obtain ⟨A1, eA1, h⟩ := g_lt h
  refine g_put C 129 8 tyX4 tyX4_ok nmX4 (by omega) rfl rfl gu_4 (by decide) qf_X4_70 rfl (by decide +kernel) (Nat.le_of_ble_eq_true rfl) rfl eA1 dX4_write_7 ?_
  refine g_aload_n C 2 dX4_write_10 rfl ?_
  refine g_get (v := gr 134) C 129 4 (by omega) rfl rfl gu_4 (by decide) qf_X4_24 rfl dX4_write_11 ?_
  refine g_iconst (v := 0) C dX4_write_14 (by decide) ?_
  refine g_iload_n C 3 dX4_write_15 rfl ?_
  obtain ⟨hg2, h⟩ := g_gd h
  obtain ⟨A3, eA3, h⟩ := g_lt h
  refine g_iast C 134 (by omega) rfl rfl hg2 eA3 dX4_write_16 ?_
  refine g_sub [2, 4, 1, 0] rfl ?_
  exact wX4_write_L17 hN C hr gF h

set_option maxHeartbeats 2000000 in
set_option maxRecDepth 20000 in
theorem kX4_write {l : Launch} {D : va_G} {g : gT} {N : Nat} {ad ln : Nat → Nat} (hN : 183 ≤ N) {A A' : gM} {x1 : Int32} {r : Int32} (h : mX4_write A x1 = some (A', r)) : gKi l yX4_write cX4_write 6 (some .int) (2) D g N ad ln A [gr 129, gi x1, gr 182] A' r := by
  refine g_meti (by decide) (Nat.le_of_ble_eq_true rfl) ?_
  intro p e s m args below meth c C hr
  refine g_sub [0, 1, 2] rfl ?_
  exact wX4_write_b0 hN C hr h
def mX4_build_b172 (A : gM) (s0 : Int32) : Option (gM × Int32) :=
  some (A, s0)
def mX4_build_b150 (K33 : gM → Nat → Int32 → Int32 → Option (gM × Int32)) (A : gM) (x1 : Nat) (x3 : Int32) (x4 : Int32) : Option (gM × Int32) :=
  g_let (x4 + (-1)) fun v1 =>
  K33 A x1 x3 v1
def mX4_build_b132 (K33 : gM → Nat → Int32 → Int32 → Option (gM × Int32)) (A : gM) (x1 : Nat) (x3 : Int32) (x4 : Int32) (x6 : Int32) : Option (gM × Int32) :=
  if 5208 ≤ x3 then
  mX4_build_b150 K33 A x1 x3 x4
  else
  if g_in x3 5208 = true then g_let (g_up A 134 x3.toNatClampNeg x6) fun A3 =>
  g_let (x3 + 1) fun v4 =>
  mX4_build_b150 K33 A3 x1 v4 x4
  else none
def mX4_build_b33 (K33 : gM → Nat → Int32 → Int32 → Option (gM × Int32)) (A : gM) (x1 : Nat) (x3 : Int32) (x4 : Int32) : Option (gM × Int32) :=
  if x4 < 0 then
  if x3 ≤ 0 then
  mX4_build_b172 A 0
  else
  if g_in (x3 - 1) 5208 = true then
  mX4_build_b172 A (A 134 (x3 - 1).toNatClampNeg)
  else none
  else
  if g_in x4 60 = true then
  g_let (A x1 x4.toNatClampNeg) fun v5 =>
  (mX4_isPair A v5).bind fun q6 =>
  if q6.2 = 0 then
  (mX4_isNode q6.1 v5).bind fun q8 =>
  if q8.2 = 0 then
  if v5 < 10 then
  mX4_build_b132 K33 q8.1 x1 x3 x4 v5
  else
  (mX4_variableAt q8.1 (v5 - 10)).bind fun q11 =>
  mX4_build_b132 K33 q11.1 x1 x3 x4 q11.2
  else
  (mX4_nodeOfCode q8.1 v5).bind fun q12 =>
  mX4_build_b132 K33 q12.1 x1 x3 x4 q12.2
  else
  if 2 ≤ x3 then
  if g_in (x3 - 1) 5208 = true then
  if g_in (x3 - 2) 5208 = true then
  (mX4_make q6.1 v5 (q6.1 134 (x3 - 1).toNatClampNeg) (q6.1 134 (x3 - 2).toNatClampNeg)).bind fun q16 =>
  g_let (x3 + (-2)) fun v17 =>
  mX4_build_b132 K33 q16.1 x1 v17 x4 q16.2
  else none
  else none
  else
  some (q6.1, 0)
  else none
def mX4_build_L33 : Nat → gM → Nat → Int32 → Int32 → Option (gM × Int32)
  | 0 => fun _ _ _ _ => none
  | f + 1 => mX4_build_b33 (mX4_build_L33 f)
def mX4_build_b2 (K2 : gM → Nat → Int32 → Int32 → Option (gM × Int32)) (A : gM) (x1 : Nat) (x2 : Int32) (x3 : Int32) : Option (gM × Int32) :=
  if 60 ≤ x3 then
  g_let ((if 60 < x2 then 60 else x2) - 1) fun v2 =>
  mX4_build_L33 gF A x1 0 v2
  else
  if g_in x3 60 = true then g_let (g_up A 137 x3.toNatClampNeg (-1)) fun A4 =>
  g_let (x3 + 1) fun v5 =>
  K2 A4 x1 x2 v5
  else none
def mX4_build_L2 : Nat → gM → Nat → Int32 → Int32 → Option (gM × Int32)
  | 0 => fun _ _ _ _ => none
  | f + 1 => mX4_build_b2 (mX4_build_L2 f)
def mX4_build_b0 (A : gM) (x1 : Nat) (x2 : Int32) : Option (gM × Int32) :=
  mX4_build_L2 gF A x1 x2 0
def mX4_build (A : gM) (x1 : Nat) (x2 : Int32) : Option (gM × Int32) := mX4_build_b0 A x1 x2
set_option maxHeartbeats 2000000 in
set_option maxRecDepth 20000 in
theorem wX4_build_b172 (hN : 183 ≤ N) {A0 A' : gM} {r : Int32} (C : gC p R s m args meth c cX4_build RX4 7 D g (va_A (gw g ad ln A0 N) s.heap.size) 3) (hr : meth.sig.returnType = some .int)  {A : gM} {s0 : Int32} (h : mX4_build_b172 A s0 = some (A', r)) : gJ p l e R s m args below meth c (gEi below D g N ad ln A0 A' r args s) 7 D g (va_A (gw g ad ln A0 N) s.heap.size) N ad ln A [] 0 0 172 [gi s0] := by
  unfold mX4_build_b172 at h
  obtain ⟨rfl, rfl⟩ := Prod.mk.inj (Option.some.inj h)
  exact g_reti C hr dX4_build_172

set_option maxHeartbeats 2000000 in
set_option maxRecDepth 20000 in
theorem wX4_build_b150 (hN : 183 ≤ N) {A0 A' : gM} {r : Int32} (C : gC p R s m args meth c cX4_build RX4 7 D g (va_A (gw g ad ln A0 N) s.heap.size) 3) (hr : meth.sig.returnType = some .int) {K33 : gM → Nat → Int32 → Int32 → Option (gM × Int32)} (hK33 : ∀ {A : gM} {x1 : Nat} {x3 : Int32} {x4 : Int32} (hx1 : (x1 < N ∧ g_isI x1 = true ∧ g_ln ln x1 = 60)), K33 A x1 x3 x4 = some (A', r) → gJ p l e R s m args below meth c (gEi below D g N ad ln A0 A' r args s) 7 D g (va_A (gw g ad ln A0 N) s.heap.size) N ad ln A [(0, gr 129), (1, gr x1), (3, gi x3), (4, gi x4)] 0 0 33 []) {A : gM} {x1 : Nat} {x3 : Int32} {x4 : Int32} (hx1 : (x1 < N ∧ g_isI x1 = true ∧ g_ln ln x1 = 60)) (h : mX4_build_b150 K33 A x1 x3 x4 = some (A', r)) : gJ p l e R s m args below meth c (gEi below D g N ad ln A0 A' r args s) 7 D g (va_A (gw g ad ln A0 N) s.heap.size) N ad ln A [(0, gr 129), (1, gr x1), (3, gi x3), (4, gi x4)] 0 0 150 [] := by
  unfold mX4_build_b150 at h
  obtain ⟨v1, ev1, h⟩ := g_lt h
  refine g_iinc C 3 dX4_build_150 rfl ev1 (by decide) rfl ?_
  refine g_goto C dX4_build_153 (tgt := 33) (by decide) ?_
  refine g_sub [1, 2, 3, 0] rfl ?_
  exact hK33 hx1 h

set_option maxHeartbeats 2000000 in
set_option maxRecDepth 20000 in
theorem wX4_build_b132 (hN : 183 ≤ N) {A0 A' : gM} {r : Int32} (C : gC p R s m args meth c cX4_build RX4 7 D g (va_A (gw g ad ln A0 N) s.heap.size) 3) (hr : meth.sig.returnType = some .int) {K33 : gM → Nat → Int32 → Int32 → Option (gM × Int32)} (hK33 : ∀ {A : gM} {x1 : Nat} {x3 : Int32} {x4 : Int32} (hx1 : (x1 < N ∧ g_isI x1 = true ∧ g_ln ln x1 = 60)), K33 A x1 x3 x4 = some (A', r) → gJ p l e R s m args below meth c (gEi below D g N ad ln A0 A' r args s) 7 D g (va_A (gw g ad ln A0 N) s.heap.size) N ad ln A [(0, gr 129), (1, gr x1), (3, gi x3), (4, gi x4)] 0 0 33 []) {A : gM} {x1 : Nat} {x3 : Int32} {x4 : Int32} {x6 : Int32} (hx1 : (x1 < N ∧ g_isI x1 = true ∧ g_ln ln x1 = 60)) (h : mX4_build_b132 K33 A x1 x3 x4 x6 = some (A', r)) : gJ p l e R s m args below meth c (gEi below D g N ad ln A0 A' r args s) 7 D g (va_A (gw g ad ln A0 N) s.heap.size) N ad ln A [(0, gr 129), (1, gr x1), (3, gi x3), (4, gi x4), (6, gi x6)] 0 0 132 [] := by
  unfold mX4_build_b132 at h
  refine g_iload_n C 2 dX4_build_132 rfl ?_
  refine g_sipush (v := 5208) C dX4_build_133 (by decide) ?_
  refine g_icmp_ge C dX4_build_136 (tgt := 150) (by decide) (fun c1 => ?_) (fun c1 => ?_)
  · have h := g_tt c1 h
    refine g_sub [0, 1, 2, 3] rfl ?_
    exact wX4_build_b150 hN C hr hK33 hx1 h
  · have h := g_ff c1 h
    refine g_aload_n C 0 dX4_build_139 rfl ?_
    refine g_get (v := gr 134) C 129 4 (by omega) rfl rfl gu_4 (by decide) qf_X4_24 rfl dX4_build_140 ?_
    refine g_iload_n C 2 dX4_build_143 rfl ?_
    refine g_iload C 4 dX4_build_144 rfl ?_
    obtain ⟨hg2, h⟩ := g_gd h
    obtain ⟨A3, eA3, h⟩ := g_lt h
    refine g_iast C 134 (by omega) rfl rfl hg2 eA3 dX4_build_146 ?_
    obtain ⟨v4, ev4, h⟩ := g_lt h
    refine g_iinc C 2 dX4_build_147 rfl ev4 (by decide) rfl ?_
    refine g_sub [1, 2, 0, 3] rfl ?_
    exact wX4_build_b150 hN C hr hK33 hx1 h

set_option maxHeartbeats 2000000 in
set_option maxRecDepth 20000 in
theorem wX4_build_b33 (hN : 183 ≤ N) {A0 A' : gM} {r : Int32} (C : gC p R s m args meth c cX4_build RX4 7 D g (va_A (gw g ad ln A0 N) s.heap.size) 3) (hr : meth.sig.returnType = some .int) {K33 : gM → Nat → Int32 → Int32 → Option (gM × Int32)} (hK33 : ∀ {A : gM} {x1 : Nat} {x3 : Int32} {x4 : Int32} (hx1 : (x1 < N ∧ g_isI x1 = true ∧ g_ln ln x1 = 60)), K33 A x1 x3 x4 = some (A', r) → gJ p l e R s m args below meth c (gEi below D g N ad ln A0 A' r args s) 7 D g (va_A (gw g ad ln A0 N) s.heap.size) N ad ln A [(0, gr 129), (1, gr x1), (3, gi x3), (4, gi x4)] 0 0 33 []) {A : gM} {x1 : Nat} {x3 : Int32} {x4 : Int32} (hx1 : (x1 < N ∧ g_isI x1 = true ∧ g_ln ln x1 = 60)) (h : mX4_build_b33 K33 A x1 x3 x4 = some (A', r)) : gJ p l e R s m args below meth c (gEi below D g N ad ln A0 A' r args s) 7 D g (va_A (gw g ad ln A0 N) s.heap.size) N ad ln A [(0, gr 129), (1, gr x1), (3, gi x3), (4, gi x4)] 0 0 33 [] := by
  unfold mX4_build_b33 at h
  refine g_iload C 3 dX4_build_33 rfl ?_
  refine g_if_lt C dX4_build_35 (tgt := 156) (by decide) (fun c1 => ?_) (fun c1 => ?_)
  · have h := g_tt c1 h
    refine g_iload_n C 2 dX4_build_156 rfl ?_
    refine g_if_le C dX4_build_157 (tgt := 171) (by decide) (fun c2 => ?_) (fun c2 => ?_)
    · have h := g_tt c2 h
      refine g_iconst (v := 0) C dX4_build_171 (by decide) ?_
      refine g_sub [] rfl ?_
      exact wX4_build_b172 hN C hr h
    · have h := g_ff c2 h
      refine g_aload_n C 0 dX4_build_160 rfl ?_
      refine g_get (v := gr 134) C 129 4 (by omega) rfl rfl gu_4 (by decide) qf_X4_24 rfl dX4_build_161 ?_
      refine g_iload_n C 2 dX4_build_164 rfl ?_
      refine g_iconst (v := 1) C dX4_build_165 (by decide) ?_
      refine g_isub C dX4_build_166 ?_
      obtain ⟨hg3, h⟩ := g_gd h
      refine g_iald C 134 (by omega) rfl rfl hg3 dX4_build_167 ?_
      refine g_goto C dX4_build_168 (tgt := 172) (by decide) ?_
      refine g_sub [] rfl ?_
      exact wX4_build_b172 hN C hr h
  · have h := g_ff c1 h
    refine g_aload_n C 1 dX4_build_38 rfl ?_
    refine g_iload C 3 dX4_build_39 rfl ?_
    obtain ⟨hg4, h⟩ := g_gd h
    refine g_iald C x1 hx1.1 hx1.2.1 hx1.2.2 hg4 dX4_build_41 ?_
    obtain ⟨v5, ev5, h⟩ := g_lt h
    refine g_topi ev5 ?_
    refine g_istore C dX4_build_42 (by decide) rfl ?_
    refine g_iload C 0 dX4_build_44 rfl ?_
    refine g_istore C dX4_build_46 (by decide) rfl ?_
    refine g_aload_n C 2 dX4_build_48 rfl ?_
    refine g_iload C 1 dX4_build_49 rfl ?_
    obtain ⟨q6, eq6, h⟩ := g_bd h
    refine g_calliV C 129 [gi v5] (kX4_isPair hN eq6) qs_X4_52 (by omega) (by omega) rfl rfl rfl rfl (Nat.le_of_ble_eq_true rfl) ⟨Nat.zero_le _, Nat.zero_le _⟩ dX4_build_51 ?_
    refine g_if_eq C dX4_build_54 (tgt := 94) (by decide) (fun c7 => ?_) (fun c7 => ?_)
    · have h := g_tt c7 h
      refine g_aload_n C 2 dX4_build_94 rfl ?_
      refine g_iload C 1 dX4_build_95 rfl ?_
      obtain ⟨q8, eq8, h⟩ := g_bd h
      refine g_calliV C 129 [gi v5] (kX4_isNode hN eq8) qs_X4_88 (by omega) (by omega) rfl rfl rfl rfl (Nat.le_of_ble_eq_true rfl) ⟨Nat.zero_le _, Nat.zero_le _⟩ dX4_build_97 ?_
      refine g_if_eq C dX4_build_100 (tgt := 114) (by decide) (fun c9 => ?_) (fun c9 => ?_)
      · have h := g_tt c9 h
        refine g_iload C 1 dX4_build_114 rfl ?_
        refine g_bipush (v := 10) C dX4_build_116 (by decide) ?_
        refine g_icmp_lt C dX4_build_118 (tgt := 132) (by decide) (fun c10 => ?_) (fun c10 => ?_)
        · have h := g_tt c10 h
          refine g_sub [2, 3, 4, 5, 0] rfl ?_
          exact wX4_build_b132 hN C hr hK33 hx1 h
        · have h := g_ff c10 h
          refine g_aload_n C 2 dX4_build_121 rfl ?_
          refine g_iload C 1 dX4_build_122 rfl ?_
          refine g_bipush (v := 10) C dX4_build_124 (by decide) ?_
          refine g_isub C dX4_build_126 ?_
          obtain ⟨q11, eq11, h⟩ := g_bd h
          refine g_calliV C 129 [gi (v5 - 10)] (kX4_variableAt hN eq11) qs_X4_94 (by omega) (by omega) rfl rfl rfl rfl (Nat.le_of_ble_eq_true rfl) ⟨Nat.zero_le _, Nat.zero_le _⟩ dX4_build_127 ?_
          refine g_istore C dX4_build_130 (by decide) rfl ?_
          refine g_sub [2, 3, 4, 5, 0] rfl ?_
          exact wX4_build_b132 hN C hr hK33 hx1 h
      · have h := g_ff c9 h
        refine g_aload_n C 2 dX4_build_103 rfl ?_
        refine g_iload C 1 dX4_build_104 rfl ?_
        obtain ⟨q12, eq12, h⟩ := g_bd h
        refine g_calliV C 129 [gi v5] (kX4_nodeOfCode hN eq12) qs_X4_91 (by omega) (by omega) rfl rfl rfl rfl (Nat.le_of_ble_eq_true rfl) ⟨Nat.zero_le _, Nat.zero_le _⟩ dX4_build_106 ?_
        refine g_istore C dX4_build_109 (by decide) rfl ?_
        refine g_goto C dX4_build_111 (tgt := 132) (by decide) ?_
        refine g_sub [2, 3, 4, 5, 0] rfl ?_
        exact wX4_build_b132 hN C hr hK33 hx1 h
    · have h := g_ff c7 h
      refine g_iload_n C 4 dX4_build_57 rfl ?_
      refine g_iconst (v := 2) C dX4_build_58 (by decide) ?_
      refine g_icmp_ge C dX4_build_59 (tgt := 64) (by decide) (fun c13 => ?_) (fun c13 => ?_)
      · have h := g_tt c13 h
        refine g_aload_n C 2 dX4_build_64 rfl ?_
        refine g_iload C 1 dX4_build_65 rfl ?_
        refine g_aload_n C 2 dX4_build_67 rfl ?_
        refine g_get (v := gr 134) C 129 4 (by omega) rfl rfl gu_4 (by decide) qf_X4_24 rfl dX4_build_68 ?_
        refine g_iload_n C 4 dX4_build_71 rfl ?_
        refine g_iconst (v := 1) C dX4_build_72 (by decide) ?_
        refine g_isub C dX4_build_73 ?_
        obtain ⟨hg14, h⟩ := g_gd h
        refine g_iald C 134 (by omega) rfl rfl hg14 dX4_build_74 ?_
        refine g_aload_n C 2 dX4_build_75 rfl ?_
        refine g_get (v := gr 134) C 129 4 (by omega) rfl rfl gu_4 (by decide) qf_X4_24 rfl dX4_build_76 ?_
        refine g_iload_n C 4 dX4_build_79 rfl ?_
        refine g_iconst (v := 2) C dX4_build_80 (by decide) ?_
        refine g_isub C dX4_build_81 ?_
        obtain ⟨hg15, h⟩ := g_gd h
        refine g_iald C 134 (by omega) rfl rfl hg15 dX4_build_82 ?_
        obtain ⟨q16, eq16, h⟩ := g_bd h
        refine g_calliV C 129 [gi v5, gi (q6.1 134 (x3 - 1).toNatClampNeg), gi (q6.1 134 (x3 - 2).toNatClampNeg)] (kX4_make hN eq16) qs_X4_40 (by omega) (by omega) rfl rfl rfl rfl (Nat.le_of_ble_eq_true rfl) ⟨Nat.zero_le _, Nat.zero_le _⟩ dX4_build_83 ?_
        refine g_istore C dX4_build_86 (by decide) rfl ?_
        obtain ⟨v17, ev17, h⟩ := g_lt h
        refine g_iinc C 4 dX4_build_88 rfl ev17 (by decide) rfl ?_
        refine g_goto C dX4_build_91 (tgt := 132) (by decide) ?_
        refine g_sub [3, 4, 0, 5, 1] rfl ?_
        exact wX4_build_b132 hN C hr hK33 hx1 h
      · have h := g_ff c13 h
        refine g_iconst (v := 0) C dX4_build_62 (by decide) ?_
        obtain ⟨rfl, rfl⟩ := Prod.mk.inj (Option.some.inj h)
        exact g_reti C hr dX4_build_63

set_option maxHeartbeats 2000000 in
set_option maxRecDepth 20000 in
theorem wX4_build_L33 (hN : 183 ≤ N) {A0 A' : gM} {r : Int32} (C : gC p R s m args meth c cX4_build RX4 7 D g (va_A (gw g ad ln A0 N) s.heap.size) 3) (hr : meth.sig.returnType = some .int)  : ∀ (f : Nat) {A : gM} {x1 : Nat} {x3 : Int32} {x4 : Int32} (hx1 : (x1 < N ∧ g_isI x1 = true ∧ g_ln ln x1 = 60)), mX4_build_L33 f A x1 x3 x4 = some (A', r) → gJ p l e R s m args below meth c (gEi below D g N ad ln A0 A' r args s) 7 D g (va_A (gw g ad ln A0 N) s.heap.size) N ad ln A [(0, gr 129), (1, gr x1), (3, gi x3), (4, gi x4)] 0 0 33 []
  | 0, A, x1, x3, x4, hx1, h => by cases h
  | f + 1, A, x1, x3, x4, hx1, h => wX4_build_b33 hN C hr (fun {A} {x1} {x3} {x4} hx1 h => wX4_build_L33 hN C hr f hx1 h) hx1 h
set_option maxHeartbeats 2000000 in
set_option maxRecDepth 20000 in
theorem wX4_build_b2 (hN : 183 ≤ N) {A0 A' : gM} {r : Int32} (C : gC p R s m args meth c cX4_build RX4 7 D g (va_A (gw g ad ln A0 N) s.heap.size) 3) (hr : meth.sig.returnType = some .int) {K2 : gM → Nat → Int32 → Int32 → Option (gM × Int32)} (hK2 : ∀ {A : gM} {x1 : Nat} {x2 : Int32} {x3 : Int32} (hx1 : (x1 < N ∧ g_isI x1 = true ∧ g_ln ln x1 = 60)), K2 A x1 x2 x3 = some (A', r) → gJ p l e R s m args below meth c (gEi below D g N ad ln A0 A' r args s) 7 D g (va_A (gw g ad ln A0 N) s.heap.size) N ad ln A [(0, gr 129), (1, gr x1), (2, gi x2), (3, gi x3)] 0 0 2 []) {A : gM} {x1 : Nat} {x2 : Int32} {x3 : Int32} (hx1 : (x1 < N ∧ g_isI x1 = true ∧ g_ln ln x1 = 60)) (h : mX4_build_b2 K2 A x1 x2 x3 = some (A', r)) : gJ p l e R s m args below meth c (gEi below D g N ad ln A0 A' r args s) 7 D g (va_A (gw g ad ln A0 N) s.heap.size) N ad ln A [(0, gr 129), (1, gr x1), (2, gi x2), (3, gi x3)] 0 0 2 [] := by
  unfold mX4_build_b2 at h
  refine g_iload_n C 3 dX4_build_2 rfl ?_
  refine g_bipush (v := 60) C dX4_build_3 (by decide) ?_
  refine g_icmp_ge C dX4_build_5 (tgt := 21) (by decide) (fun c1 => ?_) (fun c1 => ?_)
  · have h := g_tt c1 h
    refine g_iconst (v := 0) C dX4_build_21 (by decide) ?_
    refine g_istore_n C dX4_build_22 (by decide) rfl ?_
    refine g_iload_n C 3 dX4_build_23 rfl ?_
    refine g_aload_n C 2 dX4_build_24 rfl ?_
    refine g_alen (v := 60) C x1 hx1.1 hx1.2.1 (by rw [hx1.2.2]; rfl) dX4_build_25 ?_
    refine g_mmin C qm_X4_82 (by decide) (Nat.le_of_ble_eq_true rfl) ⟨Nat.zero_le _, Nat.zero_le _⟩ dX4_build_26 ?_
    refine g_iconst (v := 1) C dX4_build_29 (by decide) ?_
    refine g_isub C dX4_build_30 ?_
    obtain ⟨v2, ev2, h⟩ := g_lt h
    refine g_topi ev2 ?_
    refine g_istore C dX4_build_31 (by decide) rfl ?_
    refine g_sub [2, 3, 1, 0] rfl ?_
    exact wX4_build_L33 hN C hr gF hx1 h
  · have h := g_ff c1 h
    refine g_aload_n C 0 dX4_build_8 rfl ?_
    refine g_get (v := gr 137) C 129 7 (by omega) rfl rfl gu_4 (by decide) qf_X4_33 rfl dX4_build_9 ?_
    refine g_iload_n C 3 dX4_build_12 rfl ?_
    refine g_iconst (v := (-1)) C dX4_build_13 (by decide) ?_
    obtain ⟨hg3, h⟩ := g_gd h
    obtain ⟨A4, eA4, h⟩ := g_lt h
    refine g_iast C 137 (by omega) rfl rfl hg3 eA4 dX4_build_14 ?_
    obtain ⟨v5, ev5, h⟩ := g_lt h
    refine g_iinc C 3 dX4_build_15 rfl ev5 (by decide) rfl ?_
    refine g_goto C dX4_build_18 (tgt := 2) (by decide) ?_
    refine g_sub [1, 2, 3, 0] rfl ?_
    exact hK2 hx1 h

set_option maxHeartbeats 2000000 in
set_option maxRecDepth 20000 in
theorem wX4_build_L2 (hN : 183 ≤ N) {A0 A' : gM} {r : Int32} (C : gC p R s m args meth c cX4_build RX4 7 D g (va_A (gw g ad ln A0 N) s.heap.size) 3) (hr : meth.sig.returnType = some .int)  : ∀ (f : Nat) {A : gM} {x1 : Nat} {x2 : Int32} {x3 : Int32} (hx1 : (x1 < N ∧ g_isI x1 = true ∧ g_ln ln x1 = 60)), mX4_build_L2 f A x1 x2 x3 = some (A', r) → gJ p l e R s m args below meth c (gEi below D g N ad ln A0 A' r args s) 7 D g (va_A (gw g ad ln A0 N) s.heap.size) N ad ln A [(0, gr 129), (1, gr x1), (2, gi x2), (3, gi x3)] 0 0 2 []
  | 0, A, x1, x2, x3, hx1, h => by cases h
  | f + 1, A, x1, x2, x3, hx1, h => wX4_build_b2 hN C hr (fun {A} {x1} {x2} {x3} hx1 h => wX4_build_L2 hN C hr f hx1 h) hx1 h
set_option maxHeartbeats 2000000 in
set_option maxRecDepth 20000 in
theorem wX4_build_b0 (hN : 183 ≤ N) {A0 A' : gM} {r : Int32} (C : gC p R s m args meth c cX4_build RX4 7 D g (va_A (gw g ad ln A0 N) s.heap.size) 3) (hr : meth.sig.returnType = some .int)  {A : gM} {x1 : Nat} {x2 : Int32} (hx1 : (x1 < N ∧ g_isI x1 = true ∧ g_ln ln x1 = 60)) (h : mX4_build_b0 A x1 x2 = some (A', r)) : gJ p l e R s m args below meth c (gEi below D g N ad ln A0 A' r args s) 7 D g (va_A (gw g ad ln A0 N) s.heap.size) N ad ln A [(0, gr 129), (1, gr x1), (2, gi x2)] 0 0 0 [] := by
  unfold mX4_build_b0 at h
  refine g_iconst (v := 0) C dX4_build_0 (by decide) ?_
  refine g_istore_n C dX4_build_1 (by decide) rfl ?_
  refine g_sub [1, 2, 3, 0] rfl ?_
  exact wX4_build_L2 hN C hr gF hx1 h

set_option maxHeartbeats 2000000 in
set_option maxRecDepth 20000 in
theorem kX4_build {l : Launch} {D : va_G} {g : gT} {N : Nat} {ad ln : Nat → Nat} (hN : 183 ≤ N) {A A' : gM} {x1 : Nat} {x2 : Int32} {r : Int32} (hx1 : (x1 < N ∧ g_isI x1 = true ∧ g_ln ln x1 = 60)) (h : mX4_build A x1 x2 = some (A', r)) : gKi l yX4_build cX4_build 7 (some .int) (3) D g N ad ln A [gr 129, gr x1, gi x2] A' r := by
  refine g_meti (by decide) (Nat.le_of_ble_eq_true rfl) ?_
  intro p e s m args below meth c C hr
  refine g_sub [0, 1, 2] rfl ?_
  exact wX4_build_b0 hN C hr hx1 h
def mX2_made_b0 (A : gM) : Option (gM × Int32) :=
  some (A, (A 1 1))
def mX2_made (A : gM) : Option (gM × Int32) := mX2_made_b0 A
set_option maxHeartbeats 2000000 in
set_option maxRecDepth 20000 in
theorem wX2_made_b0 (hN : 183 ≤ N) {A0 A' : gM} {r : Int32} (C : gC p R s m args meth c cX2_made RX2 1 D g (va_A (gw g ad ln A0 N) s.heap.size) 0) (hr : meth.sig.returnType = some .int)  {A : gM} (h : mX2_made_b0 A = some (A', r)) : gJ p l e R s m args below meth c (gEi below D g N ad ln A0 A' r args s) 1 D g (va_A (gw g ad ln A0 N) s.heap.size) N ad ln A [(0, gr 1)] 0 0 0 [] := by
  unfold mX2_made_b0 at h
  refine g_aload_n C 0 dX2_made_0 rfl ?_
  refine g_get (v := gi (A 1 1)) C 1 1 (by omega) rfl rfl gu_2 (by decide) qf_X2_16 rfl dX2_made_1 ?_
  obtain ⟨rfl, rfl⟩ := Prod.mk.inj (Option.some.inj h)
  exact g_reti C hr dX2_made_4

set_option maxHeartbeats 2000000 in
set_option maxRecDepth 20000 in
theorem kX2_made {l : Launch} {D : va_G} {g : gT} {N : Nat} {ad ln : Nat → Nat} (hN : 183 ≤ N) {A A' : gM} {r : Int32} (h : mX2_made A = some (A', r)) : gKi l yX2_made cX2_made 1 (some .int) (0) D g N ad ln A [gr 1] A' r := by
  refine g_meti (by decide) (Nat.le_of_ble_eq_true rfl) ?_
  intro p e s m args below meth c C hr
  refine g_sub [0] rfl ?_
  exact wX2_made_b0 hN C hr h
def mX2_fact_b50 (A : gM) (s0 : Int32) : Option (gM × Int32) :=
  some (A, s0)
def mX2_fact_b49 (A : gM) : Option (gM × Int32) :=
  mX2_fact_b50 A (-1)
def mX2_fact_b23 (A : gM) (x1 : Int32) (x2 : Int32) (s0 : Int32) : Option (gM × Int32) :=
  if s0 = 0 then
  mX2_fact_b49 A
  else
  if x2 < 0 then
  mX2_fact_b49 A
  else
  if 7 ≤ x2 then
  mX2_fact_b49 A
  else
  if g_in x1 40 = true then
  if g_in x2 7 = true then
  mX2_fact_b50 A (A (3 + x1.toNatClampNeg) x2.toNatClampNeg)
  else none
  else none
def mX2_fact_b22 (A : gM) (x1 : Int32) (x2 : Int32) : Option (gM × Int32) :=
  mX2_fact_b23 A x1 x2 0
def mX2_fact_b0 (A : gM) (x1 : Int32) (x2 : Int32) : Option (gM × Int32) :=
  if x1 < 0 then
  mX2_fact_b22 A x1 x2
  else
  if (A 1 1) ≤ x1 then
  mX2_fact_b22 A x1 x2
  else
  if 40 ≤ x1 then
  mX2_fact_b22 A x1 x2
  else
  mX2_fact_b23 A x1 x2 1
def mX2_fact (A : gM) (x1 : Int32) (x2 : Int32) : Option (gM × Int32) := mX2_fact_b0 A x1 x2
set_option maxHeartbeats 2000000 in
set_option maxRecDepth 20000 in
theorem wX2_fact_b50 (hN : 183 ≤ N) {A0 A' : gM} {r : Int32} (C : gC p R s m args meth c cX2_fact RX2 4 D g (va_A (gw g ad ln A0 N) s.heap.size) 0) (hr : meth.sig.returnType = some .int)  {A : gM} {s0 : Int32} (h : mX2_fact_b50 A s0 = some (A', r)) : gJ p l e R s m args below meth c (gEi below D g N ad ln A0 A' r args s) 4 D g (va_A (gw g ad ln A0 N) s.heap.size) N ad ln A [] 0 0 50 [gi s0] := by
  unfold mX2_fact_b50 at h
  obtain ⟨rfl, rfl⟩ := Prod.mk.inj (Option.some.inj h)
  exact g_reti C hr dX2_fact_50

set_option maxHeartbeats 2000000 in
set_option maxRecDepth 20000 in
theorem wX2_fact_b49 (hN : 183 ≤ N) {A0 A' : gM} {r : Int32} (C : gC p R s m args meth c cX2_fact RX2 4 D g (va_A (gw g ad ln A0 N) s.heap.size) 0) (hr : meth.sig.returnType = some .int)  {A : gM} (h : mX2_fact_b49 A = some (A', r)) : gJ p l e R s m args below meth c (gEi below D g N ad ln A0 A' r args s) 4 D g (va_A (gw g ad ln A0 N) s.heap.size) N ad ln A [] 0 0 49 [] := by
  unfold mX2_fact_b49 at h
  refine g_iconst (v := (-1)) C dX2_fact_49 (by decide) ?_
  refine g_sub [] rfl ?_
  exact wX2_fact_b50 hN C hr h

set_option maxHeartbeats 2000000 in
set_option maxRecDepth 20000 in
theorem wX2_fact_b23 (hN : 183 ≤ N) {A0 A' : gM} {r : Int32} (C : gC p R s m args meth c cX2_fact RX2 4 D g (va_A (gw g ad ln A0 N) s.heap.size) 0) (hr : meth.sig.returnType = some .int)  {A : gM} {x1 : Int32} {x2 : Int32} {s0 : Int32} (h : mX2_fact_b23 A x1 x2 s0 = some (A', r)) : gJ p l e R s m args below meth c (gEi below D g N ad ln A0 A' r args s) 4 D g (va_A (gw g ad ln A0 N) s.heap.size) N ad ln A [(0, gr 1), (1, gi x1), (2, gi x2)] 0 0 23 [gi s0] := by
  unfold mX2_fact_b23 at h
  refine g_istore_n C dX2_fact_23 (by decide) rfl ?_
  refine g_iload_n C 0 dX2_fact_24 rfl ?_
  refine g_if_eq C dX2_fact_25 (tgt := 49) (by decide) (fun c1 => ?_) (fun c1 => ?_)
  · have h := g_tt c1 h
    refine g_sub [] rfl ?_
    exact wX2_fact_b49 hN C hr h
  · have h := g_ff c1 h
    refine g_iload_n C 3 dX2_fact_28 rfl ?_
    refine g_if_lt C dX2_fact_29 (tgt := 49) (by decide) (fun c2 => ?_) (fun c2 => ?_)
    · have h := g_tt c2 h
      refine g_sub [] rfl ?_
      exact wX2_fact_b49 hN C hr h
    · have h := g_ff c2 h
      refine g_iload_n C 3 dX2_fact_32 rfl ?_
      refine g_bipush (v := 7) C dX2_fact_33 (by decide) ?_
      refine g_icmp_ge C dX2_fact_35 (tgt := 49) (by decide) (fun c3 => ?_) (fun c3 => ?_)
      · have h := g_tt c3 h
        refine g_sub [] rfl ?_
        exact wX2_fact_b49 hN C hr h
      · have h := g_ff c3 h
        refine g_aload_n C 1 dX2_fact_38 rfl ?_
        refine g_get (v := gr 2) C 1 0 (by omega) rfl rfl gu_2 (by decide) qf_X2_11 rfl dX2_fact_39 ?_
        refine g_iload_n C 2 dX2_fact_42 rfl ?_
        obtain ⟨hg4, h⟩ := g_gd h
        refine g_aald C 2 3 (by omega) rfl hg4 dX2_fact_43 ?_
        refine g_iload_n C 3 dX2_fact_44 rfl ?_
        obtain ⟨hg5, h⟩ := g_gd h
        refine g_iald C (3 + x1.toNatClampNeg) (g_row3 (ln := ln) hN hg4).1 (g_row3 (ln := ln) hN hg4).2.1 (g_row3 (ln := ln) hN hg4).2.2 hg5 dX2_fact_45 ?_
        refine g_goto C dX2_fact_46 (tgt := 50) (by decide) ?_
        refine g_sub [] rfl ?_
        exact wX2_fact_b50 hN C hr h

set_option maxHeartbeats 2000000 in
set_option maxRecDepth 20000 in
theorem wX2_fact_b22 (hN : 183 ≤ N) {A0 A' : gM} {r : Int32} (C : gC p R s m args meth c cX2_fact RX2 4 D g (va_A (gw g ad ln A0 N) s.heap.size) 0) (hr : meth.sig.returnType = some .int)  {A : gM} {x1 : Int32} {x2 : Int32} (h : mX2_fact_b22 A x1 x2 = some (A', r)) : gJ p l e R s m args below meth c (gEi below D g N ad ln A0 A' r args s) 4 D g (va_A (gw g ad ln A0 N) s.heap.size) N ad ln A [(0, gr 1), (1, gi x1), (2, gi x2)] 0 0 22 [] := by
  unfold mX2_fact_b22 at h
  refine g_iconst (v := 0) C dX2_fact_22 (by decide) ?_
  refine g_sub [0, 1, 2] rfl ?_
  exact wX2_fact_b23 hN C hr h

set_option maxHeartbeats 2000000 in
set_option maxRecDepth 20000 in
theorem wX2_fact_b0 (hN : 183 ≤ N) {A0 A' : gM} {r : Int32} (C : gC p R s m args meth c cX2_fact RX2 4 D g (va_A (gw g ad ln A0 N) s.heap.size) 0) (hr : meth.sig.returnType = some .int)  {A : gM} {x1 : Int32} {x2 : Int32} (h : mX2_fact_b0 A x1 x2 = some (A', r)) : gJ p l e R s m args below meth c (gEi below D g N ad ln A0 A' r args s) 4 D g (va_A (gw g ad ln A0 N) s.heap.size) N ad ln A [(0, gr 1), (1, gi x1), (2, gi x2)] 0 0 0 [] := by
  unfold mX2_fact_b0 at h
  refine g_iload_n C 1 dX2_fact_0 rfl ?_
  refine g_if_lt C dX2_fact_1 (tgt := 22) (by decide) (fun c1 => ?_) (fun c1 => ?_)
  · have h := g_tt c1 h
    refine g_sub [0, 1, 2] rfl ?_
    exact wX2_fact_b22 hN C hr h
  · have h := g_ff c1 h
    refine g_iload_n C 1 dX2_fact_4 rfl ?_
    refine g_aload_n C 0 dX2_fact_5 rfl ?_
    refine g_get (v := gi (A 1 1)) C 1 1 (by omega) rfl rfl gu_2 (by decide) qf_X2_16 rfl dX2_fact_6 ?_
    refine g_icmp_ge C dX2_fact_9 (tgt := 22) (by decide) (fun c2 => ?_) (fun c2 => ?_)
    · have h := g_tt c2 h
      refine g_sub [0, 1, 2] rfl ?_
      exact wX2_fact_b22 hN C hr h
    · have h := g_ff c2 h
      refine g_iload_n C 1 dX2_fact_12 rfl ?_
      refine g_bipush (v := 40) C dX2_fact_13 (by decide) ?_
      refine g_icmp_ge C dX2_fact_15 (tgt := 22) (by decide) (fun c3 => ?_) (fun c3 => ?_)
      · have h := g_tt c3 h
        refine g_sub [0, 1, 2] rfl ?_
        exact wX2_fact_b22 hN C hr h
      · have h := g_ff c3 h
        refine g_iconst (v := 1) C dX2_fact_18 (by decide) ?_
        refine g_goto C dX2_fact_19 (tgt := 23) (by decide) ?_
        refine g_sub [0, 1, 2] rfl ?_
        exact wX2_fact_b23 hN C hr h

set_option maxHeartbeats 2000000 in
set_option maxRecDepth 20000 in
theorem kX2_fact {l : Launch} {D : va_G} {g : gT} {N : Nat} {ad ln : Nat → Nat} (hN : 183 ≤ N) {A A' : gM} {x1 : Int32} {x2 : Int32} {r : Int32} (h : mX2_fact A x1 x2 = some (A', r)) : gKi l yX2_fact cX2_fact 4 (some .int) (0) D g N ad ln A [gr 1, gi x1, gi x2] A' r := by
  refine g_meti (by decide) (Nat.le_of_ble_eq_true rfl) ?_
  intro p e s m args below meth c C hr
  refine g_sub [0, 1, 2] rfl ?_
  exact wX2_fact_b0 hN C hr h
def mX2_sizeOf_b15 (A : gM) (s0 : Int32) : Option (gM × Int32) :=
  some (A, s0)
def mX2_sizeOf_b0 (A : gM) (x1 : Int32) : Option (gM × Int32) :=
  if x1 = (-1) then
  mX2_sizeOf_b15 A 0
  else
  (mX2_fact A x1 5).bind fun q2 =>
  mX2_sizeOf_b15 q2.1 q2.2
def mX2_sizeOf (A : gM) (x1 : Int32) : Option (gM × Int32) := mX2_sizeOf_b0 A x1
set_option maxHeartbeats 2000000 in
set_option maxRecDepth 20000 in
theorem wX2_sizeOf_b15 (hN : 183 ≤ N) {A0 A' : gM} {r : Int32} (C : gC p R s m args meth c cX2_sizeOf RX2 2 D g (va_A (gw g ad ln A0 N) s.heap.size) 1) (hr : meth.sig.returnType = some .int)  {A : gM} {s0 : Int32} (h : mX2_sizeOf_b15 A s0 = some (A', r)) : gJ p l e R s m args below meth c (gEi below D g N ad ln A0 A' r args s) 2 D g (va_A (gw g ad ln A0 N) s.heap.size) N ad ln A [] 0 0 15 [gi s0] := by
  unfold mX2_sizeOf_b15 at h
  obtain ⟨rfl, rfl⟩ := Prod.mk.inj (Option.some.inj h)
  exact g_reti C hr dX2_sizeOf_15

set_option maxHeartbeats 2000000 in
set_option maxRecDepth 20000 in
theorem wX2_sizeOf_b0 (hN : 183 ≤ N) {A0 A' : gM} {r : Int32} (C : gC p R s m args meth c cX2_sizeOf RX2 2 D g (va_A (gw g ad ln A0 N) s.heap.size) 1) (hr : meth.sig.returnType = some .int)  {A : gM} {x1 : Int32} (h : mX2_sizeOf_b0 A x1 = some (A', r)) : gJ p l e R s m args below meth c (gEi below D g N ad ln A0 A' r args s) 2 D g (va_A (gw g ad ln A0 N) s.heap.size) N ad ln A [(0, gr 1), (1, gi x1)] 0 0 0 [] := by
  unfold mX2_sizeOf_b0 at h
  refine g_iload_n C 1 dX2_sizeOf_0 rfl ?_
  refine g_iconst (v := (-1)) C dX2_sizeOf_1 (by decide) ?_
  refine g_icmp_ne C dX2_sizeOf_2 (tgt := 9) (by decide) (fun c1 => ?_) (fun c1 => ?_)
  · have h := g_ff c1 h
    refine g_aload_n C 0 dX2_sizeOf_9 rfl ?_
    refine g_iload_n C 1 dX2_sizeOf_10 rfl ?_
    refine g_iconst (v := 5) C dX2_sizeOf_11 (by decide) ?_
    obtain ⟨q2, eq2, h⟩ := g_bd h
    refine g_calliV C 1 [gi x1, gi 5] (kX2_fact hN eq2) qs_X2_24 (by omega) (by omega) rfl rfl rfl rfl (Nat.le_of_ble_eq_true rfl) ⟨Nat.zero_le _, Nat.zero_le _⟩ dX2_sizeOf_12 ?_
    refine g_sub [] rfl ?_
    exact wX2_sizeOf_b15 hN C hr h
  · have h := g_tt c1 h
    refine g_iconst (v := 0) C dX2_sizeOf_5 (by decide) ?_
    refine g_goto C dX2_sizeOf_6 (tgt := 15) (by decide) ?_
    refine g_sub [] rfl ?_
    exact wX2_sizeOf_b15 hN C hr h

set_option maxHeartbeats 2000000 in
set_option maxRecDepth 20000 in
theorem kX2_sizeOf {l : Launch} {D : va_G} {g : gT} {N : Nat} {ad ln : Nat → Nat} (hN : 183 ≤ N) {A A' : gM} {x1 : Int32} {r : Int32} (h : mX2_sizeOf A x1 = some (A', r)) : gKi l yX2_sizeOf cX2_sizeOf 2 (some .int) (1) D g N ad ln A [gr 1, gi x1] A' r := by
  refine g_meti (by decide) (Nat.le_of_ble_eq_true rfl) ?_
  intro p e s m args below meth c C hr
  refine g_sub [0, 1] rfl ?_
  exact wX2_sizeOf_b0 hN C hr h
def mX2_sizeOver_b0 (A : gM) (x1 : Int32) (x2 : Int32) (x3 : Int32) : Option (gM × Int32) :=
  (mX2_sizeOf A x1).bind fun q1 =>
  (mX2_sizeOf q1.1 x2).bind fun q2 =>
  (mX2_sizeOf q2.1 x3).bind fun q3 =>
  some (q3.1, (((1 + q1.2) + q2.2) + q3.2))
def mX2_sizeOver (A : gM) (x1 : Int32) (x2 : Int32) (x3 : Int32) : Option (gM × Int32) := mX2_sizeOver_b0 A x1 x2 x3
set_option maxHeartbeats 2000000 in
set_option maxRecDepth 20000 in
theorem wX2_sizeOver_b0 (hN : 183 ≤ N) {A0 A' : gM} {r : Int32} (C : gC p R s m args meth c cX2_sizeOver RX2 4 D g (va_A (gw g ad ln A0 N) s.heap.size) 2) (hr : meth.sig.returnType = some .int)  {A : gM} {x1 : Int32} {x2 : Int32} {x3 : Int32} (h : mX2_sizeOver_b0 A x1 x2 x3 = some (A', r)) : gJ p l e R s m args below meth c (gEi below D g N ad ln A0 A' r args s) 4 D g (va_A (gw g ad ln A0 N) s.heap.size) N ad ln A [(0, gr 1), (1, gi x1), (2, gi x2), (3, gi x3)] 0 0 0 [] := by
  unfold mX2_sizeOver_b0 at h
  refine g_iconst (v := 1) C dX2_sizeOver_0 (by decide) ?_
  refine g_aload_n C 0 dX2_sizeOver_1 rfl ?_
  refine g_iload_n C 1 dX2_sizeOver_2 rfl ?_
  obtain ⟨q1, eq1, h⟩ := g_bd h
  refine g_calliV C 1 [gi x1] (kX2_sizeOf hN eq1) qs_X2_20 (by omega) (by omega) rfl rfl rfl rfl (Nat.le_of_ble_eq_true rfl) ⟨Nat.zero_le _, Nat.zero_le _⟩ dX2_sizeOver_3 ?_
  refine g_iadd C dX2_sizeOver_6 ?_
  refine g_aload_n C 0 dX2_sizeOver_7 rfl ?_
  refine g_iload_n C 2 dX2_sizeOver_8 rfl ?_
  obtain ⟨q2, eq2, h⟩ := g_bd h
  refine g_calliV C 1 [gi x2] (kX2_sizeOf hN eq2) qs_X2_20 (by omega) (by omega) rfl rfl rfl rfl (Nat.le_of_ble_eq_true rfl) ⟨Nat.zero_le _, Nat.zero_le _⟩ dX2_sizeOver_9 ?_
  refine g_iadd C dX2_sizeOver_12 ?_
  refine g_aload_n C 0 dX2_sizeOver_13 rfl ?_
  refine g_iload_n C 3 dX2_sizeOver_14 rfl ?_
  obtain ⟨q3, eq3, h⟩ := g_bd h
  refine g_calliV C 1 [gi x3] (kX2_sizeOf hN eq3) qs_X2_20 (by omega) (by omega) rfl rfl rfl rfl (Nat.le_of_ble_eq_true rfl) ⟨Nat.zero_le _, Nat.zero_le _⟩ dX2_sizeOver_15 ?_
  refine g_iadd C dX2_sizeOver_18 ?_
  obtain ⟨rfl, rfl⟩ := Prod.mk.inj (Option.some.inj h)
  exact g_reti C hr dX2_sizeOver_19

set_option maxHeartbeats 2000000 in
set_option maxRecDepth 20000 in
theorem kX2_sizeOver {l : Launch} {D : va_G} {g : gT} {N : Nat} {ad ln : Nat → Nat} (hN : 183 ≤ N) {A A' : gM} {x1 : Int32} {x2 : Int32} {x3 : Int32} {r : Int32} (h : mX2_sizeOver A x1 x2 x3 = some (A', r)) : gKi l yX2_sizeOver cX2_sizeOver 4 (some .int) (2) D g N ad ln A [gr 1, gi x1, gi x2, gi x3] A' r := by
  refine g_meti (by decide) (Nat.le_of_ble_eq_true rfl) ?_
  intro p e s m args below meth c C hr
  refine g_sub [0, 1, 2, 3] rfl ?_
  exact wX2_sizeOver_b0 hN C hr h
def mX2_depthOf_b16 (A : gM) (s0 : Int32) : Option (gM × Int32) :=
  some (A, s0)
def mX2_depthOf_b0 (A : gM) (x1 : Int32) : Option (gM × Int32) :=
  if x1 = (-1) then
  mX2_depthOf_b16 A 0
  else
  (mX2_fact A x1 6).bind fun q2 =>
  mX2_depthOf_b16 q2.1 q2.2
def mX2_depthOf (A : gM) (x1 : Int32) : Option (gM × Int32) := mX2_depthOf_b0 A x1
set_option maxHeartbeats 2000000 in
set_option maxRecDepth 20000 in
theorem wX2_depthOf_b16 (hN : 183 ≤ N) {A0 A' : gM} {r : Int32} (C : gC p R s m args meth c cX2_depthOf RX2 2 D g (va_A (gw g ad ln A0 N) s.heap.size) 1) (hr : meth.sig.returnType = some .int)  {A : gM} {s0 : Int32} (h : mX2_depthOf_b16 A s0 = some (A', r)) : gJ p l e R s m args below meth c (gEi below D g N ad ln A0 A' r args s) 2 D g (va_A (gw g ad ln A0 N) s.heap.size) N ad ln A [] 0 0 16 [gi s0] := by
  unfold mX2_depthOf_b16 at h
  obtain ⟨rfl, rfl⟩ := Prod.mk.inj (Option.some.inj h)
  exact g_reti C hr dX2_depthOf_16

set_option maxHeartbeats 2000000 in
set_option maxRecDepth 20000 in
theorem wX2_depthOf_b0 (hN : 183 ≤ N) {A0 A' : gM} {r : Int32} (C : gC p R s m args meth c cX2_depthOf RX2 2 D g (va_A (gw g ad ln A0 N) s.heap.size) 1) (hr : meth.sig.returnType = some .int)  {A : gM} {x1 : Int32} (h : mX2_depthOf_b0 A x1 = some (A', r)) : gJ p l e R s m args below meth c (gEi below D g N ad ln A0 A' r args s) 2 D g (va_A (gw g ad ln A0 N) s.heap.size) N ad ln A [(0, gr 1), (1, gi x1)] 0 0 0 [] := by
  unfold mX2_depthOf_b0 at h
  refine g_iload_n C 1 dX2_depthOf_0 rfl ?_
  refine g_iconst (v := (-1)) C dX2_depthOf_1 (by decide) ?_
  refine g_icmp_ne C dX2_depthOf_2 (tgt := 9) (by decide) (fun c1 => ?_) (fun c1 => ?_)
  · have h := g_ff c1 h
    refine g_aload_n C 0 dX2_depthOf_9 rfl ?_
    refine g_iload_n C 1 dX2_depthOf_10 rfl ?_
    refine g_bipush (v := 6) C dX2_depthOf_11 (by decide) ?_
    obtain ⟨q2, eq2, h⟩ := g_bd h
    refine g_calliV C 1 [gi x1, gi 6] (kX2_fact hN eq2) qs_X2_24 (by omega) (by omega) rfl rfl rfl rfl (Nat.le_of_ble_eq_true rfl) ⟨Nat.zero_le _, Nat.zero_le _⟩ dX2_depthOf_13 ?_
    refine g_sub [] rfl ?_
    exact wX2_depthOf_b16 hN C hr h
  · have h := g_tt c1 h
    refine g_iconst (v := 0) C dX2_depthOf_5 (by decide) ?_
    refine g_goto C dX2_depthOf_6 (tgt := 16) (by decide) ?_
    refine g_sub [] rfl ?_
    exact wX2_depthOf_b16 hN C hr h

set_option maxHeartbeats 2000000 in
set_option maxRecDepth 20000 in
theorem kX2_depthOf {l : Launch} {D : va_G} {g : gT} {N : Nat} {ad ln : Nat → Nat} (hN : 183 ≤ N) {A A' : gM} {x1 : Int32} {r : Int32} (h : mX2_depthOf A x1 = some (A', r)) : gKi l yX2_depthOf cX2_depthOf 2 (some .int) (1) D g N ad ln A [gr 1, gi x1] A' r := by
  refine g_meti (by decide) (Nat.le_of_ble_eq_true rfl) ?_
  intro p e s m args below meth c C hr
  refine g_sub [0, 1] rfl ?_
  exact wX2_depthOf_b0 hN C hr h
def mX2_append_b16 (A : gM) : Option (gM × Int32) :=
  some (A, (-1))
def mX2_append_b0 (A : gM) (x1 : Int32) (x2 : Int32) (x3 : Int32) (x4 : Int32) (x5 : Int32) : Option (gM × Int32) :=
  if (A 1 1) < 0 then
  mX2_append_b16 A
  else
  if (A 1 1) < 40 then
  if g_in (A 1 1) 40 = true then
  if g_in 0 7 = true then g_let (g_up A (3 + (A 1 1).toNatClampNeg) (0 : Int32).toNatClampNeg x1) fun A5 =>
  if g_in 1 7 = true then g_let (g_up A5 (3 + (A 1 1).toNatClampNeg) (1 : Int32).toNatClampNeg x3) fun A7 =>
  if g_in 2 7 = true then g_let (g_up A7 (3 + (A 1 1).toNatClampNeg) (2 : Int32).toNatClampNeg x4) fun A9 =>
  if g_in 3 7 = true then g_let (g_up A9 (3 + (A 1 1).toNatClampNeg) (3 : Int32).toNatClampNeg x5) fun A11 =>
  if g_in 4 7 = true then g_let (g_up A11 (3 + (A 1 1).toNatClampNeg) (4 : Int32).toNatClampNeg x2) fun A13 =>
  (mX2_sizeOver A13 x3 x4 x5).bind fun q14 =>
  if g_in 5 7 = true then g_let (g_up q14.1 (3 + (A 1 1).toNatClampNeg) (5 : Int32).toNatClampNeg q14.2) fun A16 =>
  (mX2_depthOf A16 x3).bind fun q17 =>
  (mX2_depthOf q17.1 x4).bind fun q18 =>
  (mX2_depthOf q18.1 x5).bind fun q19 =>
  if g_in 6 7 = true then g_let (g_up q19.1 (3 + (A 1 1).toNatClampNeg) (6 : Int32).toNatClampNeg (1 + (if q17.2 < (if q18.2 < q19.2 then q19.2 else q18.2) then (if q18.2 < q19.2 then q19.2 else q18.2) else q17.2))) fun A21 =>
  g_let (g_up A21 1 1 ((A21 1 1) + 1)) fun A22 =>
  some (A22, ((A22 1 1) - 1))
  else none
  else none
  else none
  else none
  else none
  else none
  else none
  else none
  else
  mX2_append_b16 A
def mX2_append (A : gM) (x1 : Int32) (x2 : Int32) (x3 : Int32) (x4 : Int32) (x5 : Int32) : Option (gM × Int32) := mX2_append_b0 A x1 x2 x3 x4 x5
set_option maxHeartbeats 2000000 in
set_option maxRecDepth 20000 in
theorem wX2_append_b16 (hN : 183 ≤ N) {A0 A' : gM} {r : Int32} (C : gC p R s m args meth c cX2_append RX2 7 D g (va_A (gw g ad ln A0 N) s.heap.size) 3) (hr : meth.sig.returnType = some .int)  {A : gM} (h : mX2_append_b16 A = some (A', r)) : gJ p l e R s m args below meth c (gEi below D g N ad ln A0 A' r args s) 7 D g (va_A (gw g ad ln A0 N) s.heap.size) N ad ln A [] 0 0 16 [] := by
  unfold mX2_append_b16 at h
  refine g_iconst (v := (-1)) C dX2_append_16 (by decide) ?_
  obtain ⟨rfl, rfl⟩ := Prod.mk.inj (Option.some.inj h)
  exact g_reti C hr dX2_append_17

set_option maxHeartbeats 2000000 in
set_option maxRecDepth 20000 in
theorem wX2_append_b0 (hN : 183 ≤ N) {A0 A' : gM} {r : Int32} (C : gC p R s m args meth c cX2_append RX2 7 D g (va_A (gw g ad ln A0 N) s.heap.size) 3) (hr : meth.sig.returnType = some .int)  {A : gM} {x1 : Int32} {x2 : Int32} {x3 : Int32} {x4 : Int32} {x5 : Int32} (h : mX2_append_b0 A x1 x2 x3 x4 x5 = some (A', r)) : gJ p l e R s m args below meth c (gEi below D g N ad ln A0 A' r args s) 7 D g (va_A (gw g ad ln A0 N) s.heap.size) N ad ln A [(0, gr 1), (1, gi x1), (2, gi x2), (3, gi x3), (4, gi x4), (5, gi x5)] 0 0 0 [] := by
  unfold mX2_append_b0 at h
  refine g_aload_n C 0 dX2_append_0 rfl ?_
  refine g_get (v := gi (A 1 1)) C 1 1 (by omega) rfl rfl gu_2 (by decide) qf_X2_16 rfl dX2_append_1 ?_
  refine g_if_lt C dX2_append_4 (tgt := 16) (by decide) (fun c1 => ?_) (fun c1 => ?_)
  · have h := g_tt c1 h
    refine g_sub [] rfl ?_
    exact wX2_append_b16 hN C hr h
  · have h := g_ff c1 h
    refine g_aload_n C 0 dX2_append_7 rfl ?_
    refine g_get (v := gi (A 1 1)) C 1 1 (by omega) rfl rfl gu_2 (by decide) qf_X2_16 rfl dX2_append_8 ?_
    refine g_bipush (v := 40) C dX2_append_11 (by decide) ?_
    refine g_icmp_lt C dX2_append_13 (tgt := 18) (by decide) (fun c2 => ?_) (fun c2 => ?_)
    · have h := g_tt c2 h
      refine g_aload_n C 0 dX2_append_18 rfl ?_
      refine g_get (v := gr 2) C 1 0 (by omega) rfl rfl gu_2 (by decide) qf_X2_11 rfl dX2_append_19 ?_
      refine g_aload_n C 0 dX2_append_22 rfl ?_
      refine g_get (v := gi (A 1 1)) C 1 1 (by omega) rfl rfl gu_2 (by decide) qf_X2_16 rfl dX2_append_23 ?_
      obtain ⟨hg3, h⟩ := g_gd h
      refine g_aald C 2 3 (by omega) rfl hg3 dX2_append_26 ?_
      refine g_astore C dX2_append_27 (by decide) rfl ?_
      refine g_aload C 0 dX2_append_29 rfl ?_
      refine g_iconst (v := 0) C dX2_append_31 (by decide) ?_
      refine g_iload_n C 2 dX2_append_32 rfl ?_
      obtain ⟨hg4, h⟩ := g_gd h
      obtain ⟨A5, eA5, h⟩ := g_lt h
      refine g_iast C (3 + (A 1 1).toNatClampNeg) (g_row3 (ln := ln) hN hg3).1 (g_row3 (ln := ln) hN hg3).2.1 (g_row3 (ln := ln) hN hg3).2.2 hg4 eA5 dX2_append_33 ?_
      refine g_aload C 0 dX2_append_34 rfl ?_
      refine g_iconst (v := 1) C dX2_append_36 (by decide) ?_
      refine g_iload_n C 4 dX2_append_37 rfl ?_
      obtain ⟨hg6, h⟩ := g_gd h
      obtain ⟨A7, eA7, h⟩ := g_lt h
      refine g_iast C (3 + (A 1 1).toNatClampNeg) (g_row3 (ln := ln) hN hg3).1 (g_row3 (ln := ln) hN hg3).2.1 (g_row3 (ln := ln) hN hg3).2.2 hg6 eA7 dX2_append_38 ?_
      refine g_aload C 0 dX2_append_39 rfl ?_
      refine g_iconst (v := 2) C dX2_append_41 (by decide) ?_
      refine g_iload C 5 dX2_append_42 rfl ?_
      obtain ⟨hg8, h⟩ := g_gd h
      obtain ⟨A9, eA9, h⟩ := g_lt h
      refine g_iast C (3 + (A 1 1).toNatClampNeg) (g_row3 (ln := ln) hN hg3).1 (g_row3 (ln := ln) hN hg3).2.1 (g_row3 (ln := ln) hN hg3).2.2 hg8 eA9 dX2_append_44 ?_
      refine g_aload C 0 dX2_append_45 rfl ?_
      refine g_iconst (v := 3) C dX2_append_47 (by decide) ?_
      refine g_iload C 6 dX2_append_48 rfl ?_
      obtain ⟨hg10, h⟩ := g_gd h
      obtain ⟨A11, eA11, h⟩ := g_lt h
      refine g_iast C (3 + (A 1 1).toNatClampNeg) (g_row3 (ln := ln) hN hg3).1 (g_row3 (ln := ln) hN hg3).2.1 (g_row3 (ln := ln) hN hg3).2.2 hg10 eA11 dX2_append_50 ?_
      refine g_aload C 0 dX2_append_51 rfl ?_
      refine g_iconst (v := 4) C dX2_append_53 (by decide) ?_
      refine g_iload_n C 3 dX2_append_54 rfl ?_
      obtain ⟨hg12, h⟩ := g_gd h
      obtain ⟨A13, eA13, h⟩ := g_lt h
      refine g_iast C (3 + (A 1 1).toNatClampNeg) (g_row3 (ln := ln) hN hg3).1 (g_row3 (ln := ln) hN hg3).2.1 (g_row3 (ln := ln) hN hg3).2.2 hg12 eA13 dX2_append_55 ?_
      refine g_aload C 0 dX2_append_56 rfl ?_
      refine g_iconst (v := 5) C dX2_append_58 (by decide) ?_
      refine g_aload_n C 1 dX2_append_59 rfl ?_
      refine g_iload_n C 4 dX2_append_60 rfl ?_
      refine g_iload C 5 dX2_append_61 rfl ?_
      refine g_iload C 6 dX2_append_63 rfl ?_
      obtain ⟨q14, eq14, h⟩ := g_bd h
      refine g_calliV C 1 [gi x3, gi x4, gi x5] (kX2_sizeOver hN eq14) qs_X2_28 (by omega) (by omega) rfl rfl rfl rfl (Nat.le_of_ble_eq_true rfl) ⟨Nat.zero_le _, Nat.zero_le _⟩ dX2_append_65 ?_
      obtain ⟨hg15, h⟩ := g_gd h
      obtain ⟨A16, eA16, h⟩ := g_lt h
      refine g_iast C (3 + (A 1 1).toNatClampNeg) (g_row3 (ln := ln) hN hg3).1 (g_row3 (ln := ln) hN hg3).2.1 (g_row3 (ln := ln) hN hg3).2.2 hg15 eA16 dX2_append_68 ?_
      refine g_aload C 0 dX2_append_69 rfl ?_
      refine g_bipush (v := 6) C dX2_append_71 (by decide) ?_
      refine g_iconst (v := 1) C dX2_append_73 (by decide) ?_
      refine g_aload_n C 1 dX2_append_74 rfl ?_
      refine g_iload_n C 4 dX2_append_75 rfl ?_
      obtain ⟨q17, eq17, h⟩ := g_bd h
      refine g_calliV C 1 [gi x3] (kX2_depthOf hN eq17) qs_X2_32 (by omega) (by omega) rfl rfl rfl rfl (Nat.le_of_ble_eq_true rfl) ⟨Nat.zero_le _, Nat.zero_le _⟩ dX2_append_76 ?_
      refine g_aload_n C 1 dX2_append_79 rfl ?_
      refine g_iload C 5 dX2_append_80 rfl ?_
      obtain ⟨q18, eq18, h⟩ := g_bd h
      refine g_calliV C 1 [gi x4] (kX2_depthOf hN eq18) qs_X2_32 (by omega) (by omega) rfl rfl rfl rfl (Nat.le_of_ble_eq_true rfl) ⟨Nat.zero_le _, Nat.zero_le _⟩ dX2_append_82 ?_
      refine g_aload_n C 1 dX2_append_85 rfl ?_
      refine g_iload C 6 dX2_append_86 rfl ?_
      obtain ⟨q19, eq19, h⟩ := g_bd h
      refine g_calliV C 1 [gi x5] (kX2_depthOf hN eq19) qs_X2_32 (by omega) (by omega) rfl rfl rfl rfl (Nat.le_of_ble_eq_true rfl) ⟨Nat.zero_le _, Nat.zero_le _⟩ dX2_append_88 ?_
      refine g_mmax C qm_X2_35 (by decide) (Nat.le_of_ble_eq_true rfl) ⟨Nat.zero_le _, Nat.zero_le _⟩ dX2_append_91 ?_
      refine g_mmax C qm_X2_35 (by decide) (Nat.le_of_ble_eq_true rfl) ⟨Nat.zero_le _, Nat.zero_le _⟩ dX2_append_94 ?_
      refine g_iadd C dX2_append_97 ?_
      obtain ⟨hg20, h⟩ := g_gd h
      obtain ⟨A21, eA21, h⟩ := g_lt h
      refine g_iast C (3 + (A 1 1).toNatClampNeg) (g_row3 (ln := ln) hN hg3).1 (g_row3 (ln := ln) hN hg3).2.1 (g_row3 (ln := ln) hN hg3).2.2 hg20 eA21 dX2_append_98 ?_
      refine g_aload_n C 1 dX2_append_99 rfl ?_
      refine g_dup_r C dX2_append_100 ?_
      refine g_get (v := gi (A21 1 1)) C 1 1 (by omega) rfl rfl gu_2 (by decide) qf_X2_16 rfl dX2_append_101 ?_
      refine g_iconst (v := 1) C dX2_append_104 (by decide) ?_
      refine g_iadd C dX2_append_105 ?_
      obtain ⟨A22, eA22, h⟩ := g_lt h
      refine g_put C 1 1 tyX2 tyX2_ok nmX2 (by omega) rfl rfl gu_2 (by decide) qf_X2_16 rfl (by decide +kernel) (Nat.le_of_ble_eq_true rfl) rfl eA22 dX2_append_106 ?_
      refine g_aload_n C 1 dX2_append_109 rfl ?_
      refine g_get (v := gi (A22 1 1)) C 1 1 (by omega) rfl rfl gu_2 (by decide) qf_X2_16 rfl dX2_append_110 ?_
      refine g_iconst (v := 1) C dX2_append_113 (by decide) ?_
      refine g_isub C dX2_append_114 ?_
      obtain ⟨rfl, rfl⟩ := Prod.mk.inj (Option.some.inj h)
      exact g_reti C hr dX2_append_115
    · have h := g_ff c2 h
      refine g_sub [] rfl ?_
      exact wX2_append_b16 hN C hr h

set_option maxHeartbeats 2000000 in
set_option maxRecDepth 20000 in
theorem kX2_append {l : Launch} {D : va_G} {g : gT} {N : Nat} {ad ln : Nat → Nat} (hN : 183 ≤ N) {A A' : gM} {x1 : Int32} {x2 : Int32} {x3 : Int32} {x4 : Int32} {x5 : Int32} {r : Int32} (h : mX2_append A x1 x2 x3 x4 x5 = some (A', r)) : gKi l yX2_append cX2_append 7 (some .int) (3) D g N ad ln A [gr 1, gi x1, gi x2, gi x3, gi x4, gi x5] A' r := by
  refine g_meti (by decide) (Nat.le_of_ble_eq_true rfl) ?_
  intro p e s m args below meth c C hr
  refine g_sub [0, 1, 2, 3, 4, 5] rfl ?_
  exact wX2_append_b0 hN C hr h
def mX2_dropLast_b17 (A : gM) : Option (gM) :=
  some A
def mX2_dropLast_b0 (A : gM) : Option (gM) :=
  if (A 1 1) ≤ 0 then
  mX2_dropLast_b17 A
  else
  g_let (g_up A 1 1 ((A 1 1) - 1)) fun A2 =>
  mX2_dropLast_b17 A2
def mX2_dropLast (A : gM) : Option (gM) := mX2_dropLast_b0 A
set_option maxHeartbeats 2000000 in
set_option maxRecDepth 20000 in
theorem wX2_dropLast_b17 (hN : 183 ≤ N) {A0 A' : gM} (C : gC p R s m args meth c cX2_dropLast RX2 1 D g (va_A (gw g ad ln A0 N) s.heap.size) 0) (hr : meth.sig.returnType = none)  {A : gM} (h : mX2_dropLast_b17 A = some A') : gJ p l e R s m args below meth c (gEv below D g N ad ln A0 A' args s) 1 D g (va_A (gw g ad ln A0 N) s.heap.size) N ad ln A [] 0 0 17 [] := by
  unfold mX2_dropLast_b17 at h
  obtain rfl := Option.some.inj h
  exact g_retv C hr dX2_dropLast_17

set_option maxHeartbeats 2000000 in
set_option maxRecDepth 20000 in
theorem wX2_dropLast_b0 (hN : 183 ≤ N) {A0 A' : gM} (C : gC p R s m args meth c cX2_dropLast RX2 1 D g (va_A (gw g ad ln A0 N) s.heap.size) 0) (hr : meth.sig.returnType = none)  {A : gM} (h : mX2_dropLast_b0 A = some A') : gJ p l e R s m args below meth c (gEv below D g N ad ln A0 A' args s) 1 D g (va_A (gw g ad ln A0 N) s.heap.size) N ad ln A [(0, gr 1)] 0 0 0 [] := by
  unfold mX2_dropLast_b0 at h
  refine g_aload_n C 0 dX2_dropLast_0 rfl ?_
  refine g_get (v := gi (A 1 1)) C 1 1 (by omega) rfl rfl gu_2 (by decide) qf_X2_16 rfl dX2_dropLast_1 ?_
  refine g_if_le C dX2_dropLast_4 (tgt := 17) (by decide) (fun c1 => ?_) (fun c1 => ?_)
  · have h := g_tt c1 h
    refine g_sub [] rfl ?_
    exact wX2_dropLast_b17 hN C hr h
  · have h := g_ff c1 h
    refine g_aload_n C 0 dX2_dropLast_7 rfl ?_
    refine g_dup_r C dX2_dropLast_8 ?_
    refine g_get (v := gi (A 1 1)) C 1 1 (by omega) rfl rfl gu_2 (by decide) qf_X2_16 rfl dX2_dropLast_9 ?_
    refine g_iconst (v := 1) C dX2_dropLast_12 (by decide) ?_
    refine g_isub C dX2_dropLast_13 ?_
    obtain ⟨A2, eA2, h⟩ := g_lt h
    refine g_put C 1 1 tyX2 tyX2_ok nmX2 (by omega) rfl rfl gu_2 (by decide) qf_X2_16 rfl (by decide +kernel) (Nat.le_of_ble_eq_true rfl) rfl eA2 dX2_dropLast_14 ?_
    refine g_sub [] rfl ?_
    exact wX2_dropLast_b17 hN C hr h

set_option maxHeartbeats 2000000 in
set_option maxRecDepth 20000 in
theorem kX2_dropLast {l : Launch} {D : va_G} {g : gT} {N : Nat} {ad ln : Nat → Nat} (hN : 183 ≤ N) {A A' : gM} (h : mX2_dropLast A = some A') : gKv l yX2_dropLast cX2_dropLast 1 (none) (0) D g N ad ln A [gr 1] A' := by
  refine g_metv (by decide) (Nat.le_of_ble_eq_true rfl) ?_
  intro p e s m args below meth c C hr
  refine g_sub [0] rfl ?_
  exact wX2_dropLast_b0 hN C hr h
end T42
end
section
theorem qf_X1_17 : Cond.fieldLink RX1 17 (TX1 1).1 (TX1 1).2.1 (TX1 1).2.2.1 ∈ gtb := g_tb (List.mem_of_getElem? (i := 144) (by decide +kernel)) (by decide +kernel)
theorem qf_X1_20 : Cond.fieldLink RX1 20 (TX1 2).1 (TX1 2).2.1 (TX1 2).2.2.1 ∈ gtb := g_tb (List.mem_of_getElem? (i := 145) (by decide +kernel)) (by decide +kernel)
theorem qf_X1_23 : Cond.fieldLink RX1 23 (TX1 3).1 (TX1 3).2.1 (TX1 3).2.2.1 ∈ gtb := g_tb (List.mem_of_getElem? (i := 146) (by decide +kernel)) (by decide +kernel)
theorem qf_X1_9 : Cond.fieldLink RX1 9 (TX1 0).1 (TX1 0).2.1 (TX1 0).2.2.1 ∈ gtb := g_tb (List.mem_of_getElem? (i := 143) (by decide +kernel)) (by decide +kernel)
theorem qf_X3_11 : Cond.fieldLink RX3 11 (TX3 0).1 (TX3 0).2.1 (TX3 0).2.2.1 ∈ gtb := g_tb (List.mem_of_getElem? (i := 77) (by decide +kernel)) (by decide +kernel)
theorem qf_X3_16 : Cond.fieldLink RX3 16 (TX3 1).1 (TX3 1).2.1 (TX3 1).2.2.1 ∈ gtb := g_tb (List.mem_of_getElem? (i := 78) (by decide +kernel)) (by decide +kernel)
theorem qf_X3_19 : Cond.fieldLink RX3 19 (TX3 2).1 (TX3 2).2.1 (TX3 2).2.2.1 ∈ gtb := g_tb (List.mem_of_getElem? (i := 79) (by decide +kernel)) (by decide +kernel)
theorem qm_X1_27 : g_siteM RX1 27 Lib.Math.min.name Lib.Math.min.code := ⟨g_tb (List.mem_of_getElem? (i := 333) (by decide +kernel)) (by decide +kernel), g_tb (List.mem_of_getElem? (i := 334) (by decide +kernel)) (by decide +kernel), g_tb (List.mem_of_getElem? (i := 39) (by decide +kernel)) (by decide +kernel), g_tb (List.mem_of_getElem? (i := 335) (by decide +kernel)) (by decide +kernel)⟩
theorem qm_X3_30 : g_siteM RX3 30 Lib.Math.min.name Lib.Math.min.code := ⟨g_tb (List.mem_of_getElem? (i := 486) (by decide +kernel)) (by decide +kernel), g_tb (List.mem_of_getElem? (i := 334) (by decide +kernel)) (by decide +kernel), g_tb (List.mem_of_getElem? (i := 39) (by decide +kernel)) (by decide +kernel), g_tb (List.mem_of_getElem? (i := 335) (by decide +kernel)) (by decide +kernel)⟩
theorem qm_X3_45 : g_siteM RX3 45 Lib.Math.max.name Lib.Math.max.code := ⟨g_tb (List.mem_of_getElem? (i := 472) (by decide +kernel)) (by decide +kernel), g_tb (List.mem_of_getElem? (i := 298) (by decide +kernel)) (by decide +kernel), g_tb (List.mem_of_getElem? (i := 39) (by decide +kernel)) (by decide +kernel), g_tb (List.mem_of_getElem? (i := 299) (by decide +kernel)) (by decide +kernel)⟩
theorem qs_X1_33 : g_site RX1 RX4 33 yX4_forgetMarks cX4_forgetMarks 1 (none) 0 := ⟨g_tb (List.mem_of_getElem? (i := 423) (by decide +kernel)) (by decide +kernel), g_tb (List.mem_of_getElem? (i := 408) (by decide +kernel)) (by decide +kernel), g_tb (List.mem_of_getElem? (i := 409) (by decide +kernel)) (by decide +kernel), g_tb (List.mem_of_getElem? (i := 37) (by decide +kernel)) (by decide +kernel), g_tb (List.mem_of_getElem? (i := 410) (by decide +kernel)) (by decide +kernel), ⟨rfl, by decide, by decide, by decide +kernel⟩, by decide⟩
theorem qs_X1_38 : g_site RX1 RX4 38 yX4_isNode cX4_isNode 2 (some .boolean) 1 := ⟨g_tb (List.mem_of_getElem? (i := 424) (by decide +kernel)) (by decide +kernel), g_tb (List.mem_of_getElem? (i := 354) (by decide +kernel)) (by decide +kernel), g_tb (List.mem_of_getElem? (i := 355) (by decide +kernel)) (by decide +kernel), g_tb (List.mem_of_getElem? (i := 37) (by decide +kernel)) (by decide +kernel), g_tb (List.mem_of_getElem? (i := 356) (by decide +kernel)) (by decide +kernel), ⟨rfl, by decide, by decide, by decide +kernel⟩, by decide⟩
theorem qs_X1_42 : g_site RX1 RX4 42 yX4_nodeOfCode cX4_nodeOfCode 2 (some .int) 1 := ⟨g_tb (List.mem_of_getElem? (i := 425) (by decide +kernel)) (by decide +kernel), g_tb (List.mem_of_getElem? (i := 358) (by decide +kernel)) (by decide +kernel), g_tb (List.mem_of_getElem? (i := 359) (by decide +kernel)) (by decide +kernel), g_tb (List.mem_of_getElem? (i := 37) (by decide +kernel)) (by decide +kernel), g_tb (List.mem_of_getElem? (i := 360) (by decide +kernel)) (by decide +kernel), ⟨rfl, by decide, by decide, by decide +kernel⟩, by decide⟩
theorem qs_X1_46 : g_site RX1 RX4 46 yX4_markWithin cX4_markWithin 5 (none) 1 := ⟨g_tb (List.mem_of_getElem? (i := 426) (by decide +kernel)) (by decide +kernel), g_tb (List.mem_of_getElem? (i := 412) (by decide +kernel)) (by decide +kernel), g_tb (List.mem_of_getElem? (i := 413) (by decide +kernel)) (by decide +kernel), g_tb (List.mem_of_getElem? (i := 37) (by decide +kernel)) (by decide +kernel), g_tb (List.mem_of_getElem? (i := 414) (by decide +kernel)) (by decide +kernel), ⟨rfl, by decide, by decide, by decide +kernel⟩, by decide⟩
theorem qs_X3_26 : g_site RX3 RX3 26 yX3_putFacts cX3_putFacts 6 (none) 4 := ⟨g_tb (List.mem_of_getElem? (i := 460) (by decide +kernel)) (by decide +kernel), g_tb (List.mem_of_getElem? (i := 462) (by decide +kernel)) (by decide +kernel), g_tb (List.mem_of_getElem? (i := 22) (by decide +kernel)) (by decide +kernel), g_tb (List.mem_of_getElem? (i := 35) (by decide +kernel)) (by decide +kernel), g_tb (List.mem_of_getElem? (i := 463) (by decide +kernel)) (by decide +kernel), ⟨rfl, by decide, by decide, by decide +kernel⟩, by decide⟩
theorem qs_X3_36 : g_site RX3 RX3 36 yX3_variablesIn cX3_variablesIn 5 (some .int) 2 := ⟨g_tb (List.mem_of_getElem? (i := 464) (by decide +kernel)) (by decide +kernel), g_tb (List.mem_of_getElem? (i := 466) (by decide +kernel)) (by decide +kernel), g_tb (List.mem_of_getElem? (i := 23) (by decide +kernel)) (by decide +kernel), g_tb (List.mem_of_getElem? (i := 35) (by decide +kernel)) (by decide +kernel), g_tb (List.mem_of_getElem? (i := 467) (by decide +kernel)) (by decide +kernel), ⟨rfl, by decide, by decide, by decide +kernel⟩, by decide⟩
theorem qs_X3_39 : g_site RX3 RX3 39 yX3_depthOf cX3_depthOf 6 (some .int) 2 := ⟨g_tb (List.mem_of_getElem? (i := 473) (by decide +kernel)) (by decide +kernel), g_tb (List.mem_of_getElem? (i := 475) (by decide +kernel)) (by decide +kernel), g_tb (List.mem_of_getElem? (i := 24) (by decide +kernel)) (by decide +kernel), g_tb (List.mem_of_getElem? (i := 35) (by decide +kernel)) (by decide +kernel), g_tb (List.mem_of_getElem? (i := 476) (by decide +kernel)) (by decide +kernel), ⟨rfl, by decide, by decide, by decide +kernel⟩, by decide⟩
theorem qs_X3_42 : g_site RX3 RX3 42 yX3_codeAt cX3_codeAt 4 (some .int) 2 := ⟨g_tb (List.mem_of_getElem? (i := 468) (by decide +kernel)) (by decide +kernel), g_tb (List.mem_of_getElem? (i := 469) (by decide +kernel)) (by decide +kernel), g_tb (List.mem_of_getElem? (i := 470) (by decide +kernel)) (by decide +kernel), g_tb (List.mem_of_getElem? (i := 35) (by decide +kernel)) (by decide +kernel), g_tb (List.mem_of_getElem? (i := 471) (by decide +kernel)) (by decide +kernel), ⟨rfl, by decide, by decide, by decide +kernel⟩, by decide⟩
theorem qs_X3_48 : g_site RX3 RX3 48 yX3_isPair cX3_isPair 2 (some .boolean) 1 := ⟨g_tb (List.mem_of_getElem? (i := 477) (by decide +kernel)) (by decide +kernel), g_tb (List.mem_of_getElem? (i := 479) (by decide +kernel)) (by decide +kernel), g_tb (List.mem_of_getElem? (i := 25) (by decide +kernel)) (by decide +kernel), g_tb (List.mem_of_getElem? (i := 35) (by decide +kernel)) (by decide +kernel), g_tb (List.mem_of_getElem? (i := 480) (by decide +kernel)) (by decide +kernel), ⟨rfl, by decide, by decide, by decide +kernel⟩, by decide⟩
theorem qs_X3_52 : g_site RX3 RX3 52 yX3_fact cX3_fact 4 (some .int) 2 := ⟨g_tb (List.mem_of_getElem? (i := 584) (by decide +kernel)) (by decide +kernel), g_tb (List.mem_of_getElem? (i := 556) (by decide +kernel)) (by decide +kernel), g_tb (List.mem_of_getElem? (i := 557) (by decide +kernel)) (by decide +kernel), g_tb (List.mem_of_getElem? (i := 35) (by decide +kernel)) (by decide +kernel), g_tb (List.mem_of_getElem? (i := 558) (by decide +kernel)) (by decide +kernel), ⟨rfl, by decide, by decide, by decide +kernel⟩, by decide⟩
theorem gu_1 : ∀ w ∈ wsX10, w ∈ gtb := by decide +kernel
theorem gu_3 : ∀ w ∈ wsX30, w ∈ gtb := by decide +kernel
theorem dX1_clear_0 : decode cX1_clear 0 = .ok (.aload_n 0, 1) := by decide +kernel
theorem dX1_clear_1 : decode cX1_clear 1 = .ok (.iconst 0, 1) := by decide +kernel
theorem dX1_clear_2 : decode cX1_clear 2 = .ok (.putfield 23, 3) := by decide +kernel
theorem dX1_clear_5 : decode cX1_clear 5 = .ok (.return_, 1) := by decide +kernel
theorem dX1_put_0 : decode cX1_put 0 = .ok (.aload_n 0, 1) := by decide +kernel
theorem dX1_put_1 : decode cX1_put 1 = .ok (.getfield 23, 3) := by decide +kernel
theorem dX1_put_4 : decode cX1_put 4 = .ok (.ifCond .lt 12, 3) := by decide +kernel
theorem dX1_put_7 : decode cX1_put 7 = .ok (.aload_n 0, 1) := by decide +kernel
theorem dX1_put_8 : decode cX1_put 8 = .ok (.getfield 23, 3) := by decide +kernel
theorem dX1_put_11 : decode cX1_put 11 = .ok (.bipush 40, 2) := by decide +kernel
theorem dX1_put_13 : decode cX1_put 13 = .ok (.if_icmp .lt 4, 3) := by decide +kernel
theorem dX1_put_16 : decode cX1_put 16 = .ok (.return_, 1) := by decide +kernel
theorem dX1_put_17 : decode cX1_put 17 = .ok (.aload_n 0, 1) := by decide +kernel
theorem dX1_put_18 : decode cX1_put 18 = .ok (.getfield 17, 3) := by decide +kernel
theorem dX1_put_21 : decode cX1_put 21 = .ok (.aload_n 0, 1) := by decide +kernel
theorem dX1_put_22 : decode cX1_put 22 = .ok (.getfield 23, 3) := by decide +kernel
theorem dX1_put_25 : decode cX1_put 25 = .ok (.aaload, 1) := by decide +kernel
theorem dX1_put_26 : decode cX1_put 26 = .ok (.astore 4, 2) := by decide +kernel
theorem dX1_put_28 : decode cX1_put 28 = .ok (.iconst 0, 1) := by decide +kernel
theorem dX1_put_29 : decode cX1_put 29 = .ok (.istore 5, 2) := by decide +kernel
theorem dX1_put_31 : decode cX1_put 31 = .ok (.iload 5, 2) := by decide +kernel
theorem dX1_put_33 : decode cX1_put 33 = .ok (.iload_n 3, 1) := by decide +kernel
theorem dX1_put_34 : decode cX1_put 34 = .ok (.if_icmp .ge 33, 3) := by decide +kernel
theorem dX1_put_37 : decode cX1_put 37 = .ok (.iload 5, 2) := by decide +kernel
theorem dX1_put_39 : decode cX1_put 39 = .ok (.aload_n 2, 1) := by decide +kernel
theorem dX1_put_40 : decode cX1_put 40 = .ok (.arraylength, 1) := by decide +kernel
theorem dX1_put_41 : decode cX1_put 41 = .ok (.if_icmp .ge 26, 3) := by decide +kernel
theorem dX1_put_44 : decode cX1_put 44 = .ok (.iload 5, 2) := by decide +kernel
theorem dX1_put_46 : decode cX1_put 46 = .ok (.aload 4, 2) := by decide +kernel
theorem dX1_put_48 : decode cX1_put 48 = .ok (.arraylength, 1) := by decide +kernel
theorem dX1_put_49 : decode cX1_put 49 = .ok (.if_icmp .ge 18, 3) := by decide +kernel
theorem dX1_put_52 : decode cX1_put 52 = .ok (.aload 4, 2) := by decide +kernel
theorem dX1_put_54 : decode cX1_put 54 = .ok (.iload 5, 2) := by decide +kernel
theorem dX1_put_56 : decode cX1_put 56 = .ok (.aload_n 2, 1) := by decide +kernel
theorem dX1_put_57 : decode cX1_put 57 = .ok (.iload 5, 2) := by decide +kernel
theorem dX1_put_59 : decode cX1_put 59 = .ok (.iaload, 1) := by decide +kernel
theorem dX1_put_60 : decode cX1_put 60 = .ok (.iastore, 1) := by decide +kernel
theorem dX1_put_61 : decode cX1_put 61 = .ok (.iinc 5 1, 3) := by decide +kernel
theorem dX1_put_64 : decode cX1_put 64 = .ok (.goto (-33), 3) := by decide +kernel
theorem dX1_put_67 : decode cX1_put 67 = .ok (.aload_n 0, 1) := by decide +kernel
theorem dX1_put_68 : decode cX1_put 68 = .ok (.getfield 9, 3) := by decide +kernel
theorem dX1_put_71 : decode cX1_put 71 = .ok (.aload_n 0, 1) := by decide +kernel
theorem dX1_put_72 : decode cX1_put 72 = .ok (.getfield 23, 3) := by decide +kernel
theorem dX1_put_75 : decode cX1_put 75 = .ok (.iload_n 1, 1) := by decide +kernel
theorem dX1_put_76 : decode cX1_put 76 = .ok (.iastore, 1) := by decide +kernel
theorem dX1_put_77 : decode cX1_put 77 = .ok (.aload_n 0, 1) := by decide +kernel
theorem dX1_put_78 : decode cX1_put 78 = .ok (.getfield 20, 3) := by decide +kernel
theorem dX1_put_81 : decode cX1_put 81 = .ok (.aload_n 0, 1) := by decide +kernel
theorem dX1_put_82 : decode cX1_put 82 = .ok (.getfield 23, 3) := by decide +kernel
theorem dX1_put_85 : decode cX1_put 85 = .ok (.iload_n 3, 1) := by decide +kernel
theorem dX1_put_86 : decode cX1_put 86 = .ok (.aload 4, 2) := by decide +kernel
theorem dX1_put_88 : decode cX1_put 88 = .ok (.arraylength, 1) := by decide +kernel
theorem dX1_put_89 : decode cX1_put 89 = .ok (.invokestatic 27, 3) := by decide +kernel
theorem dX1_put_92 : decode cX1_put 92 = .ok (.iastore, 1) := by decide +kernel
theorem dX1_put_93 : decode cX1_put 93 = .ok (.aload_n 0, 1) := by decide +kernel
theorem dX1_put_94 : decode cX1_put 94 = .ok (.dup, 1) := by decide +kernel
theorem dX1_put_95 : decode cX1_put 95 = .ok (.getfield 23, 3) := by decide +kernel
theorem dX1_put_98 : decode cX1_put 98 = .ok (.iconst 1, 1) := by decide +kernel
theorem dX1_put_99 : decode cX1_put 99 = .ok (.iadd, 1) := by decide +kernel
theorem dX1_put_100 : decode cX1_put 100 = .ok (.putfield 23, 3) := by decide +kernel
theorem dX1_put_103 : decode cX1_put 103 = .ok (.return_, 1) := by decide +kernel
theorem dX1_markAll_0 : decode cX1_markAll 0 = .ok (.aload_n 1, 1) := by decide +kernel
theorem dX1_markAll_1 : decode cX1_markAll 1 = .ok (.invokevirtual 33, 3) := by decide +kernel
theorem dX1_markAll_4 : decode cX1_markAll 4 = .ok (.iconst 0, 1) := by decide +kernel
theorem dX1_markAll_5 : decode cX1_markAll 5 = .ok (.istore_n 2, 1) := by decide +kernel
theorem dX1_markAll_6 : decode cX1_markAll 6 = .ok (.iload_n 2, 1) := by decide +kernel
theorem dX1_markAll_7 : decode cX1_markAll 7 = .ok (.aload_n 0, 1) := by decide +kernel
theorem dX1_markAll_8 : decode cX1_markAll 8 = .ok (.getfield 23, 3) := by decide +kernel
theorem dX1_markAll_11 : decode cX1_markAll 11 = .ok (.if_icmp .ge 72, 3) := by decide +kernel
theorem dX1_markAll_14 : decode cX1_markAll 14 = .ok (.iload_n 2, 1) := by decide +kernel
theorem dX1_markAll_15 : decode cX1_markAll 15 = .ok (.bipush 40, 2) := by decide +kernel
theorem dX1_markAll_17 : decode cX1_markAll 17 = .ok (.if_icmp .ge 66, 3) := by decide +kernel
theorem dX1_markAll_20 : decode cX1_markAll 20 = .ok (.aload_n 0, 1) := by decide +kernel
theorem dX1_markAll_21 : decode cX1_markAll 21 = .ok (.getfield 17, 3) := by decide +kernel
theorem dX1_markAll_24 : decode cX1_markAll 24 = .ok (.iload_n 2, 1) := by decide +kernel
theorem dX1_markAll_25 : decode cX1_markAll 25 = .ok (.aaload, 1) := by decide +kernel
theorem dX1_markAll_26 : decode cX1_markAll 26 = .ok (.astore_n 3, 1) := by decide +kernel
theorem dX1_markAll_27 : decode cX1_markAll 27 = .ok (.iconst 0, 1) := by decide +kernel
theorem dX1_markAll_28 : decode cX1_markAll 28 = .ok (.istore 4, 2) := by decide +kernel
theorem dX1_markAll_30 : decode cX1_markAll 30 = .ok (.iload 4, 2) := by decide +kernel
theorem dX1_markAll_32 : decode cX1_markAll 32 = .ok (.aload_n 0, 1) := by decide +kernel
theorem dX1_markAll_33 : decode cX1_markAll 33 = .ok (.getfield 20, 3) := by decide +kernel
theorem dX1_markAll_36 : decode cX1_markAll 36 = .ok (.iload_n 2, 1) := by decide +kernel
theorem dX1_markAll_37 : decode cX1_markAll 37 = .ok (.iaload, 1) := by decide +kernel
theorem dX1_markAll_38 : decode cX1_markAll 38 = .ok (.if_icmp .ge 39, 3) := by decide +kernel
theorem dX1_markAll_41 : decode cX1_markAll 41 = .ok (.iload 4, 2) := by decide +kernel
theorem dX1_markAll_43 : decode cX1_markAll 43 = .ok (.aload_n 3, 1) := by decide +kernel
theorem dX1_markAll_44 : decode cX1_markAll 44 = .ok (.arraylength, 1) := by decide +kernel
theorem dX1_markAll_45 : decode cX1_markAll 45 = .ok (.if_icmp .ge 32, 3) := by decide +kernel
theorem dX1_markAll_48 : decode cX1_markAll 48 = .ok (.aload_n 1, 1) := by decide +kernel
theorem dX1_markAll_49 : decode cX1_markAll 49 = .ok (.aload_n 3, 1) := by decide +kernel
theorem dX1_markAll_50 : decode cX1_markAll 50 = .ok (.iload 4, 2) := by decide +kernel
theorem dX1_markAll_52 : decode cX1_markAll 52 = .ok (.iaload, 1) := by decide +kernel
theorem dX1_markAll_53 : decode cX1_markAll 53 = .ok (.invokevirtual 38, 3) := by decide +kernel
theorem dX1_markAll_56 : decode cX1_markAll 56 = .ok (.ifCond .eq 15, 3) := by decide +kernel
theorem dX1_markAll_59 : decode cX1_markAll 59 = .ok (.aload_n 1, 1) := by decide +kernel
theorem dX1_markAll_60 : decode cX1_markAll 60 = .ok (.aload_n 1, 1) := by decide +kernel
theorem dX1_markAll_61 : decode cX1_markAll 61 = .ok (.aload_n 3, 1) := by decide +kernel
theorem dX1_markAll_62 : decode cX1_markAll 62 = .ok (.iload 4, 2) := by decide +kernel
theorem dX1_markAll_64 : decode cX1_markAll 64 = .ok (.iaload, 1) := by decide +kernel
theorem dX1_markAll_65 : decode cX1_markAll 65 = .ok (.invokevirtual 42, 3) := by decide +kernel
theorem dX1_markAll_68 : decode cX1_markAll 68 = .ok (.invokevirtual 46, 3) := by decide +kernel
theorem dX1_markAll_71 : decode cX1_markAll 71 = .ok (.iinc 4 1, 3) := by decide +kernel
theorem dX1_markAll_74 : decode cX1_markAll 74 = .ok (.goto (-44), 3) := by decide +kernel
theorem dX1_markAll_77 : decode cX1_markAll 77 = .ok (.iinc 2 1, 3) := by decide +kernel
theorem dX1_markAll_80 : decode cX1_markAll 80 = .ok (.goto (-74), 3) := by decide +kernel
theorem dX1_markAll_83 : decode cX1_markAll 83 = .ok (.return_, 1) := by decide +kernel
theorem dX1_dropLast_0 : decode cX1_dropLast 0 = .ok (.aload_n 0, 1) := by decide +kernel
theorem dX1_dropLast_1 : decode cX1_dropLast 1 = .ok (.getfield 23, 3) := by decide +kernel
theorem dX1_dropLast_4 : decode cX1_dropLast 4 = .ok (.ifCond .le 13, 3) := by decide +kernel
theorem dX1_dropLast_7 : decode cX1_dropLast 7 = .ok (.aload_n 0, 1) := by decide +kernel
theorem dX1_dropLast_8 : decode cX1_dropLast 8 = .ok (.dup, 1) := by decide +kernel
theorem dX1_dropLast_9 : decode cX1_dropLast 9 = .ok (.getfield 23, 3) := by decide +kernel
theorem dX1_dropLast_12 : decode cX1_dropLast 12 = .ok (.iconst 1, 1) := by decide +kernel
theorem dX1_dropLast_13 : decode cX1_dropLast 13 = .ok (.isub, 1) := by decide +kernel
theorem dX1_dropLast_14 : decode cX1_dropLast 14 = .ok (.putfield 23, 3) := by decide +kernel
theorem dX1_dropLast_17 : decode cX1_dropLast 17 = .ok (.return_, 1) := by decide +kernel
theorem dX1_latest_0 : decode cX1_latest 0 = .ok (.aload_n 0, 1) := by decide +kernel
theorem dX1_latest_1 : decode cX1_latest 1 = .ok (.getfield 23, 3) := by decide +kernel
theorem dX1_latest_4 : decode cX1_latest 4 = .ok (.bipush 40, 2) := by decide +kernel
theorem dX1_latest_6 : decode cX1_latest 6 = .ok (.invokestatic 27, 3) := by decide +kernel
theorem dX1_latest_9 : decode cX1_latest 9 = .ok (.iconst 1, 1) := by decide +kernel
theorem dX1_latest_10 : decode cX1_latest 10 = .ok (.isub, 1) := by decide +kernel
theorem dX1_latest_11 : decode cX1_latest 11 = .ok (.istore_n 2, 1) := by decide +kernel
theorem dX1_latest_12 : decode cX1_latest 12 = .ok (.iload_n 2, 1) := by decide +kernel
theorem dX1_latest_13 : decode cX1_latest 13 = .ok (.ifCond .lt 21, 3) := by decide +kernel
theorem dX1_latest_16 : decode cX1_latest 16 = .ok (.aload_n 0, 1) := by decide +kernel
theorem dX1_latest_17 : decode cX1_latest 17 = .ok (.getfield 9, 3) := by decide +kernel
theorem dX1_latest_20 : decode cX1_latest 20 = .ok (.iload_n 2, 1) := by decide +kernel
theorem dX1_latest_21 : decode cX1_latest 21 = .ok (.iaload, 1) := by decide +kernel
theorem dX1_latest_22 : decode cX1_latest 22 = .ok (.iload_n 1, 1) := by decide +kernel
theorem dX1_latest_23 : decode cX1_latest 23 = .ok (.if_icmp .ne 5, 3) := by decide +kernel
theorem dX1_latest_26 : decode cX1_latest 26 = .ok (.iload_n 2, 1) := by decide +kernel
theorem dX1_latest_27 : decode cX1_latest 27 = .ok (.ireturn, 1) := by decide +kernel
theorem dX1_latest_28 : decode cX1_latest 28 = .ok (.iinc 2 (-1), 3) := by decide +kernel
theorem dX1_latest_31 : decode cX1_latest 31 = .ok (.goto (-19), 3) := by decide +kernel
theorem dX1_latest_34 : decode cX1_latest 34 = .ok (.iconst (-1), 1) := by decide +kernel
theorem dX1_latest_35 : decode cX1_latest 35 = .ok (.ireturn, 1) := by decide +kernel
theorem dX1_rowAt_0 : decode cX1_rowAt 0 = .ok (.iload_n 1, 1) := by decide +kernel
theorem dX1_rowAt_1 : decode cX1_rowAt 1 = .ok (.ifCond .lt 18, 3) := by decide +kernel
theorem dX1_rowAt_4 : decode cX1_rowAt 4 = .ok (.iload_n 1, 1) := by decide +kernel
theorem dX1_rowAt_5 : decode cX1_rowAt 5 = .ok (.bipush 40, 2) := by decide +kernel
theorem dX1_rowAt_7 : decode cX1_rowAt 7 = .ok (.if_icmp .ge 12, 3) := by decide +kernel
theorem dX1_rowAt_10 : decode cX1_rowAt 10 = .ok (.aload_n 0, 1) := by decide +kernel
theorem dX1_rowAt_11 : decode cX1_rowAt 11 = .ok (.getfield 17, 3) := by decide +kernel
theorem dX1_rowAt_14 : decode cX1_rowAt 14 = .ok (.iload_n 1, 1) := by decide +kernel
theorem dX1_rowAt_15 : decode cX1_rowAt 15 = .ok (.aaload, 1) := by decide +kernel
theorem dX1_rowAt_16 : decode cX1_rowAt 16 = .ok (.goto 9, 3) := by decide +kernel
theorem dX1_rowAt_19 : decode cX1_rowAt 19 = .ok (.aload_n 0, 1) := by decide +kernel
theorem dX1_rowAt_20 : decode cX1_rowAt 20 = .ok (.getfield 17, 3) := by decide +kernel
theorem dX1_rowAt_23 : decode cX1_rowAt 23 = .ok (.iconst 0, 1) := by decide +kernel
theorem dX1_rowAt_24 : decode cX1_rowAt 24 = .ok (.aaload, 1) := by decide +kernel
theorem dX1_rowAt_25 : decode cX1_rowAt 25 = .ok (.areturn, 1) := by decide +kernel
theorem dX1_lengthAt_0 : decode cX1_lengthAt 0 = .ok (.iload_n 1, 1) := by decide +kernel
theorem dX1_lengthAt_1 : decode cX1_lengthAt 1 = .ok (.ifCond .lt 18, 3) := by decide +kernel
theorem dX1_lengthAt_4 : decode cX1_lengthAt 4 = .ok (.iload_n 1, 1) := by decide +kernel
theorem dX1_lengthAt_5 : decode cX1_lengthAt 5 = .ok (.bipush 40, 2) := by decide +kernel
theorem dX1_lengthAt_7 : decode cX1_lengthAt 7 = .ok (.if_icmp .ge 12, 3) := by decide +kernel
theorem dX1_lengthAt_10 : decode cX1_lengthAt 10 = .ok (.aload_n 0, 1) := by decide +kernel
theorem dX1_lengthAt_11 : decode cX1_lengthAt 11 = .ok (.getfield 20, 3) := by decide +kernel
theorem dX1_lengthAt_14 : decode cX1_lengthAt 14 = .ok (.iload_n 1, 1) := by decide +kernel
theorem dX1_lengthAt_15 : decode cX1_lengthAt 15 = .ok (.iaload, 1) := by decide +kernel
theorem dX1_lengthAt_16 : decode cX1_lengthAt 16 = .ok (.goto 4, 3) := by decide +kernel
theorem dX1_lengthAt_19 : decode cX1_lengthAt 19 = .ok (.iconst 0, 1) := by decide +kernel
theorem dX1_lengthAt_20 : decode cX1_lengthAt 20 = .ok (.ireturn, 1) := by decide +kernel
theorem dX3_fact_0 : decode cX3_fact 0 = .ok (.iload_n 1, 1) := by decide +kernel
theorem dX3_fact_1 : decode cX3_fact 1 = .ok (.ifCond .lt 13, 3) := by decide +kernel
theorem dX3_fact_4 : decode cX3_fact 4 = .ok (.iload_n 1, 1) := by decide +kernel
theorem dX3_fact_5 : decode cX3_fact 5 = .ok (.bipush 40, 2) := by decide +kernel
theorem dX3_fact_7 : decode cX3_fact 7 = .ok (.if_icmp .ge 7, 3) := by decide +kernel
theorem dX3_fact_10 : decode cX3_fact 10 = .ok (.iconst 1, 1) := by decide +kernel
theorem dX3_fact_11 : decode cX3_fact 11 = .ok (.goto 4, 3) := by decide +kernel
theorem dX3_fact_14 : decode cX3_fact 14 = .ok (.iconst 0, 1) := by decide +kernel
theorem dX3_fact_15 : decode cX3_fact 15 = .ok (.istore_n 3, 1) := by decide +kernel
theorem dX3_fact_16 : decode cX3_fact 16 = .ok (.iload_n 3, 1) := by decide +kernel
theorem dX3_fact_17 : decode cX3_fact 17 = .ok (.ifCond .eq 23, 3) := by decide +kernel
theorem dX3_fact_20 : decode cX3_fact 20 = .ok (.iload_n 2, 1) := by decide +kernel
theorem dX3_fact_21 : decode cX3_fact 21 = .ok (.ifCond .lt 19, 3) := by decide +kernel
theorem dX3_fact_24 : decode cX3_fact 24 = .ok (.iload_n 2, 1) := by decide +kernel
theorem dX3_fact_25 : decode cX3_fact 25 = .ok (.iconst 5, 1) := by decide +kernel
theorem dX3_fact_26 : decode cX3_fact 26 = .ok (.if_icmp .ge 14, 3) := by decide +kernel
theorem dX3_fact_29 : decode cX3_fact 29 = .ok (.aload_n 0, 1) := by decide +kernel
theorem dX3_fact_30 : decode cX3_fact 30 = .ok (.getfield 16, 3) := by decide +kernel
theorem dX3_fact_33 : decode cX3_fact 33 = .ok (.iload_n 1, 1) := by decide +kernel
theorem dX3_fact_34 : decode cX3_fact 34 = .ok (.aaload, 1) := by decide +kernel
theorem dX3_fact_35 : decode cX3_fact 35 = .ok (.iload_n 2, 1) := by decide +kernel
theorem dX3_fact_36 : decode cX3_fact 36 = .ok (.iaload, 1) := by decide +kernel
theorem dX3_fact_37 : decode cX3_fact 37 = .ok (.goto 4, 3) := by decide +kernel
theorem dX3_fact_40 : decode cX3_fact 40 = .ok (.iconst 0, 1) := by decide +kernel
theorem dX3_fact_41 : decode cX3_fact 41 = .ok (.ireturn, 1) := by decide +kernel
theorem dX3_codeAt_0 : decode cX3_codeAt 0 = .ok (.iload_n 1, 1) := by decide +kernel
theorem dX3_codeAt_1 : decode cX3_codeAt 1 = .ok (.ifCond .lt 13, 3) := by decide +kernel
theorem dX3_codeAt_4 : decode cX3_codeAt 4 = .ok (.iload_n 1, 1) := by decide +kernel
theorem dX3_codeAt_5 : decode cX3_codeAt 5 = .ok (.bipush 40, 2) := by decide +kernel
theorem dX3_codeAt_7 : decode cX3_codeAt 7 = .ok (.if_icmp .ge 7, 3) := by decide +kernel
theorem dX3_codeAt_10 : decode cX3_codeAt 10 = .ok (.iconst 1, 1) := by decide +kernel
theorem dX3_codeAt_11 : decode cX3_codeAt 11 = .ok (.goto 4, 3) := by decide +kernel
theorem dX3_codeAt_14 : decode cX3_codeAt 14 = .ok (.iconst 0, 1) := by decide +kernel
theorem dX3_codeAt_15 : decode cX3_codeAt 15 = .ok (.istore_n 3, 1) := by decide +kernel
theorem dX3_codeAt_16 : decode cX3_codeAt 16 = .ok (.iload_n 3, 1) := by decide +kernel
theorem dX3_codeAt_17 : decode cX3_codeAt 17 = .ok (.ifCond .eq 24, 3) := by decide +kernel
theorem dX3_codeAt_20 : decode cX3_codeAt 20 = .ok (.iload_n 2, 1) := by decide +kernel
theorem dX3_codeAt_21 : decode cX3_codeAt 21 = .ok (.ifCond .lt 20, 3) := by decide +kernel
theorem dX3_codeAt_24 : decode cX3_codeAt 24 = .ok (.iload_n 2, 1) := by decide +kernel
theorem dX3_codeAt_25 : decode cX3_codeAt 25 = .ok (.bipush 60, 2) := by decide +kernel
theorem dX3_codeAt_27 : decode cX3_codeAt 27 = .ok (.if_icmp .ge 14, 3) := by decide +kernel
theorem dX3_codeAt_30 : decode cX3_codeAt 30 = .ok (.aload_n 0, 1) := by decide +kernel
theorem dX3_codeAt_31 : decode cX3_codeAt 31 = .ok (.getfield 11, 3) := by decide +kernel
theorem dX3_codeAt_34 : decode cX3_codeAt 34 = .ok (.iload_n 1, 1) := by decide +kernel
theorem dX3_codeAt_35 : decode cX3_codeAt 35 = .ok (.aaload, 1) := by decide +kernel
theorem dX3_codeAt_36 : decode cX3_codeAt 36 = .ok (.iload_n 2, 1) := by decide +kernel
theorem dX3_codeAt_37 : decode cX3_codeAt 37 = .ok (.iaload, 1) := by decide +kernel
theorem dX3_codeAt_38 : decode cX3_codeAt 38 = .ok (.goto 4, 3) := by decide +kernel
theorem dX3_codeAt_41 : decode cX3_codeAt 41 = .ok (.iconst 0, 1) := by decide +kernel
theorem dX3_codeAt_42 : decode cX3_codeAt 42 = .ok (.ireturn, 1) := by decide +kernel
theorem dX3_isPair_0 : decode cX3_isPair 0 = .ok (.iload_n 1, 1) := by decide +kernel
theorem dX3_isPair_1 : decode cX3_isPair 1 = .ok (.iconst 2, 1) := by decide +kernel
theorem dX3_isPair_2 : decode cX3_isPair 2 = .ok (.if_icmp .eq 8, 3) := by decide +kernel
theorem dX3_isPair_5 : decode cX3_isPair 5 = .ok (.iload_n 1, 1) := by decide +kernel
theorem dX3_isPair_6 : decode cX3_isPair 6 = .ok (.iconst 3, 1) := by decide +kernel
theorem dX3_isPair_7 : decode cX3_isPair 7 = .ok (.if_icmp .ne 7, 3) := by decide +kernel
theorem dX3_isPair_10 : decode cX3_isPair 10 = .ok (.iconst 1, 1) := by decide +kernel
theorem dX3_isPair_11 : decode cX3_isPair 11 = .ok (.goto 4, 3) := by decide +kernel
theorem dX3_isPair_14 : decode cX3_isPair 14 = .ok (.iconst 0, 1) := by decide +kernel
theorem dX3_isPair_15 : decode cX3_isPair 15 = .ok (.ireturn, 1) := by decide +kernel
theorem dX3_variablesIn_0 : decode cX3_variablesIn 0 = .ok (.iconst 0, 1) := by decide +kernel
theorem dX3_variablesIn_1 : decode cX3_variablesIn 1 = .ok (.istore_n 3, 1) := by decide +kernel
theorem dX3_variablesIn_2 : decode cX3_variablesIn 2 = .ok (.iconst 0, 1) := by decide +kernel
theorem dX3_variablesIn_3 : decode cX3_variablesIn 3 = .ok (.istore 4, 2) := by decide +kernel
theorem dX3_variablesIn_5 : decode cX3_variablesIn 5 = .ok (.iload 4, 2) := by decide +kernel
theorem dX3_variablesIn_7 : decode cX3_variablesIn 7 = .ok (.iload_n 2, 1) := by decide +kernel
theorem dX3_variablesIn_8 : decode cX3_variablesIn 8 = .ok (.if_icmp .ge 26, 3) := by decide +kernel
theorem dX3_variablesIn_11 : decode cX3_variablesIn 11 = .ok (.iload_n 3, 1) := by decide +kernel
theorem dX3_variablesIn_12 : decode cX3_variablesIn 12 = .ok (.aload_n 0, 1) := by decide +kernel
theorem dX3_variablesIn_13 : decode cX3_variablesIn 13 = .ok (.iload_n 1, 1) := by decide +kernel
theorem dX3_variablesIn_14 : decode cX3_variablesIn 14 = .ok (.iload 4, 2) := by decide +kernel
theorem dX3_variablesIn_16 : decode cX3_variablesIn 16 = .ok (.invokevirtual 42, 3) := by decide +kernel
theorem dX3_variablesIn_19 : decode cX3_variablesIn 19 = .ok (.bipush 10, 2) := by decide +kernel
theorem dX3_variablesIn_21 : decode cX3_variablesIn 21 = .ok (.isub, 1) := by decide +kernel
theorem dX3_variablesIn_22 : decode cX3_variablesIn 22 = .ok (.iconst 1, 1) := by decide +kernel
theorem dX3_variablesIn_23 : decode cX3_variablesIn 23 = .ok (.iadd, 1) := by decide +kernel
theorem dX3_variablesIn_24 : decode cX3_variablesIn 24 = .ok (.invokestatic 45, 3) := by decide +kernel
theorem dX3_variablesIn_27 : decode cX3_variablesIn 27 = .ok (.istore_n 3, 1) := by decide +kernel
theorem dX3_variablesIn_28 : decode cX3_variablesIn 28 = .ok (.iinc 4 1, 3) := by decide +kernel
theorem dX3_variablesIn_31 : decode cX3_variablesIn 31 = .ok (.goto (-26), 3) := by decide +kernel
theorem dX3_variablesIn_34 : decode cX3_variablesIn 34 = .ok (.iload_n 3, 1) := by decide +kernel
theorem dX3_variablesIn_35 : decode cX3_variablesIn 35 = .ok (.ireturn, 1) := by decide +kernel
theorem dX3_depthOf_0 : decode cX3_depthOf 0 = .ok (.iconst 0, 1) := by decide +kernel
theorem dX3_depthOf_1 : decode cX3_depthOf 1 = .ok (.istore_n 3, 1) := by decide +kernel
theorem dX3_depthOf_2 : decode cX3_depthOf 2 = .ok (.iload_n 2, 1) := by decide +kernel
theorem dX3_depthOf_3 : decode cX3_depthOf 3 = .ok (.iconst 1, 1) := by decide +kernel
theorem dX3_depthOf_4 : decode cX3_depthOf 4 = .ok (.isub, 1) := by decide +kernel
theorem dX3_depthOf_5 : decode cX3_depthOf 5 = .ok (.istore 4, 2) := by decide +kernel
theorem dX3_depthOf_7 : decode cX3_depthOf 7 = .ok (.iload 4, 2) := by decide +kernel
theorem dX3_depthOf_9 : decode cX3_depthOf 9 = .ok (.ifCond .lt 74, 3) := by decide +kernel
theorem dX3_depthOf_12 : decode cX3_depthOf 12 = .ok (.iconst 1, 1) := by decide +kernel
theorem dX3_depthOf_13 : decode cX3_depthOf 13 = .ok (.istore 5, 2) := by decide +kernel
theorem dX3_depthOf_15 : decode cX3_depthOf 15 = .ok (.aload_n 0, 1) := by decide +kernel
theorem dX3_depthOf_16 : decode cX3_depthOf 16 = .ok (.aload_n 0, 1) := by decide +kernel
theorem dX3_depthOf_17 : decode cX3_depthOf 17 = .ok (.iload_n 1, 1) := by decide +kernel
theorem dX3_depthOf_18 : decode cX3_depthOf 18 = .ok (.iload 4, 2) := by decide +kernel
theorem dX3_depthOf_20 : decode cX3_depthOf 20 = .ok (.invokevirtual 42, 3) := by decide +kernel
theorem dX3_depthOf_23 : decode cX3_depthOf 23 = .ok (.invokevirtual 48, 3) := by decide +kernel
theorem dX3_depthOf_26 : decode cX3_depthOf 26 = .ok (.ifCond .eq 34, 3) := by decide +kernel
theorem dX3_depthOf_29 : decode cX3_depthOf 29 = .ok (.iload_n 3, 1) := by decide +kernel
theorem dX3_depthOf_30 : decode cX3_depthOf 30 = .ok (.iconst 2, 1) := by decide +kernel
theorem dX3_depthOf_31 : decode cX3_depthOf 31 = .ok (.if_icmp .lt 29, 3) := by decide +kernel
theorem dX3_depthOf_34 : decode cX3_depthOf 34 = .ok (.iconst 1, 1) := by decide +kernel
theorem dX3_depthOf_35 : decode cX3_depthOf 35 = .ok (.aload_n 0, 1) := by decide +kernel
theorem dX3_depthOf_36 : decode cX3_depthOf 36 = .ok (.getfield 19, 3) := by decide +kernel
theorem dX3_depthOf_39 : decode cX3_depthOf 39 = .ok (.iload_n 3, 1) := by decide +kernel
theorem dX3_depthOf_40 : decode cX3_depthOf 40 = .ok (.iconst 1, 1) := by decide +kernel
theorem dX3_depthOf_41 : decode cX3_depthOf 41 = .ok (.isub, 1) := by decide +kernel
theorem dX3_depthOf_42 : decode cX3_depthOf 42 = .ok (.iaload, 1) := by decide +kernel
theorem dX3_depthOf_43 : decode cX3_depthOf 43 = .ok (.aload_n 0, 1) := by decide +kernel
theorem dX3_depthOf_44 : decode cX3_depthOf 44 = .ok (.getfield 19, 3) := by decide +kernel
theorem dX3_depthOf_47 : decode cX3_depthOf 47 = .ok (.iload_n 3, 1) := by decide +kernel
theorem dX3_depthOf_48 : decode cX3_depthOf 48 = .ok (.iconst 2, 1) := by decide +kernel
theorem dX3_depthOf_49 : decode cX3_depthOf 49 = .ok (.isub, 1) := by decide +kernel
theorem dX3_depthOf_50 : decode cX3_depthOf 50 = .ok (.iaload, 1) := by decide +kernel
theorem dX3_depthOf_51 : decode cX3_depthOf 51 = .ok (.invokestatic 45, 3) := by decide +kernel
theorem dX3_depthOf_54 : decode cX3_depthOf 54 = .ok (.iadd, 1) := by decide +kernel
theorem dX3_depthOf_55 : decode cX3_depthOf 55 = .ok (.istore 5, 2) := by decide +kernel
theorem dX3_depthOf_57 : decode cX3_depthOf 57 = .ok (.iinc 3 (-2), 3) := by decide +kernel
theorem dX3_depthOf_60 : decode cX3_depthOf 60 = .ok (.iload_n 3, 1) := by decide +kernel
theorem dX3_depthOf_61 : decode cX3_depthOf 61 = .ok (.bipush 60, 2) := by decide +kernel
theorem dX3_depthOf_63 : decode cX3_depthOf 63 = .ok (.if_icmp .ge 14, 3) := by decide +kernel
theorem dX3_depthOf_66 : decode cX3_depthOf 66 = .ok (.aload_n 0, 1) := by decide +kernel
theorem dX3_depthOf_67 : decode cX3_depthOf 67 = .ok (.getfield 19, 3) := by decide +kernel
theorem dX3_depthOf_70 : decode cX3_depthOf 70 = .ok (.iload_n 3, 1) := by decide +kernel
theorem dX3_depthOf_71 : decode cX3_depthOf 71 = .ok (.iload 5, 2) := by decide +kernel
theorem dX3_depthOf_73 : decode cX3_depthOf 73 = .ok (.iastore, 1) := by decide +kernel
theorem dX3_depthOf_74 : decode cX3_depthOf 74 = .ok (.iinc 3 1, 3) := by decide +kernel
theorem dX3_depthOf_77 : decode cX3_depthOf 77 = .ok (.iinc 4 (-1), 3) := by decide +kernel
theorem dX3_depthOf_80 : decode cX3_depthOf 80 = .ok (.goto (-73), 3) := by decide +kernel
theorem dX3_depthOf_83 : decode cX3_depthOf 83 = .ok (.iload_n 3, 1) := by decide +kernel
theorem dX3_depthOf_84 : decode cX3_depthOf 84 = .ok (.ifCond .le 14, 3) := by decide +kernel
theorem dX3_depthOf_87 : decode cX3_depthOf 87 = .ok (.aload_n 0, 1) := by decide +kernel
theorem dX3_depthOf_88 : decode cX3_depthOf 88 = .ok (.getfield 19, 3) := by decide +kernel
theorem dX3_depthOf_91 : decode cX3_depthOf 91 = .ok (.iload_n 3, 1) := by decide +kernel
theorem dX3_depthOf_92 : decode cX3_depthOf 92 = .ok (.iconst 1, 1) := by decide +kernel
theorem dX3_depthOf_93 : decode cX3_depthOf 93 = .ok (.isub, 1) := by decide +kernel
theorem dX3_depthOf_94 : decode cX3_depthOf 94 = .ok (.iaload, 1) := by decide +kernel
theorem dX3_depthOf_95 : decode cX3_depthOf 95 = .ok (.goto 4, 3) := by decide +kernel
theorem dX3_depthOf_98 : decode cX3_depthOf 98 = .ok (.iconst 0, 1) := by decide +kernel
theorem dX3_depthOf_99 : decode cX3_depthOf 99 = .ok (.ireturn, 1) := by decide +kernel
theorem dX3_putFacts_0 : decode cX3_putFacts 0 = .ok (.iload_n 1, 1) := by decide +kernel
theorem dX3_putFacts_1 : decode cX3_putFacts 1 = .ok (.ifCond .lt 9, 3) := by decide +kernel
theorem dX3_putFacts_4 : decode cX3_putFacts 4 = .ok (.iload_n 1, 1) := by decide +kernel
theorem dX3_putFacts_5 : decode cX3_putFacts 5 = .ok (.bipush 40, 2) := by decide +kernel
theorem dX3_putFacts_7 : decode cX3_putFacts 7 = .ok (.if_icmp .lt 4, 3) := by decide +kernel
theorem dX3_putFacts_10 : decode cX3_putFacts 10 = .ok (.return_, 1) := by decide +kernel
theorem dX3_putFacts_11 : decode cX3_putFacts 11 = .ok (.aload_n 0, 1) := by decide +kernel
theorem dX3_putFacts_12 : decode cX3_putFacts 12 = .ok (.getfield 16, 3) := by decide +kernel
theorem dX3_putFacts_15 : decode cX3_putFacts 15 = .ok (.iload_n 1, 1) := by decide +kernel
theorem dX3_putFacts_16 : decode cX3_putFacts 16 = .ok (.aaload, 1) := by decide +kernel
theorem dX3_putFacts_17 : decode cX3_putFacts 17 = .ok (.astore 5, 2) := by decide +kernel
theorem dX3_putFacts_19 : decode cX3_putFacts 19 = .ok (.aload 5, 2) := by decide +kernel
theorem dX3_putFacts_21 : decode cX3_putFacts 21 = .ok (.iconst 0, 1) := by decide +kernel
theorem dX3_putFacts_22 : decode cX3_putFacts 22 = .ok (.iload_n 2, 1) := by decide +kernel
theorem dX3_putFacts_23 : decode cX3_putFacts 23 = .ok (.iastore, 1) := by decide +kernel
theorem dX3_putFacts_24 : decode cX3_putFacts 24 = .ok (.aload 5, 2) := by decide +kernel
theorem dX3_putFacts_26 : decode cX3_putFacts 26 = .ok (.iconst 1, 1) := by decide +kernel
theorem dX3_putFacts_27 : decode cX3_putFacts 27 = .ok (.iload_n 3, 1) := by decide +kernel
theorem dX3_putFacts_28 : decode cX3_putFacts 28 = .ok (.iastore, 1) := by decide +kernel
theorem dX3_putFacts_29 : decode cX3_putFacts 29 = .ok (.aload 5, 2) := by decide +kernel
theorem dX3_putFacts_31 : decode cX3_putFacts 31 = .ok (.iconst 2, 1) := by decide +kernel
theorem dX3_putFacts_32 : decode cX3_putFacts 32 = .ok (.iload 4, 2) := by decide +kernel
theorem dX3_putFacts_34 : decode cX3_putFacts 34 = .ok (.iastore, 1) := by decide +kernel
theorem dX3_putFacts_35 : decode cX3_putFacts 35 = .ok (.aload 5, 2) := by decide +kernel
theorem dX3_putFacts_37 : decode cX3_putFacts 37 = .ok (.iconst 3, 1) := by decide +kernel
theorem dX3_putFacts_38 : decode cX3_putFacts 38 = .ok (.aload_n 0, 1) := by decide +kernel
theorem dX3_putFacts_39 : decode cX3_putFacts 39 = .ok (.iload_n 1, 1) := by decide +kernel
theorem dX3_putFacts_40 : decode cX3_putFacts 40 = .ok (.iload 4, 2) := by decide +kernel
theorem dX3_putFacts_42 : decode cX3_putFacts 42 = .ok (.invokevirtual 36, 3) := by decide +kernel
theorem dX3_putFacts_45 : decode cX3_putFacts 45 = .ok (.iastore, 1) := by decide +kernel
theorem dX3_putFacts_46 : decode cX3_putFacts 46 = .ok (.aload 5, 2) := by decide +kernel
theorem dX3_putFacts_48 : decode cX3_putFacts 48 = .ok (.iconst 4, 1) := by decide +kernel
theorem dX3_putFacts_49 : decode cX3_putFacts 49 = .ok (.aload_n 0, 1) := by decide +kernel
theorem dX3_putFacts_50 : decode cX3_putFacts 50 = .ok (.iload_n 1, 1) := by decide +kernel
theorem dX3_putFacts_51 : decode cX3_putFacts 51 = .ok (.iload 4, 2) := by decide +kernel
theorem dX3_putFacts_53 : decode cX3_putFacts 53 = .ok (.invokevirtual 39, 3) := by decide +kernel
theorem dX3_putFacts_56 : decode cX3_putFacts 56 = .ok (.iastore, 1) := by decide +kernel
theorem dX3_putFacts_57 : decode cX3_putFacts 57 = .ok (.return_, 1) := by decide +kernel
theorem dX3_putFault_0 : decode cX3_putFault 0 = .ok (.aload_n 0, 1) := by decide +kernel
theorem dX3_putFault_1 : decode cX3_putFault 1 = .ok (.iload_n 1, 1) := by decide +kernel
theorem dX3_putFault_2 : decode cX3_putFault 2 = .ok (.iload_n 2, 1) := by decide +kernel
theorem dX3_putFault_3 : decode cX3_putFault 3 = .ok (.iload_n 3, 1) := by decide +kernel
theorem dX3_putFault_4 : decode cX3_putFault 4 = .ok (.iconst 0, 1) := by decide +kernel
theorem dX3_putFault_5 : decode cX3_putFault 5 = .ok (.invokevirtual 26, 3) := by decide +kernel
theorem dX3_putFault_8 : decode cX3_putFault 8 = .ok (.return_, 1) := by decide +kernel
theorem dX3_putRow_0 : decode cX3_putRow 0 = .ok (.iload_n 1, 1) := by decide +kernel
theorem dX3_putRow_1 : decode cX3_putRow 1 = .ok (.ifCond .lt 9, 3) := by decide +kernel
theorem dX3_putRow_4 : decode cX3_putRow 4 = .ok (.iload_n 1, 1) := by decide +kernel
theorem dX3_putRow_5 : decode cX3_putRow 5 = .ok (.bipush 40, 2) := by decide +kernel
theorem dX3_putRow_7 : decode cX3_putRow 7 = .ok (.if_icmp .lt 4, 3) := by decide +kernel
theorem dX3_putRow_10 : decode cX3_putRow 10 = .ok (.return_, 1) := by decide +kernel
theorem dX3_putRow_11 : decode cX3_putRow 11 = .ok (.aload_n 0, 1) := by decide +kernel
theorem dX3_putRow_12 : decode cX3_putRow 12 = .ok (.getfield 11, 3) := by decide +kernel
theorem dX3_putRow_15 : decode cX3_putRow 15 = .ok (.iload_n 1, 1) := by decide +kernel
theorem dX3_putRow_16 : decode cX3_putRow 16 = .ok (.aaload, 1) := by decide +kernel
theorem dX3_putRow_17 : decode cX3_putRow 17 = .ok (.astore 4, 2) := by decide +kernel
theorem dX3_putRow_19 : decode cX3_putRow 19 = .ok (.iconst 0, 1) := by decide +kernel
theorem dX3_putRow_20 : decode cX3_putRow 20 = .ok (.istore 5, 2) := by decide +kernel
theorem dX3_putRow_22 : decode cX3_putRow 22 = .ok (.iload 5, 2) := by decide +kernel
theorem dX3_putRow_24 : decode cX3_putRow 24 = .ok (.iload_n 3, 1) := by decide +kernel
theorem dX3_putRow_25 : decode cX3_putRow 25 = .ok (.if_icmp .ge 33, 3) := by decide +kernel
theorem dX3_putRow_28 : decode cX3_putRow 28 = .ok (.iload 5, 2) := by decide +kernel
theorem dX3_putRow_30 : decode cX3_putRow 30 = .ok (.aload_n 2, 1) := by decide +kernel
theorem dX3_putRow_31 : decode cX3_putRow 31 = .ok (.arraylength, 1) := by decide +kernel
theorem dX3_putRow_32 : decode cX3_putRow 32 = .ok (.if_icmp .ge 26, 3) := by decide +kernel
theorem dX3_putRow_35 : decode cX3_putRow 35 = .ok (.iload 5, 2) := by decide +kernel
theorem dX3_putRow_37 : decode cX3_putRow 37 = .ok (.aload 4, 2) := by decide +kernel
theorem dX3_putRow_39 : decode cX3_putRow 39 = .ok (.arraylength, 1) := by decide +kernel
theorem dX3_putRow_40 : decode cX3_putRow 40 = .ok (.if_icmp .ge 18, 3) := by decide +kernel
theorem dX3_putRow_43 : decode cX3_putRow 43 = .ok (.aload 4, 2) := by decide +kernel
theorem dX3_putRow_45 : decode cX3_putRow 45 = .ok (.iload 5, 2) := by decide +kernel
theorem dX3_putRow_47 : decode cX3_putRow 47 = .ok (.aload_n 2, 1) := by decide +kernel
theorem dX3_putRow_48 : decode cX3_putRow 48 = .ok (.iload 5, 2) := by decide +kernel
theorem dX3_putRow_50 : decode cX3_putRow 50 = .ok (.iaload, 1) := by decide +kernel
theorem dX3_putRow_51 : decode cX3_putRow 51 = .ok (.iastore, 1) := by decide +kernel
theorem dX3_putRow_52 : decode cX3_putRow 52 = .ok (.iinc 5 1, 3) := by decide +kernel
theorem dX3_putRow_55 : decode cX3_putRow 55 = .ok (.goto (-33), 3) := by decide +kernel
theorem dX3_putRow_58 : decode cX3_putRow 58 = .ok (.aload_n 0, 1) := by decide +kernel
theorem dX3_putRow_59 : decode cX3_putRow 59 = .ok (.iload_n 1, 1) := by decide +kernel
theorem dX3_putRow_60 : decode cX3_putRow 60 = .ok (.iconst 0, 1) := by decide +kernel
theorem dX3_putRow_61 : decode cX3_putRow 61 = .ok (.iconst (-1), 1) := by decide +kernel
theorem dX3_putRow_62 : decode cX3_putRow 62 = .ok (.iload_n 3, 1) := by decide +kernel
theorem dX3_putRow_63 : decode cX3_putRow 63 = .ok (.bipush 60, 2) := by decide +kernel
theorem dX3_putRow_65 : decode cX3_putRow 65 = .ok (.invokestatic 30, 3) := by decide +kernel
theorem dX3_putRow_68 : decode cX3_putRow 68 = .ok (.invokevirtual 26, 3) := by decide +kernel
theorem dX3_putRow_71 : decode cX3_putRow 71 = .ok (.return_, 1) := by decide +kernel
theorem dX3_alike_0 : decode cX3_alike 0 = .ok (.aload_n 0, 1) := by decide +kernel
theorem dX3_alike_1 : decode cX3_alike 1 = .ok (.iload_n 1, 1) := by decide +kernel
theorem dX3_alike_2 : decode cX3_alike 2 = .ok (.iconst 2, 1) := by decide +kernel
theorem dX3_alike_3 : decode cX3_alike 3 = .ok (.invokevirtual 52, 3) := by decide +kernel
theorem dX3_alike_6 : decode cX3_alike 6 = .ok (.istore_n 3, 1) := by decide +kernel
theorem dX3_alike_7 : decode cX3_alike 7 = .ok (.iload_n 3, 1) := by decide +kernel
theorem dX3_alike_8 : decode cX3_alike 8 = .ok (.aload_n 0, 1) := by decide +kernel
theorem dX3_alike_9 : decode cX3_alike 9 = .ok (.iload_n 2, 1) := by decide +kernel
theorem dX3_alike_10 : decode cX3_alike 10 = .ok (.iconst 2, 1) := by decide +kernel
theorem dX3_alike_11 : decode cX3_alike 11 = .ok (.invokevirtual 52, 3) := by decide +kernel
theorem dX3_alike_14 : decode cX3_alike 14 = .ok (.if_icmp .eq 5, 3) := by decide +kernel
theorem dX3_alike_17 : decode cX3_alike 17 = .ok (.iconst 0, 1) := by decide +kernel
theorem dX3_alike_18 : decode cX3_alike 18 = .ok (.ireturn, 1) := by decide +kernel
theorem dX3_alike_19 : decode cX3_alike 19 = .ok (.iconst 0, 1) := by decide +kernel
theorem dX3_alike_20 : decode cX3_alike 20 = .ok (.istore 4, 2) := by decide +kernel
theorem dX3_alike_22 : decode cX3_alike 22 = .ok (.iload 4, 2) := by decide +kernel
theorem dX3_alike_24 : decode cX3_alike 24 = .ok (.iload_n 3, 1) := by decide +kernel
theorem dX3_alike_25 : decode cX3_alike 25 = .ok (.if_icmp .ge 28, 3) := by decide +kernel
theorem dX3_alike_28 : decode cX3_alike 28 = .ok (.aload_n 0, 1) := by decide +kernel
theorem dX3_alike_29 : decode cX3_alike 29 = .ok (.iload_n 1, 1) := by decide +kernel
theorem dX3_alike_30 : decode cX3_alike 30 = .ok (.iload 4, 2) := by decide +kernel
theorem dX3_alike_32 : decode cX3_alike 32 = .ok (.invokevirtual 42, 3) := by decide +kernel
theorem dX3_alike_35 : decode cX3_alike 35 = .ok (.aload_n 0, 1) := by decide +kernel
theorem dX3_alike_36 : decode cX3_alike 36 = .ok (.iload_n 2, 1) := by decide +kernel
theorem dX3_alike_37 : decode cX3_alike 37 = .ok (.iload 4, 2) := by decide +kernel
theorem dX3_alike_39 : decode cX3_alike 39 = .ok (.invokevirtual 42, 3) := by decide +kernel
theorem dX3_alike_42 : decode cX3_alike 42 = .ok (.if_icmp .eq 5, 3) := by decide +kernel
theorem dX3_alike_45 : decode cX3_alike 45 = .ok (.iconst 0, 1) := by decide +kernel
theorem dX3_alike_46 : decode cX3_alike 46 = .ok (.ireturn, 1) := by decide +kernel
theorem dX3_alike_47 : decode cX3_alike 47 = .ok (.iinc 4 1, 3) := by decide +kernel
theorem dX3_alike_50 : decode cX3_alike 50 = .ok (.goto (-28), 3) := by decide +kernel
theorem dX3_alike_53 : decode cX3_alike 53 = .ok (.iconst 1, 1) := by decide +kernel
theorem dX3_alike_54 : decode cX3_alike 54 = .ok (.ireturn, 1) := by decide +kernel
section T1
variable {p : Program} {l : Launch} {e : Env} {R : Room} {s : State} {m : MethodId} {args : Array Value} {below : List Frame} {meth : Method} {c : Code} {D : va_G} {g : gT} {N : Nat} {ad ln : Nat → Nat}
def mX1_clear_b0 (A : gM) : Option (gM) :=
  g_let (g_up A 138 3 0) fun A1 =>
  some A1
def mX1_clear (A : gM) : Option (gM) := mX1_clear_b0 A
set_option maxHeartbeats 2000000 in
set_option maxRecDepth 20000 in
theorem wX1_clear_b0 (hN : 183 ≤ N) {A0 A' : gM} (C : gC p R s m args meth c cX1_clear RX1 1 D g (va_A (gw g ad ln A0 N) s.heap.size) 0) (hr : meth.sig.returnType = none)  {A : gM} (h : mX1_clear_b0 A = some A') : gJ p l e R s m args below meth c (gEv below D g N ad ln A0 A' args s) 1 D g (va_A (gw g ad ln A0 N) s.heap.size) N ad ln A [(0, gr 138)] 0 0 0 [] := by
  unfold mX1_clear_b0 at h
  refine g_aload_n C 0 dX1_clear_0 rfl ?_
  refine g_iconst (v := 0) C dX1_clear_1 (by decide) ?_
  obtain ⟨A1, eA1, h⟩ := g_lt h
  refine g_put C 138 3 tyX1 tyX1_ok nmX1 (by omega) rfl rfl gu_1 (by decide) qf_X1_23 rfl (by decide +kernel) (Nat.le_of_ble_eq_true rfl) rfl eA1 dX1_clear_2 ?_
  obtain rfl := Option.some.inj h
  exact g_retv C hr dX1_clear_5

set_option maxHeartbeats 2000000 in
set_option maxRecDepth 20000 in
theorem kX1_clear {l : Launch} {D : va_G} {g : gT} {N : Nat} {ad ln : Nat → Nat} (hN : 183 ≤ N) {A A' : gM} (h : mX1_clear A = some A') : gKv l yX1_clear cX1_clear 1 (none) (0) D g N ad ln A [gr 138] A' := by
  refine g_metv (by decide) (Nat.le_of_ble_eq_true rfl) ?_
  intro p e s m args below meth c C hr
  refine g_sub [0] rfl ?_
  exact wX1_clear_b0 hN C hr h
def mX1_put_b16 (A : gM) : Option (gM) :=
  some A
def mX1_put_b67 (A : gM) (x1 : Int32) (x3 : Int32) (x4 : Nat) : Option (gM) :=
  if g_in (A 138 3) 40 = true then g_let (g_up A 139 (A 138 3).toNatClampNeg x1) fun A2 =>
  if g_in (A2 138 3) 40 = true then g_let (g_up A2 181 (A2 138 3).toNatClampNeg (if 60 < x3 then 60 else x3)) fun A4 =>
  g_let (g_up A4 138 3 ((A4 138 3) + 1)) fun A5 =>
  some A5
  else none
  else none
def mX1_put_b31 (K31 : gM → Int32 → Int32 → Nat → Int32 → Option (gM)) (A : gM) (x1 : Int32) (x3 : Int32) (x4 : Nat) (x5 : Int32) : Option (gM) :=
  if x3 ≤ x5 then
  mX1_put_b67 A x1 x3 x4
  else
  if 60 ≤ x5 then
  mX1_put_b67 A x1 x3 x4
  else
  if 60 ≤ x5 then
  mX1_put_b67 A x1 x3 x4
  else
  if g_in x5 60 = true then
  if g_in x5 60 = true then g_let (g_up A x4 x5.toNatClampNeg (A 182 x5.toNatClampNeg)) fun A6 =>
  g_let (x5 + 1) fun v7 =>
  K31 A6 x1 x3 x4 v7
  else none
  else none
def mX1_put_L31 : Nat → gM → Int32 → Int32 → Nat → Int32 → Option (gM)
  | 0 => fun _ _ _ _ _ => none
  | f + 1 => mX1_put_b31 (mX1_put_L31 f)
def mX1_put_b0 (A : gM) (x1 : Int32) (x3 : Int32) : Option (gM) :=
  if (A 138 3) < 0 then
  mX1_put_b16 A
  else
  if (A 138 3) < 40 then
  if g_in (A 138 3) 40 = true then
  mX1_put_L31 gF A x1 x3 (141 + (A 138 3).toNatClampNeg) 0
  else none
  else
  mX1_put_b16 A
def mX1_put (A : gM) (x1 : Int32) (x3 : Int32) : Option (gM) := mX1_put_b0 A x1 x3
set_option maxHeartbeats 2000000 in
set_option maxRecDepth 20000 in
theorem wX1_put_b16 (hN : 183 ≤ N) {A0 A' : gM} (C : gC p R s m args meth c cX1_put RX1 6 D g (va_A (gw g ad ln A0 N) s.heap.size) 1) (hr : meth.sig.returnType = none)  {A : gM} (h : mX1_put_b16 A = some A') : gJ p l e R s m args below meth c (gEv below D g N ad ln A0 A' args s) 6 D g (va_A (gw g ad ln A0 N) s.heap.size) N ad ln A [] 0 0 16 [] := by
  unfold mX1_put_b16 at h
  obtain rfl := Option.some.inj h
  exact g_retv C hr dX1_put_16

set_option maxHeartbeats 2000000 in
set_option maxRecDepth 20000 in
theorem wX1_put_b67 (hN : 183 ≤ N) {A0 A' : gM} (C : gC p R s m args meth c cX1_put RX1 6 D g (va_A (gw g ad ln A0 N) s.heap.size) 1) (hr : meth.sig.returnType = none)  {A : gM} {x1 : Int32} {x3 : Int32} {x4 : Nat} (hx4 : (x4 < N ∧ g_isI x4 = true ∧ g_ln ln x4 = 60)) (h : mX1_put_b67 A x1 x3 x4 = some A') : gJ p l e R s m args below meth c (gEv below D g N ad ln A0 A' args s) 6 D g (va_A (gw g ad ln A0 N) s.heap.size) N ad ln A [(0, gr 138), (1, gi x1), (3, gi x3), (4, gr x4)] 0 0 67 [] := by
  unfold mX1_put_b67 at h
  refine g_aload_n C 0 dX1_put_67 rfl ?_
  refine g_get (v := gr 139) C 138 0 (by omega) rfl rfl gu_1 (by decide) qf_X1_9 rfl dX1_put_68 ?_
  refine g_aload_n C 0 dX1_put_71 rfl ?_
  refine g_get (v := gi (A 138 3)) C 138 3 (by omega) rfl rfl gu_1 (by decide) qf_X1_23 rfl dX1_put_72 ?_
  refine g_iload_n C 1 dX1_put_75 rfl ?_
  obtain ⟨hg1, h⟩ := g_gd h
  obtain ⟨A2, eA2, h⟩ := g_lt h
  refine g_iast C 139 (by omega) rfl rfl hg1 eA2 dX1_put_76 ?_
  refine g_aload_n C 0 dX1_put_77 rfl ?_
  refine g_get (v := gr 181) C 138 2 (by omega) rfl rfl gu_1 (by decide) qf_X1_20 rfl dX1_put_78 ?_
  refine g_aload_n C 0 dX1_put_81 rfl ?_
  refine g_get (v := gi (A2 138 3)) C 138 3 (by omega) rfl rfl gu_1 (by decide) qf_X1_23 rfl dX1_put_82 ?_
  refine g_iload_n C 2 dX1_put_85 rfl ?_
  refine g_aload C 3 dX1_put_86 rfl ?_
  refine g_alen (v := 60) C x4 hx4.1 hx4.2.1 (by rw [hx4.2.2]; rfl) dX1_put_88 ?_
  refine g_mmin C qm_X1_27 (by decide) (Nat.le_of_ble_eq_true rfl) ⟨Nat.zero_le _, Nat.zero_le _⟩ dX1_put_89 ?_
  obtain ⟨hg3, h⟩ := g_gd h
  obtain ⟨A4, eA4, h⟩ := g_lt h
  refine g_iast C 181 (by omega) rfl rfl hg3 eA4 dX1_put_92 ?_
  refine g_aload_n C 0 dX1_put_93 rfl ?_
  refine g_dup_r C dX1_put_94 ?_
  refine g_get (v := gi (A4 138 3)) C 138 3 (by omega) rfl rfl gu_1 (by decide) qf_X1_23 rfl dX1_put_95 ?_
  refine g_iconst (v := 1) C dX1_put_98 (by decide) ?_
  refine g_iadd C dX1_put_99 ?_
  obtain ⟨A5, eA5, h⟩ := g_lt h
  refine g_put C 138 3 tyX1 tyX1_ok nmX1 (by omega) rfl rfl gu_1 (by decide) qf_X1_23 rfl (by decide +kernel) (Nat.le_of_ble_eq_true rfl) rfl eA5 dX1_put_100 ?_
  obtain rfl := Option.some.inj h
  exact g_retv C hr dX1_put_103

set_option maxHeartbeats 2000000 in
set_option maxRecDepth 20000 in
theorem wX1_put_b31 (hN : 183 ≤ N) {A0 A' : gM} (C : gC p R s m args meth c cX1_put RX1 6 D g (va_A (gw g ad ln A0 N) s.heap.size) 1) (hr : meth.sig.returnType = none) {K31 : gM → Int32 → Int32 → Nat → Int32 → Option (gM)} (hK31 : ∀ {A : gM} {x1 : Int32} {x3 : Int32} {x4 : Nat} {x5 : Int32} (hx4 : (x4 < N ∧ g_isI x4 = true ∧ g_ln ln x4 = 60)), K31 A x1 x3 x4 x5 = some A' → gJ p l e R s m args below meth c (gEv below D g N ad ln A0 A' args s) 6 D g (va_A (gw g ad ln A0 N) s.heap.size) N ad ln A [(0, gr 138), (1, gi x1), (2, gr 182), (3, gi x3), (4, gr x4), (5, gi x5)] 0 0 31 []) {A : gM} {x1 : Int32} {x3 : Int32} {x4 : Nat} {x5 : Int32} (hx4 : (x4 < N ∧ g_isI x4 = true ∧ g_ln ln x4 = 60)) (h : mX1_put_b31 K31 A x1 x3 x4 x5 = some A') : gJ p l e R s m args below meth c (gEv below D g N ad ln A0 A' args s) 6 D g (va_A (gw g ad ln A0 N) s.heap.size) N ad ln A [(0, gr 138), (1, gi x1), (2, gr 182), (3, gi x3), (4, gr x4), (5, gi x5)] 0 0 31 [] := by
  unfold mX1_put_b31 at h
  refine g_iload C 5 dX1_put_31 rfl ?_
  refine g_iload_n C 3 dX1_put_33 rfl ?_
  refine g_icmp_ge C dX1_put_34 (tgt := 67) (by decide) (fun c1 => ?_) (fun c1 => ?_)
  · have h := g_tt c1 h
    refine g_sub [0, 1, 3, 4] rfl ?_
    exact wX1_put_b67 hN C hr hx4 h
  · have h := g_ff c1 h
    refine g_iload C 5 dX1_put_37 rfl ?_
    refine g_aload_n C 2 dX1_put_39 rfl ?_
    refine g_alen (v := 60) C 182 (by omega) rfl rfl dX1_put_40 ?_
    refine g_icmp_ge C dX1_put_41 (tgt := 67) (by decide) (fun c2 => ?_) (fun c2 => ?_)
    · have h := g_tt c2 h
      refine g_sub [0, 1, 3, 4] rfl ?_
      exact wX1_put_b67 hN C hr hx4 h
    · have h := g_ff c2 h
      refine g_iload C 5 dX1_put_44 rfl ?_
      refine g_aload C 4 dX1_put_46 rfl ?_
      refine g_alen (v := 60) C x4 hx4.1 hx4.2.1 (by rw [hx4.2.2]; rfl) dX1_put_48 ?_
      refine g_icmp_ge C dX1_put_49 (tgt := 67) (by decide) (fun c3 => ?_) (fun c3 => ?_)
      · have h := g_tt c3 h
        refine g_sub [0, 1, 3, 4] rfl ?_
        exact wX1_put_b67 hN C hr hx4 h
      · have h := g_ff c3 h
        refine g_aload C 4 dX1_put_52 rfl ?_
        refine g_iload C 5 dX1_put_54 rfl ?_
        refine g_aload_n C 2 dX1_put_56 rfl ?_
        refine g_iload C 5 dX1_put_57 rfl ?_
        obtain ⟨hg4, h⟩ := g_gd h
        refine g_iald C 182 (by omega) rfl rfl hg4 dX1_put_59 ?_
        obtain ⟨hg5, h⟩ := g_gd h
        obtain ⟨A6, eA6, h⟩ := g_lt h
        refine g_iast C x4 hx4.1 hx4.2.1 hx4.2.2 hg5 eA6 dX1_put_60 ?_
        obtain ⟨v7, ev7, h⟩ := g_lt h
        refine g_iinc C 5 dX1_put_61 rfl ev7 (by decide) rfl ?_
        refine g_goto C dX1_put_64 (tgt := 31) (by decide) ?_
        refine g_sub [1, 2, 3, 4, 5, 0] rfl ?_
        exact hK31 hx4 h

set_option maxHeartbeats 2000000 in
set_option maxRecDepth 20000 in
theorem wX1_put_L31 (hN : 183 ≤ N) {A0 A' : gM} (C : gC p R s m args meth c cX1_put RX1 6 D g (va_A (gw g ad ln A0 N) s.heap.size) 1) (hr : meth.sig.returnType = none)  : ∀ (f : Nat) {A : gM} {x1 : Int32} {x3 : Int32} {x4 : Nat} {x5 : Int32} (hx4 : (x4 < N ∧ g_isI x4 = true ∧ g_ln ln x4 = 60)), mX1_put_L31 f A x1 x3 x4 x5 = some A' → gJ p l e R s m args below meth c (gEv below D g N ad ln A0 A' args s) 6 D g (va_A (gw g ad ln A0 N) s.heap.size) N ad ln A [(0, gr 138), (1, gi x1), (2, gr 182), (3, gi x3), (4, gr x4), (5, gi x5)] 0 0 31 []
  | 0, A, x1, x3, x4, x5, hx4, h => by cases h
  | f + 1, A, x1, x3, x4, x5, hx4, h => wX1_put_b31 hN C hr (fun {A} {x1} {x3} {x4} {x5} hx4 h => wX1_put_L31 hN C hr f hx4 h) hx4 h
set_option maxHeartbeats 2000000 in
set_option maxRecDepth 20000 in
theorem wX1_put_b0 (hN : 183 ≤ N) {A0 A' : gM} (C : gC p R s m args meth c cX1_put RX1 6 D g (va_A (gw g ad ln A0 N) s.heap.size) 1) (hr : meth.sig.returnType = none)  {A : gM} {x1 : Int32} {x3 : Int32} (h : mX1_put_b0 A x1 x3 = some A') : gJ p l e R s m args below meth c (gEv below D g N ad ln A0 A' args s) 6 D g (va_A (gw g ad ln A0 N) s.heap.size) N ad ln A [(0, gr 138), (1, gi x1), (2, gr 182), (3, gi x3)] 0 0 0 [] := by
  unfold mX1_put_b0 at h
  refine g_aload_n C 0 dX1_put_0 rfl ?_
  refine g_get (v := gi (A 138 3)) C 138 3 (by omega) rfl rfl gu_1 (by decide) qf_X1_23 rfl dX1_put_1 ?_
  refine g_if_lt C dX1_put_4 (tgt := 16) (by decide) (fun c1 => ?_) (fun c1 => ?_)
  · have h := g_tt c1 h
    refine g_sub [] rfl ?_
    exact wX1_put_b16 hN C hr h
  · have h := g_ff c1 h
    refine g_aload_n C 0 dX1_put_7 rfl ?_
    refine g_get (v := gi (A 138 3)) C 138 3 (by omega) rfl rfl gu_1 (by decide) qf_X1_23 rfl dX1_put_8 ?_
    refine g_bipush (v := 40) C dX1_put_11 (by decide) ?_
    refine g_icmp_lt C dX1_put_13 (tgt := 17) (by decide) (fun c2 => ?_) (fun c2 => ?_)
    · have h := g_tt c2 h
      refine g_aload_n C 0 dX1_put_17 rfl ?_
      refine g_get (v := gr 140) C 138 1 (by omega) rfl rfl gu_1 (by decide) qf_X1_17 rfl dX1_put_18 ?_
      refine g_aload_n C 0 dX1_put_21 rfl ?_
      refine g_get (v := gi (A 138 3)) C 138 3 (by omega) rfl rfl gu_1 (by decide) qf_X1_23 rfl dX1_put_22 ?_
      obtain ⟨hg3, h⟩ := g_gd h
      refine g_aald C 140 141 (by omega) rfl hg3 dX1_put_25 ?_
      refine g_astore C dX1_put_26 (by decide) rfl ?_
      refine g_iconst (v := 0) C dX1_put_28 (by decide) ?_
      refine g_istore C dX1_put_29 (by decide) rfl ?_
      refine g_sub [2, 3, 4, 5, 1, 0] rfl ?_
      exact wX1_put_L31 hN C hr gF (g_row141 (ln := ln) hN hg3) h
    · have h := g_ff c2 h
      refine g_sub [] rfl ?_
      exact wX1_put_b16 hN C hr h

set_option maxHeartbeats 2000000 in
set_option maxRecDepth 20000 in
theorem kX1_put {l : Launch} {D : va_G} {g : gT} {N : Nat} {ad ln : Nat → Nat} (hN : 183 ≤ N) {A A' : gM} {x1 : Int32} {x3 : Int32} (h : mX1_put A x1 x3 = some A') : gKv l yX1_put cX1_put 6 (none) (1) D g N ad ln A [gr 138, gi x1, gr 182, gi x3] A' := by
  refine g_metv (by decide) (Nat.le_of_ble_eq_true rfl) ?_
  intro p e s m args below meth c C hr
  refine g_sub [0, 1, 2, 3] rfl ?_
  exact wX1_put_b0 hN C hr h
def mX1_markAll_b83 (A : gM) : Option (gM) :=
  some A
def mX1_markAll_b77 (K6 : gM → Int32 → Option (gM)) (A : gM) (x2 : Int32) : Option (gM) :=
  g_let (x2 + 1) fun v1 =>
  K6 A v1
def mX1_markAll_b71 (K6 : gM → Int32 → Option (gM)) (K30 : gM → Int32 → Nat → Int32 → Option (gM)) (A : gM) (x2 : Int32) (x3 : Nat) (x4 : Int32) : Option (gM) :=
  g_let (x4 + 1) fun v1 =>
  K30 A x2 x3 v1
def mX1_markAll_b30 (K6 : gM → Int32 → Option (gM)) (K30 : gM → Int32 → Nat → Int32 → Option (gM)) (A : gM) (x2 : Int32) (x3 : Nat) (x4 : Int32) : Option (gM) :=
  if g_in x2 40 = true then
  if (A 181 x2.toNatClampNeg) ≤ x4 then
  mX1_markAll_b77 K6 A x2
  else
  if 60 ≤ x4 then
  mX1_markAll_b77 K6 A x2
  else
  if g_in x4 60 = true then
  (mX4_isNode A (A x3 x4.toNatClampNeg)).bind fun q5 =>
  if q5.2 = 0 then
  mX1_markAll_b71 K6 K30 q5.1 x2 x3 x4
  else
  if g_in x4 60 = true then
  (mX4_nodeOfCode q5.1 (q5.1 x3 x4.toNatClampNeg)).bind fun q8 =>
  (mX4_markWithin q8.1 q8.2).bind fun q9 =>
  mX1_markAll_b71 K6 K30 q9 x2 x3 x4
  else none
  else none
  else none
def mX1_markAll_L30 (K6 : gM → Int32 → Option (gM)) : Nat → gM → Int32 → Nat → Int32 → Option (gM)
  | 0 => fun _ _ _ _ => none
  | f + 1 => mX1_markAll_b30 K6 (mX1_markAll_L30 K6 f)
def mX1_markAll_b6 (K6 : gM → Int32 → Option (gM)) (A : gM) (x2 : Int32) : Option (gM) :=
  if (A 138 3) ≤ x2 then
  mX1_markAll_b83 A
  else
  if 40 ≤ x2 then
  mX1_markAll_b83 A
  else
  if g_in x2 40 = true then
  mX1_markAll_L30 K6 gF A x2 (141 + x2.toNatClampNeg) 0
  else none
def mX1_markAll_L6 : Nat → gM → Int32 → Option (gM)
  | 0 => fun _ _ => none
  | f + 1 => mX1_markAll_b6 (mX1_markAll_L6 f)
def mX1_markAll_b0 (A : gM) : Option (gM) :=
  (mX4_forgetMarks A).bind fun q1 =>
  mX1_markAll_L6 gF q1 0
def mX1_markAll (A : gM) : Option (gM) := mX1_markAll_b0 A
set_option maxHeartbeats 2000000 in
set_option maxRecDepth 20000 in
theorem wX1_markAll_b83 (hN : 183 ≤ N) {A0 A' : gM} (C : gC p R s m args meth c cX1_markAll RX1 5 D g (va_A (gw g ad ln A0 N) s.heap.size) 2) (hr : meth.sig.returnType = none)  {A : gM} (h : mX1_markAll_b83 A = some A') : gJ p l e R s m args below meth c (gEv below D g N ad ln A0 A' args s) 5 D g (va_A (gw g ad ln A0 N) s.heap.size) N ad ln A [] 0 0 83 [] := by
  unfold mX1_markAll_b83 at h
  obtain rfl := Option.some.inj h
  exact g_retv C hr dX1_markAll_83

set_option maxHeartbeats 2000000 in
set_option maxRecDepth 20000 in
theorem wX1_markAll_b77 (hN : 183 ≤ N) {A0 A' : gM} (C : gC p R s m args meth c cX1_markAll RX1 5 D g (va_A (gw g ad ln A0 N) s.heap.size) 2) (hr : meth.sig.returnType = none) {K6 : gM → Int32 → Option (gM)} (hK6 : ∀ {A : gM} {x2 : Int32}, K6 A x2 = some A' → gJ p l e R s m args below meth c (gEv below D g N ad ln A0 A' args s) 5 D g (va_A (gw g ad ln A0 N) s.heap.size) N ad ln A [(0, gr 138), (1, gr 129), (2, gi x2)] 0 0 6 []) {A : gM} {x2 : Int32} (h : mX1_markAll_b77 K6 A x2 = some A') : gJ p l e R s m args below meth c (gEv below D g N ad ln A0 A' args s) 5 D g (va_A (gw g ad ln A0 N) s.heap.size) N ad ln A [(0, gr 138), (1, gr 129), (2, gi x2)] 0 0 77 [] := by
  unfold mX1_markAll_b77 at h
  obtain ⟨v1, ev1, h⟩ := g_lt h
  refine g_iinc C 2 dX1_markAll_77 rfl ev1 (by decide) rfl ?_
  refine g_goto C dX1_markAll_80 (tgt := 6) (by decide) ?_
  refine g_sub [1, 2, 0] rfl ?_
  exact hK6 h

set_option maxHeartbeats 2000000 in
set_option maxRecDepth 20000 in
theorem wX1_markAll_b71 (hN : 183 ≤ N) {A0 A' : gM} (C : gC p R s m args meth c cX1_markAll RX1 5 D g (va_A (gw g ad ln A0 N) s.heap.size) 2) (hr : meth.sig.returnType = none) {K6 : gM → Int32 → Option (gM)} {K30 : gM → Int32 → Nat → Int32 → Option (gM)} (hK6 : ∀ {A : gM} {x2 : Int32}, K6 A x2 = some A' → gJ p l e R s m args below meth c (gEv below D g N ad ln A0 A' args s) 5 D g (va_A (gw g ad ln A0 N) s.heap.size) N ad ln A [(0, gr 138), (1, gr 129), (2, gi x2)] 0 0 6 []) (hK30 : ∀ {A : gM} {x2 : Int32} {x3 : Nat} {x4 : Int32} (hx3 : (x3 < N ∧ g_isI x3 = true ∧ g_ln ln x3 = 60)), K30 A x2 x3 x4 = some A' → gJ p l e R s m args below meth c (gEv below D g N ad ln A0 A' args s) 5 D g (va_A (gw g ad ln A0 N) s.heap.size) N ad ln A [(0, gr 138), (1, gr 129), (2, gi x2), (3, gr x3), (4, gi x4)] 0 0 30 []) {A : gM} {x2 : Int32} {x3 : Nat} {x4 : Int32} (hx3 : (x3 < N ∧ g_isI x3 = true ∧ g_ln ln x3 = 60)) (h : mX1_markAll_b71 K6 K30 A x2 x3 x4 = some A') : gJ p l e R s m args below meth c (gEv below D g N ad ln A0 A' args s) 5 D g (va_A (gw g ad ln A0 N) s.heap.size) N ad ln A [(0, gr 138), (1, gr 129), (2, gi x2), (3, gr x3), (4, gi x4)] 0 0 71 [] := by
  unfold mX1_markAll_b71 at h
  obtain ⟨v1, ev1, h⟩ := g_lt h
  refine g_iinc C 4 dX1_markAll_71 rfl ev1 (by decide) rfl ?_
  refine g_goto C dX1_markAll_74 (tgt := 30) (by decide) ?_
  refine g_sub [1, 2, 3, 4, 0] rfl ?_
  exact hK30 hx3 h

set_option maxHeartbeats 2000000 in
set_option maxRecDepth 20000 in
theorem wX1_markAll_b30 (hN : 183 ≤ N) {A0 A' : gM} (C : gC p R s m args meth c cX1_markAll RX1 5 D g (va_A (gw g ad ln A0 N) s.heap.size) 2) (hr : meth.sig.returnType = none) {K6 : gM → Int32 → Option (gM)} {K30 : gM → Int32 → Nat → Int32 → Option (gM)} (hK6 : ∀ {A : gM} {x2 : Int32}, K6 A x2 = some A' → gJ p l e R s m args below meth c (gEv below D g N ad ln A0 A' args s) 5 D g (va_A (gw g ad ln A0 N) s.heap.size) N ad ln A [(0, gr 138), (1, gr 129), (2, gi x2)] 0 0 6 []) (hK30 : ∀ {A : gM} {x2 : Int32} {x3 : Nat} {x4 : Int32} (hx3 : (x3 < N ∧ g_isI x3 = true ∧ g_ln ln x3 = 60)), K30 A x2 x3 x4 = some A' → gJ p l e R s m args below meth c (gEv below D g N ad ln A0 A' args s) 5 D g (va_A (gw g ad ln A0 N) s.heap.size) N ad ln A [(0, gr 138), (1, gr 129), (2, gi x2), (3, gr x3), (4, gi x4)] 0 0 30 []) {A : gM} {x2 : Int32} {x3 : Nat} {x4 : Int32} (hx3 : (x3 < N ∧ g_isI x3 = true ∧ g_ln ln x3 = 60)) (h : mX1_markAll_b30 K6 K30 A x2 x3 x4 = some A') : gJ p l e R s m args below meth c (gEv below D g N ad ln A0 A' args s) 5 D g (va_A (gw g ad ln A0 N) s.heap.size) N ad ln A [(0, gr 138), (1, gr 129), (2, gi x2), (3, gr x3), (4, gi x4)] 0 0 30 [] := by
  unfold mX1_markAll_b30 at h
  refine g_iload C 4 dX1_markAll_30 rfl ?_
  refine g_aload_n C 0 dX1_markAll_32 rfl ?_
  refine g_get (v := gr 181) C 138 2 (by omega) rfl rfl gu_1 (by decide) qf_X1_20 rfl dX1_markAll_33 ?_
  refine g_iload_n C 2 dX1_markAll_36 rfl ?_
  obtain ⟨hg1, h⟩ := g_gd h
  refine g_iald C 181 (by omega) rfl rfl hg1 dX1_markAll_37 ?_
  refine g_icmp_ge C dX1_markAll_38 (tgt := 77) (by decide) (fun c2 => ?_) (fun c2 => ?_)
  · have h := g_tt c2 h
    refine g_sub [0, 1, 2] rfl ?_
    exact wX1_markAll_b77 hN C hr hK6 h
  · have h := g_ff c2 h
    refine g_iload C 4 dX1_markAll_41 rfl ?_
    refine g_aload_n C 3 dX1_markAll_43 rfl ?_
    refine g_alen (v := 60) C x3 hx3.1 hx3.2.1 (by rw [hx3.2.2]; rfl) dX1_markAll_44 ?_
    refine g_icmp_ge C dX1_markAll_45 (tgt := 77) (by decide) (fun c3 => ?_) (fun c3 => ?_)
    · have h := g_tt c3 h
      refine g_sub [0, 1, 2] rfl ?_
      exact wX1_markAll_b77 hN C hr hK6 h
    · have h := g_ff c3 h
      refine g_aload_n C 1 dX1_markAll_48 rfl ?_
      refine g_aload_n C 3 dX1_markAll_49 rfl ?_
      refine g_iload C 4 dX1_markAll_50 rfl ?_
      obtain ⟨hg4, h⟩ := g_gd h
      refine g_iald C x3 hx3.1 hx3.2.1 hx3.2.2 hg4 dX1_markAll_52 ?_
      obtain ⟨q5, eq5, h⟩ := g_bd h
      refine g_calliV C 129 [gi (A x3 x4.toNatClampNeg)] (kX4_isNode hN eq5) qs_X1_38 (by omega) (by omega) rfl rfl rfl rfl (Nat.le_of_ble_eq_true rfl) ⟨Nat.zero_le _, Nat.zero_le _⟩ dX1_markAll_53 ?_
      refine g_if_eq C dX1_markAll_56 (tgt := 71) (by decide) (fun c6 => ?_) (fun c6 => ?_)
      · have h := g_tt c6 h
        refine g_sub [0, 1, 2, 3, 4] rfl ?_
        exact wX1_markAll_b71 hN C hr hK6 hK30 hx3 h
      · have h := g_ff c6 h
        refine g_aload_n C 1 dX1_markAll_59 rfl ?_
        refine g_aload_n C 1 dX1_markAll_60 rfl ?_
        refine g_aload_n C 3 dX1_markAll_61 rfl ?_
        refine g_iload C 4 dX1_markAll_62 rfl ?_
        obtain ⟨hg7, h⟩ := g_gd h
        refine g_iald C x3 hx3.1 hx3.2.1 hx3.2.2 hg7 dX1_markAll_64 ?_
        obtain ⟨q8, eq8, h⟩ := g_bd h
        refine g_calliV C 129 [gi (q5.1 x3 x4.toNatClampNeg)] (kX4_nodeOfCode hN eq8) qs_X1_42 (by omega) (by omega) rfl rfl rfl rfl (Nat.le_of_ble_eq_true rfl) ⟨Nat.zero_le _, Nat.zero_le _⟩ dX1_markAll_65 ?_
        obtain ⟨q9, eq9, h⟩ := g_bd h
        refine g_callvV C 129 [gi q8.2] (kX4_markWithin hN eq9) qs_X1_46 (by omega) (by omega) rfl rfl rfl rfl (Nat.le_of_ble_eq_true rfl) ⟨Nat.zero_le _, Nat.zero_le _⟩ dX1_markAll_68 ?_
        refine g_sub [0, 1, 2, 3, 4] rfl ?_
        exact wX1_markAll_b71 hN C hr hK6 hK30 hx3 h

set_option maxHeartbeats 2000000 in
set_option maxRecDepth 20000 in
theorem wX1_markAll_L30 (hN : 183 ≤ N) {A0 A' : gM} (C : gC p R s m args meth c cX1_markAll RX1 5 D g (va_A (gw g ad ln A0 N) s.heap.size) 2) (hr : meth.sig.returnType = none) {K6 : gM → Int32 → Option (gM)} (hK6 : ∀ {A : gM} {x2 : Int32}, K6 A x2 = some A' → gJ p l e R s m args below meth c (gEv below D g N ad ln A0 A' args s) 5 D g (va_A (gw g ad ln A0 N) s.heap.size) N ad ln A [(0, gr 138), (1, gr 129), (2, gi x2)] 0 0 6 []) : ∀ (f : Nat) {A : gM} {x2 : Int32} {x3 : Nat} {x4 : Int32} (hx3 : (x3 < N ∧ g_isI x3 = true ∧ g_ln ln x3 = 60)), mX1_markAll_L30 K6 f A x2 x3 x4 = some A' → gJ p l e R s m args below meth c (gEv below D g N ad ln A0 A' args s) 5 D g (va_A (gw g ad ln A0 N) s.heap.size) N ad ln A [(0, gr 138), (1, gr 129), (2, gi x2), (3, gr x3), (4, gi x4)] 0 0 30 []
  | 0, A, x2, x3, x4, hx3, h => by cases h
  | f + 1, A, x2, x3, x4, hx3, h => wX1_markAll_b30 hN C hr hK6 (fun {A} {x2} {x3} {x4} hx3 h => wX1_markAll_L30 hN C hr hK6 f hx3 h) hx3 h
set_option maxHeartbeats 2000000 in
set_option maxRecDepth 20000 in
theorem wX1_markAll_b6 (hN : 183 ≤ N) {A0 A' : gM} (C : gC p R s m args meth c cX1_markAll RX1 5 D g (va_A (gw g ad ln A0 N) s.heap.size) 2) (hr : meth.sig.returnType = none) {K6 : gM → Int32 → Option (gM)} (hK6 : ∀ {A : gM} {x2 : Int32}, K6 A x2 = some A' → gJ p l e R s m args below meth c (gEv below D g N ad ln A0 A' args s) 5 D g (va_A (gw g ad ln A0 N) s.heap.size) N ad ln A [(0, gr 138), (1, gr 129), (2, gi x2)] 0 0 6 []) {A : gM} {x2 : Int32} (h : mX1_markAll_b6 K6 A x2 = some A') : gJ p l e R s m args below meth c (gEv below D g N ad ln A0 A' args s) 5 D g (va_A (gw g ad ln A0 N) s.heap.size) N ad ln A [(0, gr 138), (1, gr 129), (2, gi x2)] 0 0 6 [] := by
  unfold mX1_markAll_b6 at h
  refine g_iload_n C 2 dX1_markAll_6 rfl ?_
  refine g_aload_n C 0 dX1_markAll_7 rfl ?_
  refine g_get (v := gi (A 138 3)) C 138 3 (by omega) rfl rfl gu_1 (by decide) qf_X1_23 rfl dX1_markAll_8 ?_
  refine g_icmp_ge C dX1_markAll_11 (tgt := 83) (by decide) (fun c1 => ?_) (fun c1 => ?_)
  · have h := g_tt c1 h
    refine g_sub [] rfl ?_
    exact wX1_markAll_b83 hN C hr h
  · have h := g_ff c1 h
    refine g_iload_n C 2 dX1_markAll_14 rfl ?_
    refine g_bipush (v := 40) C dX1_markAll_15 (by decide) ?_
    refine g_icmp_ge C dX1_markAll_17 (tgt := 83) (by decide) (fun c2 => ?_) (fun c2 => ?_)
    · have h := g_tt c2 h
      refine g_sub [] rfl ?_
      exact wX1_markAll_b83 hN C hr h
    · have h := g_ff c2 h
      refine g_aload_n C 0 dX1_markAll_20 rfl ?_
      refine g_get (v := gr 140) C 138 1 (by omega) rfl rfl gu_1 (by decide) qf_X1_17 rfl dX1_markAll_21 ?_
      refine g_iload_n C 2 dX1_markAll_24 rfl ?_
      obtain ⟨hg3, h⟩ := g_gd h
      refine g_aald C 140 141 (by omega) rfl hg3 dX1_markAll_25 ?_
      refine g_astore_n C dX1_markAll_26 (by decide) rfl ?_
      refine g_iconst (v := 0) C dX1_markAll_27 (by decide) ?_
      refine g_istore C dX1_markAll_28 (by decide) rfl ?_
      refine g_sub [2, 3, 4, 1, 0] rfl ?_
      exact wX1_markAll_L30 hN C hr hK6 gF (g_row141 (ln := ln) hN hg3) h

set_option maxHeartbeats 2000000 in
set_option maxRecDepth 20000 in
theorem wX1_markAll_L6 (hN : 183 ≤ N) {A0 A' : gM} (C : gC p R s m args meth c cX1_markAll RX1 5 D g (va_A (gw g ad ln A0 N) s.heap.size) 2) (hr : meth.sig.returnType = none)  : ∀ (f : Nat) {A : gM} {x2 : Int32}, mX1_markAll_L6 f A x2 = some A' → gJ p l e R s m args below meth c (gEv below D g N ad ln A0 A' args s) 5 D g (va_A (gw g ad ln A0 N) s.heap.size) N ad ln A [(0, gr 138), (1, gr 129), (2, gi x2)] 0 0 6 []
  | 0, A, x2, h => by cases h
  | f + 1, A, x2, h => wX1_markAll_b6 hN C hr (fun {A} {x2} h => wX1_markAll_L6 hN C hr f h) h
set_option maxHeartbeats 2000000 in
set_option maxRecDepth 20000 in
theorem wX1_markAll_b0 (hN : 183 ≤ N) {A0 A' : gM} (C : gC p R s m args meth c cX1_markAll RX1 5 D g (va_A (gw g ad ln A0 N) s.heap.size) 2) (hr : meth.sig.returnType = none)  {A : gM} (h : mX1_markAll_b0 A = some A') : gJ p l e R s m args below meth c (gEv below D g N ad ln A0 A' args s) 5 D g (va_A (gw g ad ln A0 N) s.heap.size) N ad ln A [(0, gr 138), (1, gr 129)] 0 0 0 [] := by
  unfold mX1_markAll_b0 at h
  refine g_aload_n C 1 dX1_markAll_0 rfl ?_
  obtain ⟨q1, eq1, h⟩ := g_bd h
  refine g_callvV C 129 [] (kX4_forgetMarks hN eq1) qs_X1_33 (by omega) (by omega) rfl rfl rfl rfl (Nat.le_of_ble_eq_true rfl) ⟨Nat.zero_le _, Nat.zero_le _⟩ dX1_markAll_1 ?_
  refine g_iconst (v := 0) C dX1_markAll_4 (by decide) ?_
  refine g_istore_n C dX1_markAll_5 (by decide) rfl ?_
  refine g_sub [1, 2, 0] rfl ?_
  exact wX1_markAll_L6 hN C hr gF h

set_option maxHeartbeats 2000000 in
set_option maxRecDepth 20000 in
theorem kX1_markAll {l : Launch} {D : va_G} {g : gT} {N : Nat} {ad ln : Nat → Nat} (hN : 183 ≤ N) {A A' : gM} (h : mX1_markAll A = some A') : gKv l yX1_markAll cX1_markAll 5 (none) (2) D g N ad ln A [gr 138, gr 129] A' := by
  refine g_metv (by decide) (Nat.le_of_ble_eq_true rfl) ?_
  intro p e s m args below meth c C hr
  refine g_sub [0, 1] rfl ?_
  exact wX1_markAll_b0 hN C hr h
def mX1_dropLast_b17 (A : gM) : Option (gM) :=
  some A
def mX1_dropLast_b0 (A : gM) : Option (gM) :=
  if (A 138 3) ≤ 0 then
  mX1_dropLast_b17 A
  else
  g_let (g_up A 138 3 ((A 138 3) - 1)) fun A2 =>
  mX1_dropLast_b17 A2
def mX1_dropLast (A : gM) : Option (gM) := mX1_dropLast_b0 A
set_option maxHeartbeats 2000000 in
set_option maxRecDepth 20000 in
theorem wX1_dropLast_b17 (hN : 183 ≤ N) {A0 A' : gM} (C : gC p R s m args meth c cX1_dropLast RX1 1 D g (va_A (gw g ad ln A0 N) s.heap.size) 0) (hr : meth.sig.returnType = none)  {A : gM} (h : mX1_dropLast_b17 A = some A') : gJ p l e R s m args below meth c (gEv below D g N ad ln A0 A' args s) 1 D g (va_A (gw g ad ln A0 N) s.heap.size) N ad ln A [] 0 0 17 [] := by
  unfold mX1_dropLast_b17 at h
  obtain rfl := Option.some.inj h
  exact g_retv C hr dX1_dropLast_17

set_option maxHeartbeats 2000000 in
set_option maxRecDepth 20000 in
theorem wX1_dropLast_b0 (hN : 183 ≤ N) {A0 A' : gM} (C : gC p R s m args meth c cX1_dropLast RX1 1 D g (va_A (gw g ad ln A0 N) s.heap.size) 0) (hr : meth.sig.returnType = none)  {A : gM} (h : mX1_dropLast_b0 A = some A') : gJ p l e R s m args below meth c (gEv below D g N ad ln A0 A' args s) 1 D g (va_A (gw g ad ln A0 N) s.heap.size) N ad ln A [(0, gr 138)] 0 0 0 [] := by
  unfold mX1_dropLast_b0 at h
  refine g_aload_n C 0 dX1_dropLast_0 rfl ?_
  refine g_get (v := gi (A 138 3)) C 138 3 (by omega) rfl rfl gu_1 (by decide) qf_X1_23 rfl dX1_dropLast_1 ?_
  refine g_if_le C dX1_dropLast_4 (tgt := 17) (by decide) (fun c1 => ?_) (fun c1 => ?_)
  · have h := g_tt c1 h
    refine g_sub [] rfl ?_
    exact wX1_dropLast_b17 hN C hr h
  · have h := g_ff c1 h
    refine g_aload_n C 0 dX1_dropLast_7 rfl ?_
    refine g_dup_r C dX1_dropLast_8 ?_
    refine g_get (v := gi (A 138 3)) C 138 3 (by omega) rfl rfl gu_1 (by decide) qf_X1_23 rfl dX1_dropLast_9 ?_
    refine g_iconst (v := 1) C dX1_dropLast_12 (by decide) ?_
    refine g_isub C dX1_dropLast_13 ?_
    obtain ⟨A2, eA2, h⟩ := g_lt h
    refine g_put C 138 3 tyX1 tyX1_ok nmX1 (by omega) rfl rfl gu_1 (by decide) qf_X1_23 rfl (by decide +kernel) (Nat.le_of_ble_eq_true rfl) rfl eA2 dX1_dropLast_14 ?_
    refine g_sub [] rfl ?_
    exact wX1_dropLast_b17 hN C hr h

set_option maxHeartbeats 2000000 in
set_option maxRecDepth 20000 in
theorem kX1_dropLast {l : Launch} {D : va_G} {g : gT} {N : Nat} {ad ln : Nat → Nat} (hN : 183 ≤ N) {A A' : gM} (h : mX1_dropLast A = some A') : gKv l yX1_dropLast cX1_dropLast 1 (none) (0) D g N ad ln A [gr 138] A' := by
  refine g_metv (by decide) (Nat.le_of_ble_eq_true rfl) ?_
  intro p e s m args below meth c C hr
  refine g_sub [0] rfl ?_
  exact wX1_dropLast_b0 hN C hr h
def mX1_latest_b12 (K12 : gM → Int32 → Int32 → Option (gM × Int32)) (A : gM) (x1 : Int32) (x2 : Int32) : Option (gM × Int32) :=
  if x2 < 0 then
  some (A, (-1))
  else
  if g_in x2 40 = true then
  if (A 139 x2.toNatClampNeg) = x1 then
  some (A, x2)
  else
  g_let (x2 + (-1)) fun v4 =>
  K12 A x1 v4
  else none
def mX1_latest_L12 : Nat → gM → Int32 → Int32 → Option (gM × Int32)
  | 0 => fun _ _ _ => none
  | f + 1 => mX1_latest_b12 (mX1_latest_L12 f)
def mX1_latest_b0 (A : gM) (x1 : Int32) : Option (gM × Int32) :=
  g_let ((if 40 < (A 138 3) then 40 else (A 138 3)) - 1) fun v1 =>
  mX1_latest_L12 gF A x1 v1
def mX1_latest (A : gM) (x1 : Int32) : Option (gM × Int32) := mX1_latest_b0 A x1
set_option maxHeartbeats 2000000 in
set_option maxRecDepth 20000 in
theorem wX1_latest_b12 (hN : 183 ≤ N) {A0 A' : gM} {r : Int32} (C : gC p R s m args meth c cX1_latest RX1 3 D g (va_A (gw g ad ln A0 N) s.heap.size) 1) (hr : meth.sig.returnType = some .int) {K12 : gM → Int32 → Int32 → Option (gM × Int32)} (hK12 : ∀ {A : gM} {x1 : Int32} {x2 : Int32}, K12 A x1 x2 = some (A', r) → gJ p l e R s m args below meth c (gEi below D g N ad ln A0 A' r args s) 3 D g (va_A (gw g ad ln A0 N) s.heap.size) N ad ln A [(0, gr 138), (1, gi x1), (2, gi x2)] 0 0 12 []) {A : gM} {x1 : Int32} {x2 : Int32} (h : mX1_latest_b12 K12 A x1 x2 = some (A', r)) : gJ p l e R s m args below meth c (gEi below D g N ad ln A0 A' r args s) 3 D g (va_A (gw g ad ln A0 N) s.heap.size) N ad ln A [(0, gr 138), (1, gi x1), (2, gi x2)] 0 0 12 [] := by
  unfold mX1_latest_b12 at h
  refine g_iload_n C 2 dX1_latest_12 rfl ?_
  refine g_if_lt C dX1_latest_13 (tgt := 34) (by decide) (fun c1 => ?_) (fun c1 => ?_)
  · have h := g_tt c1 h
    refine g_iconst (v := (-1)) C dX1_latest_34 (by decide) ?_
    obtain ⟨rfl, rfl⟩ := Prod.mk.inj (Option.some.inj h)
    exact g_reti C hr dX1_latest_35
  · have h := g_ff c1 h
    refine g_aload_n C 0 dX1_latest_16 rfl ?_
    refine g_get (v := gr 139) C 138 0 (by omega) rfl rfl gu_1 (by decide) qf_X1_9 rfl dX1_latest_17 ?_
    refine g_iload_n C 2 dX1_latest_20 rfl ?_
    obtain ⟨hg2, h⟩ := g_gd h
    refine g_iald C 139 (by omega) rfl rfl hg2 dX1_latest_21 ?_
    refine g_iload_n C 1 dX1_latest_22 rfl ?_
    refine g_icmp_ne C dX1_latest_23 (tgt := 28) (by decide) (fun c3 => ?_) (fun c3 => ?_)
    · have h := g_ff c3 h
      obtain ⟨v4, ev4, h⟩ := g_lt h
      refine g_iinc C 2 dX1_latest_28 rfl ev4 (by decide) rfl ?_
      refine g_goto C dX1_latest_31 (tgt := 12) (by decide) ?_
      refine g_sub [1, 2, 0] rfl ?_
      exact hK12 h
    · have h := g_tt c3 h
      refine g_iload_n C 2 dX1_latest_26 rfl ?_
      obtain ⟨rfl, rfl⟩ := Prod.mk.inj (Option.some.inj h)
      exact g_reti C hr dX1_latest_27

set_option maxHeartbeats 2000000 in
set_option maxRecDepth 20000 in
theorem wX1_latest_L12 (hN : 183 ≤ N) {A0 A' : gM} {r : Int32} (C : gC p R s m args meth c cX1_latest RX1 3 D g (va_A (gw g ad ln A0 N) s.heap.size) 1) (hr : meth.sig.returnType = some .int)  : ∀ (f : Nat) {A : gM} {x1 : Int32} {x2 : Int32}, mX1_latest_L12 f A x1 x2 = some (A', r) → gJ p l e R s m args below meth c (gEi below D g N ad ln A0 A' r args s) 3 D g (va_A (gw g ad ln A0 N) s.heap.size) N ad ln A [(0, gr 138), (1, gi x1), (2, gi x2)] 0 0 12 []
  | 0, A, x1, x2, h => by cases h
  | f + 1, A, x1, x2, h => wX1_latest_b12 hN C hr (fun {A} {x1} {x2} h => wX1_latest_L12 hN C hr f h) h
set_option maxHeartbeats 2000000 in
set_option maxRecDepth 20000 in
theorem wX1_latest_b0 (hN : 183 ≤ N) {A0 A' : gM} {r : Int32} (C : gC p R s m args meth c cX1_latest RX1 3 D g (va_A (gw g ad ln A0 N) s.heap.size) 1) (hr : meth.sig.returnType = some .int)  {A : gM} {x1 : Int32} (h : mX1_latest_b0 A x1 = some (A', r)) : gJ p l e R s m args below meth c (gEi below D g N ad ln A0 A' r args s) 3 D g (va_A (gw g ad ln A0 N) s.heap.size) N ad ln A [(0, gr 138), (1, gi x1)] 0 0 0 [] := by
  unfold mX1_latest_b0 at h
  refine g_aload_n C 0 dX1_latest_0 rfl ?_
  refine g_get (v := gi (A 138 3)) C 138 3 (by omega) rfl rfl gu_1 (by decide) qf_X1_23 rfl dX1_latest_1 ?_
  refine g_bipush (v := 40) C dX1_latest_4 (by decide) ?_
  refine g_mmin C qm_X1_27 (by decide) (Nat.le_of_ble_eq_true rfl) ⟨Nat.zero_le _, Nat.zero_le _⟩ dX1_latest_6 ?_
  refine g_iconst (v := 1) C dX1_latest_9 (by decide) ?_
  refine g_isub C dX1_latest_10 ?_
  obtain ⟨v1, ev1, h⟩ := g_lt h
  refine g_topi ev1 ?_
  refine g_istore_n C dX1_latest_11 (by decide) rfl ?_
  refine g_sub [1, 2, 0] rfl ?_
  exact wX1_latest_L12 hN C hr gF h

set_option maxHeartbeats 2000000 in
set_option maxRecDepth 20000 in
theorem kX1_latest {l : Launch} {D : va_G} {g : gT} {N : Nat} {ad ln : Nat → Nat} (hN : 183 ≤ N) {A A' : gM} {x1 : Int32} {r : Int32} (h : mX1_latest A x1 = some (A', r)) : gKi l yX1_latest cX1_latest 3 (some .int) (1) D g N ad ln A [gr 138, gi x1] A' r := by
  refine g_meti (by decide) (Nat.le_of_ble_eq_true rfl) ?_
  intro p e s m args below meth c C hr
  refine g_sub [0, 1] rfl ?_
  exact wX1_latest_b0 hN C hr h
def mX1_rowAt_b25 (A : gM) (s0 : Nat) : Option (gM × Nat) :=
  some (A, s0)
def mX1_rowAt_b19 (A : gM) : Option (gM × Nat) :=
  if g_in 0 40 = true then
  mX1_rowAt_b25 A (141 + (0 : Int32).toNatClampNeg)
  else none
def mX1_rowAt_b0 (A : gM) (x1 : Int32) : Option (gM × Nat) :=
  if x1 < 0 then
  mX1_rowAt_b19 A
  else
  if 40 ≤ x1 then
  mX1_rowAt_b19 A
  else
  if g_in x1 40 = true then
  mX1_rowAt_b25 A (141 + x1.toNatClampNeg)
  else none
def mX1_rowAt (A : gM) (x1 : Int32) : Option (gM × Nat) := mX1_rowAt_b0 A x1
set_option maxHeartbeats 2000000 in
set_option maxRecDepth 20000 in
theorem wX1_rowAt_b25 (hN : 183 ≤ N) {A0 A' : gM} {r : Nat} (C : gC p R s m args meth c cX1_rowAt RX1 2 D g (va_A (gw g ad ln A0 N) s.heap.size) 0) (hr : meth.sig.returnType = some (.array .int))  {A : gM} {s0 : Nat} (hs0 : (s0 < N ∧ g_isI s0 = true ∧ g_ln ln s0 = 60)) (h : mX1_rowAt_b25 A s0 = some (A', r)) : gJ p l e R s m args below meth c (gEr below D g N ad ln A0 A' r args s) 2 D g (va_A (gw g ad ln A0 N) s.heap.size) N ad ln A [] 0 0 25 [gr s0] := by
  unfold mX1_rowAt_b25 at h
  obtain ⟨rfl, rfl⟩ := Prod.mk.inj (Option.some.inj h)
  exact g_retr C hr (Or.inr ⟨_, rfl⟩) dX1_rowAt_25

set_option maxHeartbeats 2000000 in
set_option maxRecDepth 20000 in
theorem wX1_rowAt_b19 (hN : 183 ≤ N) {A0 A' : gM} {r : Nat} (C : gC p R s m args meth c cX1_rowAt RX1 2 D g (va_A (gw g ad ln A0 N) s.heap.size) 0) (hr : meth.sig.returnType = some (.array .int))  {A : gM} (h : mX1_rowAt_b19 A = some (A', r)) : gJ p l e R s m args below meth c (gEr below D g N ad ln A0 A' r args s) 2 D g (va_A (gw g ad ln A0 N) s.heap.size) N ad ln A [(0, gr 138)] 0 0 19 [] := by
  unfold mX1_rowAt_b19 at h
  refine g_aload_n C 0 dX1_rowAt_19 rfl ?_
  refine g_get (v := gr 140) C 138 1 (by omega) rfl rfl gu_1 (by decide) qf_X1_17 rfl dX1_rowAt_20 ?_
  refine g_iconst (v := 0) C dX1_rowAt_23 (by decide) ?_
  obtain ⟨hg1, h⟩ := g_gd h
  refine g_aald C 140 141 (by omega) rfl hg1 dX1_rowAt_24 ?_
  refine g_sub [] rfl ?_
  exact wX1_rowAt_b25 hN C hr (g_row141 (ln := ln) hN hg1) h

set_option maxHeartbeats 2000000 in
set_option maxRecDepth 20000 in
theorem wX1_rowAt_b0 (hN : 183 ≤ N) {A0 A' : gM} {r : Nat} (C : gC p R s m args meth c cX1_rowAt RX1 2 D g (va_A (gw g ad ln A0 N) s.heap.size) 0) (hr : meth.sig.returnType = some (.array .int))  {A : gM} {x1 : Int32} (h : mX1_rowAt_b0 A x1 = some (A', r)) : gJ p l e R s m args below meth c (gEr below D g N ad ln A0 A' r args s) 2 D g (va_A (gw g ad ln A0 N) s.heap.size) N ad ln A [(0, gr 138), (1, gi x1)] 0 0 0 [] := by
  unfold mX1_rowAt_b0 at h
  refine g_iload_n C 1 dX1_rowAt_0 rfl ?_
  refine g_if_lt C dX1_rowAt_1 (tgt := 19) (by decide) (fun c1 => ?_) (fun c1 => ?_)
  · have h := g_tt c1 h
    refine g_sub [0] rfl ?_
    exact wX1_rowAt_b19 hN C hr h
  · have h := g_ff c1 h
    refine g_iload_n C 1 dX1_rowAt_4 rfl ?_
    refine g_bipush (v := 40) C dX1_rowAt_5 (by decide) ?_
    refine g_icmp_ge C dX1_rowAt_7 (tgt := 19) (by decide) (fun c2 => ?_) (fun c2 => ?_)
    · have h := g_tt c2 h
      refine g_sub [0] rfl ?_
      exact wX1_rowAt_b19 hN C hr h
    · have h := g_ff c2 h
      refine g_aload_n C 0 dX1_rowAt_10 rfl ?_
      refine g_get (v := gr 140) C 138 1 (by omega) rfl rfl gu_1 (by decide) qf_X1_17 rfl dX1_rowAt_11 ?_
      refine g_iload_n C 1 dX1_rowAt_14 rfl ?_
      obtain ⟨hg3, h⟩ := g_gd h
      refine g_aald C 140 141 (by omega) rfl hg3 dX1_rowAt_15 ?_
      refine g_goto C dX1_rowAt_16 (tgt := 25) (by decide) ?_
      refine g_sub [] rfl ?_
      exact wX1_rowAt_b25 hN C hr (g_row141 (ln := ln) hN hg3) h

set_option maxHeartbeats 2000000 in
set_option maxRecDepth 20000 in
theorem kX1_rowAt {l : Launch} {D : va_G} {g : gT} {N : Nat} {ad ln : Nat → Nat} (hN : 183 ≤ N) {A A' : gM} {x1 : Int32} {r : Nat} (h : mX1_rowAt A x1 = some (A', r)) : gKr l yX1_rowAt cX1_rowAt 2 (some (.array .int)) (0) D g N ad ln A [gr 138, gi x1] A' r := by
  refine g_metr (by decide) (Nat.le_of_ble_eq_true rfl) ?_
  intro p e s m args below meth c C hr
  refine g_sub [0, 1] rfl ?_
  exact wX1_rowAt_b0 hN C hr h
set_option maxHeartbeats 2000000 in
set_option maxRecDepth 20000 in
theorem mX1_rowAt_ok {N : Nat} {ln : Nat → Nat} {A : gM} {x : Int32} {q : gM × Nat} (hN : 183 ≤ N) (h : mX1_rowAt A x = some q) : q.2 < N ∧ g_isI q.2 = true ∧ g_ln ln q.2 = 60 := by
  unfold mX1_rowAt mX1_rowAt_b0 mX1_rowAt_b19 mX1_rowAt_b25 at h
  by_cases c1 : x < 0
  · obtain ⟨h0, h⟩ := g_gd (g_tt c1 h)
    rw [← Option.some.inj h]
    exact g_row141 hN h0
  · have h := g_ff c1 h
    by_cases c2 : 40 ≤ x
    · obtain ⟨h0, h⟩ := g_gd (g_tt c2 h)
      rw [← Option.some.inj h]
      exact g_row141 hN h0
    · obtain ⟨h0, h⟩ := g_gd (g_ff c2 h)
      rw [← Option.some.inj h]
      exact g_row141 hN h0
def mX1_lengthAt_b20 (A : gM) (s0 : Int32) : Option (gM × Int32) :=
  some (A, s0)
def mX1_lengthAt_b19 (A : gM) : Option (gM × Int32) :=
  mX1_lengthAt_b20 A 0
def mX1_lengthAt_b0 (A : gM) (x1 : Int32) : Option (gM × Int32) :=
  if x1 < 0 then
  mX1_lengthAt_b19 A
  else
  if 40 ≤ x1 then
  mX1_lengthAt_b19 A
  else
  if g_in x1 40 = true then
  mX1_lengthAt_b20 A (A 181 x1.toNatClampNeg)
  else none
def mX1_lengthAt (A : gM) (x1 : Int32) : Option (gM × Int32) := mX1_lengthAt_b0 A x1
set_option maxHeartbeats 2000000 in
set_option maxRecDepth 20000 in
theorem wX1_lengthAt_b20 (hN : 183 ≤ N) {A0 A' : gM} {r : Int32} (C : gC p R s m args meth c cX1_lengthAt RX1 2 D g (va_A (gw g ad ln A0 N) s.heap.size) 0) (hr : meth.sig.returnType = some .int)  {A : gM} {s0 : Int32} (h : mX1_lengthAt_b20 A s0 = some (A', r)) : gJ p l e R s m args below meth c (gEi below D g N ad ln A0 A' r args s) 2 D g (va_A (gw g ad ln A0 N) s.heap.size) N ad ln A [] 0 0 20 [gi s0] := by
  unfold mX1_lengthAt_b20 at h
  obtain ⟨rfl, rfl⟩ := Prod.mk.inj (Option.some.inj h)
  exact g_reti C hr dX1_lengthAt_20

set_option maxHeartbeats 2000000 in
set_option maxRecDepth 20000 in
theorem wX1_lengthAt_b19 (hN : 183 ≤ N) {A0 A' : gM} {r : Int32} (C : gC p R s m args meth c cX1_lengthAt RX1 2 D g (va_A (gw g ad ln A0 N) s.heap.size) 0) (hr : meth.sig.returnType = some .int)  {A : gM} (h : mX1_lengthAt_b19 A = some (A', r)) : gJ p l e R s m args below meth c (gEi below D g N ad ln A0 A' r args s) 2 D g (va_A (gw g ad ln A0 N) s.heap.size) N ad ln A [] 0 0 19 [] := by
  unfold mX1_lengthAt_b19 at h
  refine g_iconst (v := 0) C dX1_lengthAt_19 (by decide) ?_
  refine g_sub [] rfl ?_
  exact wX1_lengthAt_b20 hN C hr h

set_option maxHeartbeats 2000000 in
set_option maxRecDepth 20000 in
theorem wX1_lengthAt_b0 (hN : 183 ≤ N) {A0 A' : gM} {r : Int32} (C : gC p R s m args meth c cX1_lengthAt RX1 2 D g (va_A (gw g ad ln A0 N) s.heap.size) 0) (hr : meth.sig.returnType = some .int)  {A : gM} {x1 : Int32} (h : mX1_lengthAt_b0 A x1 = some (A', r)) : gJ p l e R s m args below meth c (gEi below D g N ad ln A0 A' r args s) 2 D g (va_A (gw g ad ln A0 N) s.heap.size) N ad ln A [(0, gr 138), (1, gi x1)] 0 0 0 [] := by
  unfold mX1_lengthAt_b0 at h
  refine g_iload_n C 1 dX1_lengthAt_0 rfl ?_
  refine g_if_lt C dX1_lengthAt_1 (tgt := 19) (by decide) (fun c1 => ?_) (fun c1 => ?_)
  · have h := g_tt c1 h
    refine g_sub [] rfl ?_
    exact wX1_lengthAt_b19 hN C hr h
  · have h := g_ff c1 h
    refine g_iload_n C 1 dX1_lengthAt_4 rfl ?_
    refine g_bipush (v := 40) C dX1_lengthAt_5 (by decide) ?_
    refine g_icmp_ge C dX1_lengthAt_7 (tgt := 19) (by decide) (fun c2 => ?_) (fun c2 => ?_)
    · have h := g_tt c2 h
      refine g_sub [] rfl ?_
      exact wX1_lengthAt_b19 hN C hr h
    · have h := g_ff c2 h
      refine g_aload_n C 0 dX1_lengthAt_10 rfl ?_
      refine g_get (v := gr 181) C 138 2 (by omega) rfl rfl gu_1 (by decide) qf_X1_20 rfl dX1_lengthAt_11 ?_
      refine g_iload_n C 1 dX1_lengthAt_14 rfl ?_
      obtain ⟨hg3, h⟩ := g_gd h
      refine g_iald C 181 (by omega) rfl rfl hg3 dX1_lengthAt_15 ?_
      refine g_goto C dX1_lengthAt_16 (tgt := 20) (by decide) ?_
      refine g_sub [] rfl ?_
      exact wX1_lengthAt_b20 hN C hr h

set_option maxHeartbeats 2000000 in
set_option maxRecDepth 20000 in
theorem kX1_lengthAt {l : Launch} {D : va_G} {g : gT} {N : Nat} {ad ln : Nat → Nat} (hN : 183 ≤ N) {A A' : gM} {x1 : Int32} {r : Int32} (h : mX1_lengthAt A x1 = some (A', r)) : gKi l yX1_lengthAt cX1_lengthAt 2 (some .int) (0) D g N ad ln A [gr 138, gi x1] A' r := by
  refine g_meti (by decide) (Nat.le_of_ble_eq_true rfl) ?_
  intro p e s m args below meth c C hr
  refine g_sub [0, 1] rfl ?_
  exact wX1_lengthAt_b0 hN C hr h
def mX3_fact_b41 (A : gM) (s0 : Int32) : Option (gM × Int32) :=
  some (A, s0)
def mX3_fact_b40 (A : gM) : Option (gM × Int32) :=
  mX3_fact_b41 A 0
def mX3_fact_b15 (A : gM) (x1 : Int32) (x2 : Int32) (s0 : Int32) : Option (gM × Int32) :=
  if s0 = 0 then
  mX3_fact_b40 A
  else
  if x2 < 0 then
  mX3_fact_b40 A
  else
  if 5 ≤ x2 then
  mX3_fact_b40 A
  else
  if g_in x1 40 = true then
  if g_in x2 5 = true then
  mX3_fact_b41 A (A (86 + x1.toNatClampNeg) x2.toNatClampNeg)
  else none
  else none
def mX3_fact_b14 (A : gM) (x1 : Int32) (x2 : Int32) : Option (gM × Int32) :=
  mX3_fact_b15 A x1 x2 0
def mX3_fact_b0 (A : gM) (x1 : Int32) (x2 : Int32) : Option (gM × Int32) :=
  if x1 < 0 then
  mX3_fact_b14 A x1 x2
  else
  if 40 ≤ x1 then
  mX3_fact_b14 A x1 x2
  else
  mX3_fact_b15 A x1 x2 1
def mX3_fact (A : gM) (x1 : Int32) (x2 : Int32) : Option (gM × Int32) := mX3_fact_b0 A x1 x2
set_option maxHeartbeats 2000000 in
set_option maxRecDepth 20000 in
theorem wX3_fact_b41 (hN : 183 ≤ N) {A0 A' : gM} {r : Int32} (C : gC p R s m args meth c cX3_fact RX3 4 D g (va_A (gw g ad ln A0 N) s.heap.size) 0) (hr : meth.sig.returnType = some .int)  {A : gM} {s0 : Int32} (h : mX3_fact_b41 A s0 = some (A', r)) : gJ p l e R s m args below meth c (gEi below D g N ad ln A0 A' r args s) 4 D g (va_A (gw g ad ln A0 N) s.heap.size) N ad ln A [] 0 0 41 [gi s0] := by
  unfold mX3_fact_b41 at h
  obtain ⟨rfl, rfl⟩ := Prod.mk.inj (Option.some.inj h)
  exact g_reti C hr dX3_fact_41

set_option maxHeartbeats 2000000 in
set_option maxRecDepth 20000 in
theorem wX3_fact_b40 (hN : 183 ≤ N) {A0 A' : gM} {r : Int32} (C : gC p R s m args meth c cX3_fact RX3 4 D g (va_A (gw g ad ln A0 N) s.heap.size) 0) (hr : meth.sig.returnType = some .int)  {A : gM} (h : mX3_fact_b40 A = some (A', r)) : gJ p l e R s m args below meth c (gEi below D g N ad ln A0 A' r args s) 4 D g (va_A (gw g ad ln A0 N) s.heap.size) N ad ln A [] 0 0 40 [] := by
  unfold mX3_fact_b40 at h
  refine g_iconst (v := 0) C dX3_fact_40 (by decide) ?_
  refine g_sub [] rfl ?_
  exact wX3_fact_b41 hN C hr h

set_option maxHeartbeats 2000000 in
set_option maxRecDepth 20000 in
theorem wX3_fact_b15 (hN : 183 ≤ N) {A0 A' : gM} {r : Int32} (C : gC p R s m args meth c cX3_fact RX3 4 D g (va_A (gw g ad ln A0 N) s.heap.size) 0) (hr : meth.sig.returnType = some .int)  {A : gM} {x1 : Int32} {x2 : Int32} {s0 : Int32} (h : mX3_fact_b15 A x1 x2 s0 = some (A', r)) : gJ p l e R s m args below meth c (gEi below D g N ad ln A0 A' r args s) 4 D g (va_A (gw g ad ln A0 N) s.heap.size) N ad ln A [(0, gr 43), (1, gi x1), (2, gi x2)] 0 0 15 [gi s0] := by
  unfold mX3_fact_b15 at h
  refine g_istore_n C dX3_fact_15 (by decide) rfl ?_
  refine g_iload_n C 0 dX3_fact_16 rfl ?_
  refine g_if_eq C dX3_fact_17 (tgt := 40) (by decide) (fun c1 => ?_) (fun c1 => ?_)
  · have h := g_tt c1 h
    refine g_sub [] rfl ?_
    exact wX3_fact_b40 hN C hr h
  · have h := g_ff c1 h
    refine g_iload_n C 3 dX3_fact_20 rfl ?_
    refine g_if_lt C dX3_fact_21 (tgt := 40) (by decide) (fun c2 => ?_) (fun c2 => ?_)
    · have h := g_tt c2 h
      refine g_sub [] rfl ?_
      exact wX3_fact_b40 hN C hr h
    · have h := g_ff c2 h
      refine g_iload_n C 3 dX3_fact_24 rfl ?_
      refine g_iconst (v := 5) C dX3_fact_25 (by decide) ?_
      refine g_icmp_ge C dX3_fact_26 (tgt := 40) (by decide) (fun c3 => ?_) (fun c3 => ?_)
      · have h := g_tt c3 h
        refine g_sub [] rfl ?_
        exact wX3_fact_b40 hN C hr h
      · have h := g_ff c3 h
        refine g_aload_n C 1 dX3_fact_29 rfl ?_
        refine g_get (v := gr 85) C 43 1 (by omega) rfl rfl gu_3 (by decide) qf_X3_16 rfl dX3_fact_30 ?_
        refine g_iload_n C 2 dX3_fact_33 rfl ?_
        obtain ⟨hg4, h⟩ := g_gd h
        refine g_aald C 85 86 (by omega) rfl hg4 dX3_fact_34 ?_
        refine g_iload_n C 3 dX3_fact_35 rfl ?_
        obtain ⟨hg5, h⟩ := g_gd h
        refine g_iald C (86 + x1.toNatClampNeg) (g_row86 (ln := ln) hN hg4).1 (g_row86 (ln := ln) hN hg4).2.1 (g_row86 (ln := ln) hN hg4).2.2 hg5 dX3_fact_36 ?_
        refine g_goto C dX3_fact_37 (tgt := 41) (by decide) ?_
        refine g_sub [] rfl ?_
        exact wX3_fact_b41 hN C hr h

set_option maxHeartbeats 2000000 in
set_option maxRecDepth 20000 in
theorem wX3_fact_b14 (hN : 183 ≤ N) {A0 A' : gM} {r : Int32} (C : gC p R s m args meth c cX3_fact RX3 4 D g (va_A (gw g ad ln A0 N) s.heap.size) 0) (hr : meth.sig.returnType = some .int)  {A : gM} {x1 : Int32} {x2 : Int32} (h : mX3_fact_b14 A x1 x2 = some (A', r)) : gJ p l e R s m args below meth c (gEi below D g N ad ln A0 A' r args s) 4 D g (va_A (gw g ad ln A0 N) s.heap.size) N ad ln A [(0, gr 43), (1, gi x1), (2, gi x2)] 0 0 14 [] := by
  unfold mX3_fact_b14 at h
  refine g_iconst (v := 0) C dX3_fact_14 (by decide) ?_
  refine g_sub [0, 1, 2] rfl ?_
  exact wX3_fact_b15 hN C hr h

set_option maxHeartbeats 2000000 in
set_option maxRecDepth 20000 in
theorem wX3_fact_b0 (hN : 183 ≤ N) {A0 A' : gM} {r : Int32} (C : gC p R s m args meth c cX3_fact RX3 4 D g (va_A (gw g ad ln A0 N) s.heap.size) 0) (hr : meth.sig.returnType = some .int)  {A : gM} {x1 : Int32} {x2 : Int32} (h : mX3_fact_b0 A x1 x2 = some (A', r)) : gJ p l e R s m args below meth c (gEi below D g N ad ln A0 A' r args s) 4 D g (va_A (gw g ad ln A0 N) s.heap.size) N ad ln A [(0, gr 43), (1, gi x1), (2, gi x2)] 0 0 0 [] := by
  unfold mX3_fact_b0 at h
  refine g_iload_n C 1 dX3_fact_0 rfl ?_
  refine g_if_lt C dX3_fact_1 (tgt := 14) (by decide) (fun c1 => ?_) (fun c1 => ?_)
  · have h := g_tt c1 h
    refine g_sub [0, 1, 2] rfl ?_
    exact wX3_fact_b14 hN C hr h
  · have h := g_ff c1 h
    refine g_iload_n C 1 dX3_fact_4 rfl ?_
    refine g_bipush (v := 40) C dX3_fact_5 (by decide) ?_
    refine g_icmp_ge C dX3_fact_7 (tgt := 14) (by decide) (fun c2 => ?_) (fun c2 => ?_)
    · have h := g_tt c2 h
      refine g_sub [0, 1, 2] rfl ?_
      exact wX3_fact_b14 hN C hr h
    · have h := g_ff c2 h
      refine g_iconst (v := 1) C dX3_fact_10 (by decide) ?_
      refine g_goto C dX3_fact_11 (tgt := 15) (by decide) ?_
      refine g_sub [0, 1, 2] rfl ?_
      exact wX3_fact_b15 hN C hr h

set_option maxHeartbeats 2000000 in
set_option maxRecDepth 20000 in
theorem kX3_fact {l : Launch} {D : va_G} {g : gT} {N : Nat} {ad ln : Nat → Nat} (hN : 183 ≤ N) {A A' : gM} {x1 : Int32} {x2 : Int32} {r : Int32} (h : mX3_fact A x1 x2 = some (A', r)) : gKi l yX3_fact cX3_fact 4 (some .int) (0) D g N ad ln A [gr 43, gi x1, gi x2] A' r := by
  refine g_meti (by decide) (Nat.le_of_ble_eq_true rfl) ?_
  intro p e s m args below meth c C hr
  refine g_sub [0, 1, 2] rfl ?_
  exact wX3_fact_b0 hN C hr h
def mX3_codeAt_b42 (A : gM) (s0 : Int32) : Option (gM × Int32) :=
  some (A, s0)
def mX3_codeAt_b41 (A : gM) : Option (gM × Int32) :=
  mX3_codeAt_b42 A 0
def mX3_codeAt_b15 (A : gM) (x1 : Int32) (x2 : Int32) (s0 : Int32) : Option (gM × Int32) :=
  if s0 = 0 then
  mX3_codeAt_b41 A
  else
  if x2 < 0 then
  mX3_codeAt_b41 A
  else
  if 60 ≤ x2 then
  mX3_codeAt_b41 A
  else
  if g_in x1 40 = true then
  if g_in x2 60 = true then
  mX3_codeAt_b42 A (A (45 + x1.toNatClampNeg) x2.toNatClampNeg)
  else none
  else none
def mX3_codeAt_b14 (A : gM) (x1 : Int32) (x2 : Int32) : Option (gM × Int32) :=
  mX3_codeAt_b15 A x1 x2 0
def mX3_codeAt_b0 (A : gM) (x1 : Int32) (x2 : Int32) : Option (gM × Int32) :=
  if x1 < 0 then
  mX3_codeAt_b14 A x1 x2
  else
  if 40 ≤ x1 then
  mX3_codeAt_b14 A x1 x2
  else
  mX3_codeAt_b15 A x1 x2 1
def mX3_codeAt (A : gM) (x1 : Int32) (x2 : Int32) : Option (gM × Int32) := mX3_codeAt_b0 A x1 x2
set_option maxHeartbeats 2000000 in
set_option maxRecDepth 20000 in
theorem wX3_codeAt_b42 (hN : 183 ≤ N) {A0 A' : gM} {r : Int32} (C : gC p R s m args meth c cX3_codeAt RX3 4 D g (va_A (gw g ad ln A0 N) s.heap.size) 0) (hr : meth.sig.returnType = some .int)  {A : gM} {s0 : Int32} (h : mX3_codeAt_b42 A s0 = some (A', r)) : gJ p l e R s m args below meth c (gEi below D g N ad ln A0 A' r args s) 4 D g (va_A (gw g ad ln A0 N) s.heap.size) N ad ln A [] 0 0 42 [gi s0] := by
  unfold mX3_codeAt_b42 at h
  obtain ⟨rfl, rfl⟩ := Prod.mk.inj (Option.some.inj h)
  exact g_reti C hr dX3_codeAt_42

set_option maxHeartbeats 2000000 in
set_option maxRecDepth 20000 in
theorem wX3_codeAt_b41 (hN : 183 ≤ N) {A0 A' : gM} {r : Int32} (C : gC p R s m args meth c cX3_codeAt RX3 4 D g (va_A (gw g ad ln A0 N) s.heap.size) 0) (hr : meth.sig.returnType = some .int)  {A : gM} (h : mX3_codeAt_b41 A = some (A', r)) : gJ p l e R s m args below meth c (gEi below D g N ad ln A0 A' r args s) 4 D g (va_A (gw g ad ln A0 N) s.heap.size) N ad ln A [] 0 0 41 [] := by
  unfold mX3_codeAt_b41 at h
  refine g_iconst (v := 0) C dX3_codeAt_41 (by decide) ?_
  refine g_sub [] rfl ?_
  exact wX3_codeAt_b42 hN C hr h

set_option maxHeartbeats 2000000 in
set_option maxRecDepth 20000 in
theorem wX3_codeAt_b15 (hN : 183 ≤ N) {A0 A' : gM} {r : Int32} (C : gC p R s m args meth c cX3_codeAt RX3 4 D g (va_A (gw g ad ln A0 N) s.heap.size) 0) (hr : meth.sig.returnType = some .int)  {A : gM} {x1 : Int32} {x2 : Int32} {s0 : Int32} (h : mX3_codeAt_b15 A x1 x2 s0 = some (A', r)) : gJ p l e R s m args below meth c (gEi below D g N ad ln A0 A' r args s) 4 D g (va_A (gw g ad ln A0 N) s.heap.size) N ad ln A [(0, gr 43), (1, gi x1), (2, gi x2)] 0 0 15 [gi s0] := by
  unfold mX3_codeAt_b15 at h
  refine g_istore_n C dX3_codeAt_15 (by decide) rfl ?_
  refine g_iload_n C 0 dX3_codeAt_16 rfl ?_
  refine g_if_eq C dX3_codeAt_17 (tgt := 41) (by decide) (fun c1 => ?_) (fun c1 => ?_)
  · have h := g_tt c1 h
    refine g_sub [] rfl ?_
    exact wX3_codeAt_b41 hN C hr h
  · have h := g_ff c1 h
    refine g_iload_n C 3 dX3_codeAt_20 rfl ?_
    refine g_if_lt C dX3_codeAt_21 (tgt := 41) (by decide) (fun c2 => ?_) (fun c2 => ?_)
    · have h := g_tt c2 h
      refine g_sub [] rfl ?_
      exact wX3_codeAt_b41 hN C hr h
    · have h := g_ff c2 h
      refine g_iload_n C 3 dX3_codeAt_24 rfl ?_
      refine g_bipush (v := 60) C dX3_codeAt_25 (by decide) ?_
      refine g_icmp_ge C dX3_codeAt_27 (tgt := 41) (by decide) (fun c3 => ?_) (fun c3 => ?_)
      · have h := g_tt c3 h
        refine g_sub [] rfl ?_
        exact wX3_codeAt_b41 hN C hr h
      · have h := g_ff c3 h
        refine g_aload_n C 1 dX3_codeAt_30 rfl ?_
        refine g_get (v := gr 44) C 43 0 (by omega) rfl rfl gu_3 (by decide) qf_X3_11 rfl dX3_codeAt_31 ?_
        refine g_iload_n C 2 dX3_codeAt_34 rfl ?_
        obtain ⟨hg4, h⟩ := g_gd h
        refine g_aald C 44 45 (by omega) rfl hg4 dX3_codeAt_35 ?_
        refine g_iload_n C 3 dX3_codeAt_36 rfl ?_
        obtain ⟨hg5, h⟩ := g_gd h
        refine g_iald C (45 + x1.toNatClampNeg) (g_row45 (ln := ln) hN hg4).1 (g_row45 (ln := ln) hN hg4).2.1 (g_row45 (ln := ln) hN hg4).2.2 hg5 dX3_codeAt_37 ?_
        refine g_goto C dX3_codeAt_38 (tgt := 42) (by decide) ?_
        refine g_sub [] rfl ?_
        exact wX3_codeAt_b42 hN C hr h

set_option maxHeartbeats 2000000 in
set_option maxRecDepth 20000 in
theorem wX3_codeAt_b14 (hN : 183 ≤ N) {A0 A' : gM} {r : Int32} (C : gC p R s m args meth c cX3_codeAt RX3 4 D g (va_A (gw g ad ln A0 N) s.heap.size) 0) (hr : meth.sig.returnType = some .int)  {A : gM} {x1 : Int32} {x2 : Int32} (h : mX3_codeAt_b14 A x1 x2 = some (A', r)) : gJ p l e R s m args below meth c (gEi below D g N ad ln A0 A' r args s) 4 D g (va_A (gw g ad ln A0 N) s.heap.size) N ad ln A [(0, gr 43), (1, gi x1), (2, gi x2)] 0 0 14 [] := by
  unfold mX3_codeAt_b14 at h
  refine g_iconst (v := 0) C dX3_codeAt_14 (by decide) ?_
  refine g_sub [0, 1, 2] rfl ?_
  exact wX3_codeAt_b15 hN C hr h

set_option maxHeartbeats 2000000 in
set_option maxRecDepth 20000 in
theorem wX3_codeAt_b0 (hN : 183 ≤ N) {A0 A' : gM} {r : Int32} (C : gC p R s m args meth c cX3_codeAt RX3 4 D g (va_A (gw g ad ln A0 N) s.heap.size) 0) (hr : meth.sig.returnType = some .int)  {A : gM} {x1 : Int32} {x2 : Int32} (h : mX3_codeAt_b0 A x1 x2 = some (A', r)) : gJ p l e R s m args below meth c (gEi below D g N ad ln A0 A' r args s) 4 D g (va_A (gw g ad ln A0 N) s.heap.size) N ad ln A [(0, gr 43), (1, gi x1), (2, gi x2)] 0 0 0 [] := by
  unfold mX3_codeAt_b0 at h
  refine g_iload_n C 1 dX3_codeAt_0 rfl ?_
  refine g_if_lt C dX3_codeAt_1 (tgt := 14) (by decide) (fun c1 => ?_) (fun c1 => ?_)
  · have h := g_tt c1 h
    refine g_sub [0, 1, 2] rfl ?_
    exact wX3_codeAt_b14 hN C hr h
  · have h := g_ff c1 h
    refine g_iload_n C 1 dX3_codeAt_4 rfl ?_
    refine g_bipush (v := 40) C dX3_codeAt_5 (by decide) ?_
    refine g_icmp_ge C dX3_codeAt_7 (tgt := 14) (by decide) (fun c2 => ?_) (fun c2 => ?_)
    · have h := g_tt c2 h
      refine g_sub [0, 1, 2] rfl ?_
      exact wX3_codeAt_b14 hN C hr h
    · have h := g_ff c2 h
      refine g_iconst (v := 1) C dX3_codeAt_10 (by decide) ?_
      refine g_goto C dX3_codeAt_11 (tgt := 15) (by decide) ?_
      refine g_sub [0, 1, 2] rfl ?_
      exact wX3_codeAt_b15 hN C hr h

set_option maxHeartbeats 2000000 in
set_option maxRecDepth 20000 in
theorem kX3_codeAt {l : Launch} {D : va_G} {g : gT} {N : Nat} {ad ln : Nat → Nat} (hN : 183 ≤ N) {A A' : gM} {x1 : Int32} {x2 : Int32} {r : Int32} (h : mX3_codeAt A x1 x2 = some (A', r)) : gKi l yX3_codeAt cX3_codeAt 4 (some .int) (0) D g N ad ln A [gr 43, gi x1, gi x2] A' r := by
  refine g_meti (by decide) (Nat.le_of_ble_eq_true rfl) ?_
  intro p e s m args below meth c C hr
  refine g_sub [0, 1, 2] rfl ?_
  exact wX3_codeAt_b0 hN C hr h
def mX3_isPair_b15 (A : gM) (s0 : Int32) : Option (gM × Int32) :=
  if (s0 : Int32) = 0 ∨ (s0 : Int32) = 1 then some (A, s0) else none
def mX3_isPair_b10 (A : gM) : Option (gM × Int32) :=
  mX3_isPair_b15 A 1
def mX3_isPair_b0 (A : gM) (x1 : Int32) : Option (gM × Int32) :=
  if x1 = 2 then
  mX3_isPair_b10 A
  else
  if x1 = 3 then
  mX3_isPair_b10 A
  else
  mX3_isPair_b15 A 0
def mX3_isPair (A : gM) (x1 : Int32) : Option (gM × Int32) := mX3_isPair_b0 A x1
set_option maxHeartbeats 2000000 in
set_option maxRecDepth 20000 in
theorem wX3_isPair_b15 (hN : 183 ≤ N) {A0 A' : gM} {r : Int32} (C : gC p R s m args meth c cX3_isPair RX3 2 D g (va_A (gw g ad ln A0 N) s.heap.size) 0) (hr : meth.sig.returnType = some .boolean)  {A : gM} {s0 : Int32} (h : mX3_isPair_b15 A s0 = some (A', r)) : gJ p l e R s m args below meth c (gEi below D g N ad ln A0 A' r args s) 2 D g (va_A (gw g ad ln A0 N) s.heap.size) N ad ln A [] 0 0 15 [gi s0] := by
  unfold mX3_isPair_b15 at h
  obtain ⟨hz1, h⟩ := g_gd h
  obtain ⟨rfl, rfl⟩ := Prod.mk.inj (Option.some.inj h)
  exact g_retz C hr hz1 dX3_isPair_15

set_option maxHeartbeats 2000000 in
set_option maxRecDepth 20000 in
theorem wX3_isPair_b10 (hN : 183 ≤ N) {A0 A' : gM} {r : Int32} (C : gC p R s m args meth c cX3_isPair RX3 2 D g (va_A (gw g ad ln A0 N) s.heap.size) 0) (hr : meth.sig.returnType = some .boolean)  {A : gM} (h : mX3_isPair_b10 A = some (A', r)) : gJ p l e R s m args below meth c (gEi below D g N ad ln A0 A' r args s) 2 D g (va_A (gw g ad ln A0 N) s.heap.size) N ad ln A [] 0 0 10 [] := by
  unfold mX3_isPair_b10 at h
  refine g_iconst (v := 1) C dX3_isPair_10 (by decide) ?_
  refine g_goto C dX3_isPair_11 (tgt := 15) (by decide) ?_
  refine g_sub [] rfl ?_
  exact wX3_isPair_b15 hN C hr h

set_option maxHeartbeats 2000000 in
set_option maxRecDepth 20000 in
theorem wX3_isPair_b0 (hN : 183 ≤ N) {A0 A' : gM} {r : Int32} (C : gC p R s m args meth c cX3_isPair RX3 2 D g (va_A (gw g ad ln A0 N) s.heap.size) 0) (hr : meth.sig.returnType = some .boolean)  {A : gM} {x1 : Int32} (h : mX3_isPair_b0 A x1 = some (A', r)) : gJ p l e R s m args below meth c (gEi below D g N ad ln A0 A' r args s) 2 D g (va_A (gw g ad ln A0 N) s.heap.size) N ad ln A [(1, gi x1)] 0 0 0 [] := by
  unfold mX3_isPair_b0 at h
  refine g_iload_n C 0 dX3_isPair_0 rfl ?_
  refine g_iconst (v := 2) C dX3_isPair_1 (by decide) ?_
  refine g_icmp_eq C dX3_isPair_2 (tgt := 10) (by decide) (fun c1 => ?_) (fun c1 => ?_)
  · have h := g_tt c1 h
    refine g_sub [] rfl ?_
    exact wX3_isPair_b10 hN C hr h
  · have h := g_ff c1 h
    refine g_iload_n C 0 dX3_isPair_5 rfl ?_
    refine g_iconst (v := 3) C dX3_isPair_6 (by decide) ?_
    refine g_icmp_ne C dX3_isPair_7 (tgt := 14) (by decide) (fun c2 => ?_) (fun c2 => ?_)
    · have h := g_ff c2 h
      refine g_iconst (v := 0) C dX3_isPair_14 (by decide) ?_
      refine g_sub [] rfl ?_
      exact wX3_isPair_b15 hN C hr h
    · have h := g_tt c2 h
      refine g_sub [] rfl ?_
      exact wX3_isPair_b10 hN C hr h

set_option maxHeartbeats 2000000 in
set_option maxRecDepth 20000 in
theorem kX3_isPair {l : Launch} {D : va_G} {g : gT} {N : Nat} {ad ln : Nat → Nat} (hN : 183 ≤ N) {A A' : gM} {x1 : Int32} {r : Int32} (h : mX3_isPair A x1 = some (A', r)) : gKi l yX3_isPair cX3_isPair 2 (some .boolean) (0) D g N ad ln A [gr 43, gi x1] A' r := by
  refine g_meti (by decide) (Nat.le_of_ble_eq_true rfl) ?_
  intro p e s m args below meth c C hr
  refine g_sub [1] rfl ?_
  exact wX3_isPair_b0 hN C hr h
def mX3_variablesIn_b5 (K5 : gM → Int32 → Int32 → Int32 → Int32 → Option (gM × Int32)) (A : gM) (x1 : Int32) (x2 : Int32) (x3 : Int32) (x4 : Int32) : Option (gM × Int32) :=
  if x2 ≤ x4 then
  some (A, x3)
  else
  (mX3_codeAt A x1 x4).bind fun q2 =>
  g_let (if x3 < ((q2.2 - 10) + 1) then ((q2.2 - 10) + 1) else x3) fun v3 =>
  g_let (x4 + 1) fun v4 =>
  K5 q2.1 x1 x2 v3 v4
def mX3_variablesIn_L5 : Nat → gM → Int32 → Int32 → Int32 → Int32 → Option (gM × Int32)
  | 0 => fun _ _ _ _ _ => none
  | f + 1 => mX3_variablesIn_b5 (mX3_variablesIn_L5 f)
def mX3_variablesIn_b0 (A : gM) (x1 : Int32) (x2 : Int32) : Option (gM × Int32) :=
  mX3_variablesIn_L5 gF A x1 x2 0 0
def mX3_variablesIn (A : gM) (x1 : Int32) (x2 : Int32) : Option (gM × Int32) := mX3_variablesIn_b0 A x1 x2
set_option maxHeartbeats 2000000 in
set_option maxRecDepth 20000 in
theorem wX3_variablesIn_b5 (hN : 183 ≤ N) {A0 A' : gM} {r : Int32} (C : gC p R s m args meth c cX3_variablesIn RX3 5 D g (va_A (gw g ad ln A0 N) s.heap.size) 1) (hr : meth.sig.returnType = some .int) {K5 : gM → Int32 → Int32 → Int32 → Int32 → Option (gM × Int32)} (hK5 : ∀ {A : gM} {x1 : Int32} {x2 : Int32} {x3 : Int32} {x4 : Int32}, K5 A x1 x2 x3 x4 = some (A', r) → gJ p l e R s m args below meth c (gEi below D g N ad ln A0 A' r args s) 5 D g (va_A (gw g ad ln A0 N) s.heap.size) N ad ln A [(0, gr 43), (1, gi x1), (2, gi x2), (3, gi x3), (4, gi x4)] 0 0 5 []) {A : gM} {x1 : Int32} {x2 : Int32} {x3 : Int32} {x4 : Int32} (h : mX3_variablesIn_b5 K5 A x1 x2 x3 x4 = some (A', r)) : gJ p l e R s m args below meth c (gEi below D g N ad ln A0 A' r args s) 5 D g (va_A (gw g ad ln A0 N) s.heap.size) N ad ln A [(0, gr 43), (1, gi x1), (2, gi x2), (3, gi x3), (4, gi x4)] 0 0 5 [] := by
  unfold mX3_variablesIn_b5 at h
  refine g_iload C 4 dX3_variablesIn_5 rfl ?_
  refine g_iload_n C 2 dX3_variablesIn_7 rfl ?_
  refine g_icmp_ge C dX3_variablesIn_8 (tgt := 34) (by decide) (fun c1 => ?_) (fun c1 => ?_)
  · have h := g_tt c1 h
    refine g_iload_n C 3 dX3_variablesIn_34 rfl ?_
    obtain ⟨rfl, rfl⟩ := Prod.mk.inj (Option.some.inj h)
    exact g_reti C hr dX3_variablesIn_35
  · have h := g_ff c1 h
    refine g_iload_n C 3 dX3_variablesIn_11 rfl ?_
    refine g_aload_n C 0 dX3_variablesIn_12 rfl ?_
    refine g_iload_n C 1 dX3_variablesIn_13 rfl ?_
    refine g_iload C 4 dX3_variablesIn_14 rfl ?_
    obtain ⟨q2, eq2, h⟩ := g_bd h
    refine g_calliV C 43 [gi x1, gi x4] (kX3_codeAt hN eq2) qs_X3_42 (by omega) (by omega) rfl rfl rfl rfl (Nat.le_of_ble_eq_true rfl) ⟨Nat.zero_le _, Nat.zero_le _⟩ dX3_variablesIn_16 ?_
    refine g_bipush (v := 10) C dX3_variablesIn_19 (by decide) ?_
    refine g_isub C dX3_variablesIn_21 ?_
    refine g_iconst (v := 1) C dX3_variablesIn_22 (by decide) ?_
    refine g_iadd C dX3_variablesIn_23 ?_
    refine g_mmax C qm_X3_45 (by decide) (Nat.le_of_ble_eq_true rfl) ⟨Nat.zero_le _, Nat.zero_le _⟩ dX3_variablesIn_24 ?_
    obtain ⟨v3, ev3, h⟩ := g_lt h
    refine g_topi ev3 ?_
    refine g_istore_n C dX3_variablesIn_27 (by decide) rfl ?_
    obtain ⟨v4, ev4, h⟩ := g_lt h
    refine g_iinc C 4 dX3_variablesIn_28 rfl ev4 (by decide) rfl ?_
    refine g_goto C dX3_variablesIn_31 (tgt := 5) (by decide) ?_
    refine g_sub [2, 3, 4, 1, 0] rfl ?_
    exact hK5 h

set_option maxHeartbeats 2000000 in
set_option maxRecDepth 20000 in
theorem wX3_variablesIn_L5 (hN : 183 ≤ N) {A0 A' : gM} {r : Int32} (C : gC p R s m args meth c cX3_variablesIn RX3 5 D g (va_A (gw g ad ln A0 N) s.heap.size) 1) (hr : meth.sig.returnType = some .int)  : ∀ (f : Nat) {A : gM} {x1 : Int32} {x2 : Int32} {x3 : Int32} {x4 : Int32}, mX3_variablesIn_L5 f A x1 x2 x3 x4 = some (A', r) → gJ p l e R s m args below meth c (gEi below D g N ad ln A0 A' r args s) 5 D g (va_A (gw g ad ln A0 N) s.heap.size) N ad ln A [(0, gr 43), (1, gi x1), (2, gi x2), (3, gi x3), (4, gi x4)] 0 0 5 []
  | 0, A, x1, x2, x3, x4, h => by cases h
  | f + 1, A, x1, x2, x3, x4, h => wX3_variablesIn_b5 hN C hr (fun {A} {x1} {x2} {x3} {x4} h => wX3_variablesIn_L5 hN C hr f h) h
set_option maxHeartbeats 2000000 in
set_option maxRecDepth 20000 in
theorem wX3_variablesIn_b0 (hN : 183 ≤ N) {A0 A' : gM} {r : Int32} (C : gC p R s m args meth c cX3_variablesIn RX3 5 D g (va_A (gw g ad ln A0 N) s.heap.size) 1) (hr : meth.sig.returnType = some .int)  {A : gM} {x1 : Int32} {x2 : Int32} (h : mX3_variablesIn_b0 A x1 x2 = some (A', r)) : gJ p l e R s m args below meth c (gEi below D g N ad ln A0 A' r args s) 5 D g (va_A (gw g ad ln A0 N) s.heap.size) N ad ln A [(0, gr 43), (1, gi x1), (2, gi x2)] 0 0 0 [] := by
  unfold mX3_variablesIn_b0 at h
  refine g_iconst (v := 0) C dX3_variablesIn_0 (by decide) ?_
  refine g_istore_n C dX3_variablesIn_1 (by decide) rfl ?_
  refine g_iconst (v := 0) C dX3_variablesIn_2 (by decide) ?_
  refine g_istore C dX3_variablesIn_3 (by decide) rfl ?_
  refine g_sub [2, 3, 4, 1, 0] rfl ?_
  exact wX3_variablesIn_L5 hN C hr gF h

set_option maxHeartbeats 2000000 in
set_option maxRecDepth 20000 in
theorem kX3_variablesIn {l : Launch} {D : va_G} {g : gT} {N : Nat} {ad ln : Nat → Nat} (hN : 183 ≤ N) {A A' : gM} {x1 : Int32} {x2 : Int32} {r : Int32} (h : mX3_variablesIn A x1 x2 = some (A', r)) : gKi l yX3_variablesIn cX3_variablesIn 5 (some .int) (1) D g N ad ln A [gr 43, gi x1, gi x2] A' r := by
  refine g_meti (by decide) (Nat.le_of_ble_eq_true rfl) ?_
  intro p e s m args below meth c C hr
  refine g_sub [0, 1, 2] rfl ?_
  exact wX3_variablesIn_b0 hN C hr h
def mX3_depthOf_b99 (A : gM) (s0 : Int32) : Option (gM × Int32) :=
  some (A, s0)
def mX3_depthOf_b77 (K7 : gM → Int32 → Int32 → Int32 → Option (gM × Int32)) (A : gM) (x1 : Int32) (x3 : Int32) (x4 : Int32) : Option (gM × Int32) :=
  g_let (x4 + (-1)) fun v1 =>
  K7 A x1 x3 v1
def mX3_depthOf_b60 (K7 : gM → Int32 → Int32 → Int32 → Option (gM × Int32)) (A : gM) (x1 : Int32) (x3 : Int32) (x4 : Int32) (x5 : Int32) : Option (gM × Int32) :=
  if 60 ≤ x3 then
  mX3_depthOf_b77 K7 A x1 x3 x4
  else
  if g_in x3 60 = true then g_let (g_up A 126 x3.toNatClampNeg x5) fun A3 =>
  g_let (x3 + 1) fun v4 =>
  mX3_depthOf_b77 K7 A3 x1 v4 x4
  else none
def mX3_depthOf_b7 (K7 : gM → Int32 → Int32 → Int32 → Option (gM × Int32)) (A : gM) (x1 : Int32) (x3 : Int32) (x4 : Int32) : Option (gM × Int32) :=
  if x4 < 0 then
  if x3 ≤ 0 then
  mX3_depthOf_b99 A 0
  else
  if g_in (x3 - 1) 60 = true then
  mX3_depthOf_b99 A (A 126 (x3 - 1).toNatClampNeg)
  else none
  else
  (mX3_codeAt A x1 x4).bind fun q4 =>
  (mX3_isPair q4.1 q4.2).bind fun q5 =>
  if q5.2 = 0 then
  mX3_depthOf_b60 K7 q5.1 x1 x3 x4 1
  else
  if x3 < 2 then
  mX3_depthOf_b60 K7 q5.1 x1 x3 x4 1
  else
  if g_in (x3 - 1) 60 = true then
  if g_in (x3 - 2) 60 = true then
  g_let (1 + (if (q5.1 126 (x3 - 1).toNatClampNeg) < (q5.1 126 (x3 - 2).toNatClampNeg) then (q5.1 126 (x3 - 2).toNatClampNeg) else (q5.1 126 (x3 - 1).toNatClampNeg))) fun v10 =>
  g_let (x3 + (-2)) fun v11 =>
  mX3_depthOf_b60 K7 q5.1 x1 v11 x4 v10
  else none
  else none
def mX3_depthOf_L7 : Nat → gM → Int32 → Int32 → Int32 → Option (gM × Int32)
  | 0 => fun _ _ _ _ => none
  | f + 1 => mX3_depthOf_b7 (mX3_depthOf_L7 f)
def mX3_depthOf_b0 (A : gM) (x1 : Int32) (x2 : Int32) : Option (gM × Int32) :=
  g_let (x2 - 1) fun v1 =>
  mX3_depthOf_L7 gF A x1 0 v1
def mX3_depthOf (A : gM) (x1 : Int32) (x2 : Int32) : Option (gM × Int32) := mX3_depthOf_b0 A x1 x2
set_option maxHeartbeats 2000000 in
set_option maxRecDepth 20000 in
theorem wX3_depthOf_b99 (hN : 183 ≤ N) {A0 A' : gM} {r : Int32} (C : gC p R s m args meth c cX3_depthOf RX3 6 D g (va_A (gw g ad ln A0 N) s.heap.size) 2) (hr : meth.sig.returnType = some .int)  {A : gM} {s0 : Int32} (h : mX3_depthOf_b99 A s0 = some (A', r)) : gJ p l e R s m args below meth c (gEi below D g N ad ln A0 A' r args s) 6 D g (va_A (gw g ad ln A0 N) s.heap.size) N ad ln A [] 0 0 99 [gi s0] := by
  unfold mX3_depthOf_b99 at h
  obtain ⟨rfl, rfl⟩ := Prod.mk.inj (Option.some.inj h)
  exact g_reti C hr dX3_depthOf_99

set_option maxHeartbeats 2000000 in
set_option maxRecDepth 20000 in
theorem wX3_depthOf_b77 (hN : 183 ≤ N) {A0 A' : gM} {r : Int32} (C : gC p R s m args meth c cX3_depthOf RX3 6 D g (va_A (gw g ad ln A0 N) s.heap.size) 2) (hr : meth.sig.returnType = some .int) {K7 : gM → Int32 → Int32 → Int32 → Option (gM × Int32)} (hK7 : ∀ {A : gM} {x1 : Int32} {x3 : Int32} {x4 : Int32}, K7 A x1 x3 x4 = some (A', r) → gJ p l e R s m args below meth c (gEi below D g N ad ln A0 A' r args s) 6 D g (va_A (gw g ad ln A0 N) s.heap.size) N ad ln A [(0, gr 43), (1, gi x1), (3, gi x3), (4, gi x4)] 0 0 7 []) {A : gM} {x1 : Int32} {x3 : Int32} {x4 : Int32} (h : mX3_depthOf_b77 K7 A x1 x3 x4 = some (A', r)) : gJ p l e R s m args below meth c (gEi below D g N ad ln A0 A' r args s) 6 D g (va_A (gw g ad ln A0 N) s.heap.size) N ad ln A [(0, gr 43), (1, gi x1), (3, gi x3), (4, gi x4)] 0 0 77 [] := by
  unfold mX3_depthOf_b77 at h
  obtain ⟨v1, ev1, h⟩ := g_lt h
  refine g_iinc C 3 dX3_depthOf_77 rfl ev1 (by decide) rfl ?_
  refine g_goto C dX3_depthOf_80 (tgt := 7) (by decide) ?_
  refine g_sub [1, 2, 3, 0] rfl ?_
  exact hK7 h

set_option maxHeartbeats 2000000 in
set_option maxRecDepth 20000 in
theorem wX3_depthOf_b60 (hN : 183 ≤ N) {A0 A' : gM} {r : Int32} (C : gC p R s m args meth c cX3_depthOf RX3 6 D g (va_A (gw g ad ln A0 N) s.heap.size) 2) (hr : meth.sig.returnType = some .int) {K7 : gM → Int32 → Int32 → Int32 → Option (gM × Int32)} (hK7 : ∀ {A : gM} {x1 : Int32} {x3 : Int32} {x4 : Int32}, K7 A x1 x3 x4 = some (A', r) → gJ p l e R s m args below meth c (gEi below D g N ad ln A0 A' r args s) 6 D g (va_A (gw g ad ln A0 N) s.heap.size) N ad ln A [(0, gr 43), (1, gi x1), (3, gi x3), (4, gi x4)] 0 0 7 []) {A : gM} {x1 : Int32} {x3 : Int32} {x4 : Int32} {x5 : Int32} (h : mX3_depthOf_b60 K7 A x1 x3 x4 x5 = some (A', r)) : gJ p l e R s m args below meth c (gEi below D g N ad ln A0 A' r args s) 6 D g (va_A (gw g ad ln A0 N) s.heap.size) N ad ln A [(0, gr 43), (1, gi x1), (3, gi x3), (4, gi x4), (5, gi x5)] 0 0 60 [] := by
  unfold mX3_depthOf_b60 at h
  refine g_iload_n C 2 dX3_depthOf_60 rfl ?_
  refine g_bipush (v := 60) C dX3_depthOf_61 (by decide) ?_
  refine g_icmp_ge C dX3_depthOf_63 (tgt := 77) (by decide) (fun c1 => ?_) (fun c1 => ?_)
  · have h := g_tt c1 h
    refine g_sub [0, 1, 2, 3] rfl ?_
    exact wX3_depthOf_b77 hN C hr hK7 h
  · have h := g_ff c1 h
    refine g_aload_n C 0 dX3_depthOf_66 rfl ?_
    refine g_get (v := gr 126) C 43 2 (by omega) rfl rfl gu_3 (by decide) qf_X3_19 rfl dX3_depthOf_67 ?_
    refine g_iload_n C 2 dX3_depthOf_70 rfl ?_
    refine g_iload C 4 dX3_depthOf_71 rfl ?_
    obtain ⟨hg2, h⟩ := g_gd h
    obtain ⟨A3, eA3, h⟩ := g_lt h
    refine g_iast C 126 (by omega) rfl rfl hg2 eA3 dX3_depthOf_73 ?_
    obtain ⟨v4, ev4, h⟩ := g_lt h
    refine g_iinc C 2 dX3_depthOf_74 rfl ev4 (by decide) rfl ?_
    refine g_sub [1, 2, 0, 3] rfl ?_
    exact wX3_depthOf_b77 hN C hr hK7 h

set_option maxHeartbeats 2000000 in
set_option maxRecDepth 20000 in
theorem wX3_depthOf_b7 (hN : 183 ≤ N) {A0 A' : gM} {r : Int32} (C : gC p R s m args meth c cX3_depthOf RX3 6 D g (va_A (gw g ad ln A0 N) s.heap.size) 2) (hr : meth.sig.returnType = some .int) {K7 : gM → Int32 → Int32 → Int32 → Option (gM × Int32)} (hK7 : ∀ {A : gM} {x1 : Int32} {x3 : Int32} {x4 : Int32}, K7 A x1 x3 x4 = some (A', r) → gJ p l e R s m args below meth c (gEi below D g N ad ln A0 A' r args s) 6 D g (va_A (gw g ad ln A0 N) s.heap.size) N ad ln A [(0, gr 43), (1, gi x1), (3, gi x3), (4, gi x4)] 0 0 7 []) {A : gM} {x1 : Int32} {x3 : Int32} {x4 : Int32} (h : mX3_depthOf_b7 K7 A x1 x3 x4 = some (A', r)) : gJ p l e R s m args below meth c (gEi below D g N ad ln A0 A' r args s) 6 D g (va_A (gw g ad ln A0 N) s.heap.size) N ad ln A [(0, gr 43), (1, gi x1), (3, gi x3), (4, gi x4)] 0 0 7 [] := by
  unfold mX3_depthOf_b7 at h
  refine g_iload C 3 dX3_depthOf_7 rfl ?_
  refine g_if_lt C dX3_depthOf_9 (tgt := 83) (by decide) (fun c1 => ?_) (fun c1 => ?_)
  · have h := g_tt c1 h
    refine g_iload_n C 2 dX3_depthOf_83 rfl ?_
    refine g_if_le C dX3_depthOf_84 (tgt := 98) (by decide) (fun c2 => ?_) (fun c2 => ?_)
    · have h := g_tt c2 h
      refine g_iconst (v := 0) C dX3_depthOf_98 (by decide) ?_
      refine g_sub [] rfl ?_
      exact wX3_depthOf_b99 hN C hr h
    · have h := g_ff c2 h
      refine g_aload_n C 0 dX3_depthOf_87 rfl ?_
      refine g_get (v := gr 126) C 43 2 (by omega) rfl rfl gu_3 (by decide) qf_X3_19 rfl dX3_depthOf_88 ?_
      refine g_iload_n C 2 dX3_depthOf_91 rfl ?_
      refine g_iconst (v := 1) C dX3_depthOf_92 (by decide) ?_
      refine g_isub C dX3_depthOf_93 ?_
      obtain ⟨hg3, h⟩ := g_gd h
      refine g_iald C 126 (by omega) rfl rfl hg3 dX3_depthOf_94 ?_
      refine g_goto C dX3_depthOf_95 (tgt := 99) (by decide) ?_
      refine g_sub [] rfl ?_
      exact wX3_depthOf_b99 hN C hr h
  · have h := g_ff c1 h
    refine g_iconst (v := 1) C dX3_depthOf_12 (by decide) ?_
    refine g_istore C dX3_depthOf_13 (by decide) rfl ?_
    refine g_aload_n C 1 dX3_depthOf_15 rfl ?_
    refine g_aload_n C 1 dX3_depthOf_16 rfl ?_
    refine g_iload_n C 2 dX3_depthOf_17 rfl ?_
    refine g_iload C 4 dX3_depthOf_18 rfl ?_
    obtain ⟨q4, eq4, h⟩ := g_bd h
    refine g_calliV C 43 [gi x1, gi x4] (kX3_codeAt hN eq4) qs_X3_42 (by omega) (by omega) rfl rfl rfl rfl (Nat.le_of_ble_eq_true rfl) ⟨Nat.zero_le _, Nat.zero_le _⟩ dX3_depthOf_20 ?_
    obtain ⟨q5, eq5, h⟩ := g_bd h
    refine g_calliV C 43 [gi q4.2] (kX3_isPair hN eq5) qs_X3_48 (by omega) (by omega) rfl rfl rfl rfl (Nat.le_of_ble_eq_true rfl) ⟨Nat.zero_le _, Nat.zero_le _⟩ dX3_depthOf_23 ?_
    refine g_if_eq C dX3_depthOf_26 (tgt := 60) (by decide) (fun c6 => ?_) (fun c6 => ?_)
    · have h := g_tt c6 h
      refine g_sub [1, 2, 3, 4, 0] rfl ?_
      exact wX3_depthOf_b60 hN C hr hK7 h
    · have h := g_ff c6 h
      refine g_iload_n C 3 dX3_depthOf_29 rfl ?_
      refine g_iconst (v := 2) C dX3_depthOf_30 (by decide) ?_
      refine g_icmp_lt C dX3_depthOf_31 (tgt := 60) (by decide) (fun c7 => ?_) (fun c7 => ?_)
      · have h := g_tt c7 h
        refine g_sub [1, 2, 3, 4, 0] rfl ?_
        exact wX3_depthOf_b60 hN C hr hK7 h
      · have h := g_ff c7 h
        refine g_iconst (v := 1) C dX3_depthOf_34 (by decide) ?_
        refine g_aload_n C 1 dX3_depthOf_35 rfl ?_
        refine g_get (v := gr 126) C 43 2 (by omega) rfl rfl gu_3 (by decide) qf_X3_19 rfl dX3_depthOf_36 ?_
        refine g_iload_n C 3 dX3_depthOf_39 rfl ?_
        refine g_iconst (v := 1) C dX3_depthOf_40 (by decide) ?_
        refine g_isub C dX3_depthOf_41 ?_
        obtain ⟨hg8, h⟩ := g_gd h
        refine g_iald C 126 (by omega) rfl rfl hg8 dX3_depthOf_42 ?_
        refine g_aload_n C 1 dX3_depthOf_43 rfl ?_
        refine g_get (v := gr 126) C 43 2 (by omega) rfl rfl gu_3 (by decide) qf_X3_19 rfl dX3_depthOf_44 ?_
        refine g_iload_n C 3 dX3_depthOf_47 rfl ?_
        refine g_iconst (v := 2) C dX3_depthOf_48 (by decide) ?_
        refine g_isub C dX3_depthOf_49 ?_
        obtain ⟨hg9, h⟩ := g_gd h
        refine g_iald C 126 (by omega) rfl rfl hg9 dX3_depthOf_50 ?_
        refine g_mmax C qm_X3_45 (by decide) (Nat.le_of_ble_eq_true rfl) ⟨Nat.zero_le _, Nat.zero_le _⟩ dX3_depthOf_51 ?_
        refine g_iadd C dX3_depthOf_54 ?_
        obtain ⟨v10, ev10, h⟩ := g_lt h
        refine g_topi ev10 ?_
        refine g_istore C dX3_depthOf_55 (by decide) rfl ?_
        obtain ⟨v11, ev11, h⟩ := g_lt h
        refine g_iinc C 3 dX3_depthOf_57 rfl ev11 (by decide) rfl ?_
        refine g_sub [2, 3, 0, 4, 1] rfl ?_
        exact wX3_depthOf_b60 hN C hr hK7 h

set_option maxHeartbeats 2000000 in
set_option maxRecDepth 20000 in
theorem wX3_depthOf_L7 (hN : 183 ≤ N) {A0 A' : gM} {r : Int32} (C : gC p R s m args meth c cX3_depthOf RX3 6 D g (va_A (gw g ad ln A0 N) s.heap.size) 2) (hr : meth.sig.returnType = some .int)  : ∀ (f : Nat) {A : gM} {x1 : Int32} {x3 : Int32} {x4 : Int32}, mX3_depthOf_L7 f A x1 x3 x4 = some (A', r) → gJ p l e R s m args below meth c (gEi below D g N ad ln A0 A' r args s) 6 D g (va_A (gw g ad ln A0 N) s.heap.size) N ad ln A [(0, gr 43), (1, gi x1), (3, gi x3), (4, gi x4)] 0 0 7 []
  | 0, A, x1, x3, x4, h => by cases h
  | f + 1, A, x1, x3, x4, h => wX3_depthOf_b7 hN C hr (fun {A} {x1} {x3} {x4} h => wX3_depthOf_L7 hN C hr f h) h
set_option maxHeartbeats 2000000 in
set_option maxRecDepth 20000 in
theorem wX3_depthOf_b0 (hN : 183 ≤ N) {A0 A' : gM} {r : Int32} (C : gC p R s m args meth c cX3_depthOf RX3 6 D g (va_A (gw g ad ln A0 N) s.heap.size) 2) (hr : meth.sig.returnType = some .int)  {A : gM} {x1 : Int32} {x2 : Int32} (h : mX3_depthOf_b0 A x1 x2 = some (A', r)) : gJ p l e R s m args below meth c (gEi below D g N ad ln A0 A' r args s) 6 D g (va_A (gw g ad ln A0 N) s.heap.size) N ad ln A [(0, gr 43), (1, gi x1), (2, gi x2)] 0 0 0 [] := by
  unfold mX3_depthOf_b0 at h
  refine g_iconst (v := 0) C dX3_depthOf_0 (by decide) ?_
  refine g_istore_n C dX3_depthOf_1 (by decide) rfl ?_
  refine g_iload_n C 3 dX3_depthOf_2 rfl ?_
  refine g_iconst (v := 1) C dX3_depthOf_3 (by decide) ?_
  refine g_isub C dX3_depthOf_4 ?_
  obtain ⟨v1, ev1, h⟩ := g_lt h
  refine g_topi ev1 ?_
  refine g_istore C dX3_depthOf_5 (by decide) rfl ?_
  refine g_sub [2, 3, 1, 0] rfl ?_
  exact wX3_depthOf_L7 hN C hr gF h

set_option maxHeartbeats 2000000 in
set_option maxRecDepth 20000 in
theorem kX3_depthOf {l : Launch} {D : va_G} {g : gT} {N : Nat} {ad ln : Nat → Nat} (hN : 183 ≤ N) {A A' : gM} {x1 : Int32} {x2 : Int32} {r : Int32} (h : mX3_depthOf A x1 x2 = some (A', r)) : gKi l yX3_depthOf cX3_depthOf 6 (some .int) (2) D g N ad ln A [gr 43, gi x1, gi x2] A' r := by
  refine g_meti (by decide) (Nat.le_of_ble_eq_true rfl) ?_
  intro p e s m args below meth c C hr
  refine g_sub [0, 1, 2] rfl ?_
  exact wX3_depthOf_b0 hN C hr h
def mX3_putFacts_b10 (A : gM) : Option (gM) :=
  some A
def mX3_putFacts_b0 (A : gM) (x1 : Int32) (x2 : Int32) (x3 : Int32) (x4 : Int32) : Option (gM) :=
  if x1 < 0 then
  mX3_putFacts_b10 A
  else
  if x1 < 40 then
  if g_in x1 40 = true then
  if g_in 0 5 = true then g_let (g_up A (86 + x1.toNatClampNeg) (0 : Int32).toNatClampNeg x2) fun A5 =>
  if g_in 1 5 = true then g_let (g_up A5 (86 + x1.toNatClampNeg) (1 : Int32).toNatClampNeg x3) fun A7 =>
  if g_in 2 5 = true then g_let (g_up A7 (86 + x1.toNatClampNeg) (2 : Int32).toNatClampNeg x4) fun A9 =>
  (mX3_variablesIn A9 x1 x4).bind fun q10 =>
  if g_in 3 5 = true then g_let (g_up q10.1 (86 + x1.toNatClampNeg) (3 : Int32).toNatClampNeg q10.2) fun A12 =>
  (mX3_depthOf A12 x1 x4).bind fun q13 =>
  if g_in 4 5 = true then g_let (g_up q13.1 (86 + x1.toNatClampNeg) (4 : Int32).toNatClampNeg q13.2) fun A15 =>
  some A15
  else none
  else none
  else none
  else none
  else none
  else none
  else
  mX3_putFacts_b10 A
def mX3_putFacts (A : gM) (x1 : Int32) (x2 : Int32) (x3 : Int32) (x4 : Int32) : Option (gM) := mX3_putFacts_b0 A x1 x2 x3 x4
set_option maxHeartbeats 2000000 in
set_option maxRecDepth 20000 in
theorem wX3_putFacts_b10 (hN : 183 ≤ N) {A0 A' : gM} (C : gC p R s m args meth c cX3_putFacts RX3 6 D g (va_A (gw g ad ln A0 N) s.heap.size) 3) (hr : meth.sig.returnType = none)  {A : gM} (h : mX3_putFacts_b10 A = some A') : gJ p l e R s m args below meth c (gEv below D g N ad ln A0 A' args s) 6 D g (va_A (gw g ad ln A0 N) s.heap.size) N ad ln A [] 0 0 10 [] := by
  unfold mX3_putFacts_b10 at h
  obtain rfl := Option.some.inj h
  exact g_retv C hr dX3_putFacts_10

set_option maxHeartbeats 2000000 in
set_option maxRecDepth 20000 in
theorem wX3_putFacts_b0 (hN : 183 ≤ N) {A0 A' : gM} (C : gC p R s m args meth c cX3_putFacts RX3 6 D g (va_A (gw g ad ln A0 N) s.heap.size) 3) (hr : meth.sig.returnType = none)  {A : gM} {x1 : Int32} {x2 : Int32} {x3 : Int32} {x4 : Int32} (h : mX3_putFacts_b0 A x1 x2 x3 x4 = some A') : gJ p l e R s m args below meth c (gEv below D g N ad ln A0 A' args s) 6 D g (va_A (gw g ad ln A0 N) s.heap.size) N ad ln A [(0, gr 43), (1, gi x1), (2, gi x2), (3, gi x3), (4, gi x4)] 0 0 0 [] := by
  unfold mX3_putFacts_b0 at h
  refine g_iload_n C 1 dX3_putFacts_0 rfl ?_
  refine g_if_lt C dX3_putFacts_1 (tgt := 10) (by decide) (fun c1 => ?_) (fun c1 => ?_)
  · have h := g_tt c1 h
    refine g_sub [] rfl ?_
    exact wX3_putFacts_b10 hN C hr h
  · have h := g_ff c1 h
    refine g_iload_n C 1 dX3_putFacts_4 rfl ?_
    refine g_bipush (v := 40) C dX3_putFacts_5 (by decide) ?_
    refine g_icmp_lt C dX3_putFacts_7 (tgt := 11) (by decide) (fun c2 => ?_) (fun c2 => ?_)
    · have h := g_tt c2 h
      refine g_aload_n C 0 dX3_putFacts_11 rfl ?_
      refine g_get (v := gr 85) C 43 1 (by omega) rfl rfl gu_3 (by decide) qf_X3_16 rfl dX3_putFacts_12 ?_
      refine g_iload_n C 1 dX3_putFacts_15 rfl ?_
      obtain ⟨hg3, h⟩ := g_gd h
      refine g_aald C 85 86 (by omega) rfl hg3 dX3_putFacts_16 ?_
      refine g_astore C dX3_putFacts_17 (by decide) rfl ?_
      refine g_aload C 0 dX3_putFacts_19 rfl ?_
      refine g_iconst (v := 0) C dX3_putFacts_21 (by decide) ?_
      refine g_iload_n C 3 dX3_putFacts_22 rfl ?_
      obtain ⟨hg4, h⟩ := g_gd h
      obtain ⟨A5, eA5, h⟩ := g_lt h
      refine g_iast C (86 + x1.toNatClampNeg) (g_row86 (ln := ln) hN hg3).1 (g_row86 (ln := ln) hN hg3).2.1 (g_row86 (ln := ln) hN hg3).2.2 hg4 eA5 dX3_putFacts_23 ?_
      refine g_aload C 0 dX3_putFacts_24 rfl ?_
      refine g_iconst (v := 1) C dX3_putFacts_26 (by decide) ?_
      refine g_iload_n C 4 dX3_putFacts_27 rfl ?_
      obtain ⟨hg6, h⟩ := g_gd h
      obtain ⟨A7, eA7, h⟩ := g_lt h
      refine g_iast C (86 + x1.toNatClampNeg) (g_row86 (ln := ln) hN hg3).1 (g_row86 (ln := ln) hN hg3).2.1 (g_row86 (ln := ln) hN hg3).2.2 hg6 eA7 dX3_putFacts_28 ?_
      refine g_aload C 0 dX3_putFacts_29 rfl ?_
      refine g_iconst (v := 2) C dX3_putFacts_31 (by decide) ?_
      refine g_iload C 5 dX3_putFacts_32 rfl ?_
      obtain ⟨hg8, h⟩ := g_gd h
      obtain ⟨A9, eA9, h⟩ := g_lt h
      refine g_iast C (86 + x1.toNatClampNeg) (g_row86 (ln := ln) hN hg3).1 (g_row86 (ln := ln) hN hg3).2.1 (g_row86 (ln := ln) hN hg3).2.2 hg8 eA9 dX3_putFacts_34 ?_
      refine g_aload C 0 dX3_putFacts_35 rfl ?_
      refine g_iconst (v := 3) C dX3_putFacts_37 (by decide) ?_
      refine g_aload_n C 1 dX3_putFacts_38 rfl ?_
      refine g_iload_n C 2 dX3_putFacts_39 rfl ?_
      refine g_iload C 5 dX3_putFacts_40 rfl ?_
      obtain ⟨q10, eq10, h⟩ := g_bd h
      refine g_calliV C 43 [gi x1, gi x4] (kX3_variablesIn hN eq10) qs_X3_36 (by omega) (by omega) rfl rfl rfl rfl (Nat.le_of_ble_eq_true rfl) ⟨Nat.zero_le _, Nat.zero_le _⟩ dX3_putFacts_42 ?_
      obtain ⟨hg11, h⟩ := g_gd h
      obtain ⟨A12, eA12, h⟩ := g_lt h
      refine g_iast C (86 + x1.toNatClampNeg) (g_row86 (ln := ln) hN hg3).1 (g_row86 (ln := ln) hN hg3).2.1 (g_row86 (ln := ln) hN hg3).2.2 hg11 eA12 dX3_putFacts_45 ?_
      refine g_aload C 0 dX3_putFacts_46 rfl ?_
      refine g_iconst (v := 4) C dX3_putFacts_48 (by decide) ?_
      refine g_aload_n C 1 dX3_putFacts_49 rfl ?_
      refine g_iload_n C 2 dX3_putFacts_50 rfl ?_
      refine g_iload C 5 dX3_putFacts_51 rfl ?_
      obtain ⟨q13, eq13, h⟩ := g_bd h
      refine g_calliV C 43 [gi x1, gi x4] (kX3_depthOf hN eq13) qs_X3_39 (by omega) (by omega) rfl rfl rfl rfl (Nat.le_of_ble_eq_true rfl) ⟨Nat.zero_le _, Nat.zero_le _⟩ dX3_putFacts_53 ?_
      obtain ⟨hg14, h⟩ := g_gd h
      obtain ⟨A15, eA15, h⟩ := g_lt h
      refine g_iast C (86 + x1.toNatClampNeg) (g_row86 (ln := ln) hN hg3).1 (g_row86 (ln := ln) hN hg3).2.1 (g_row86 (ln := ln) hN hg3).2.2 hg14 eA15 dX3_putFacts_56 ?_
      obtain rfl := Option.some.inj h
      exact g_retv C hr dX3_putFacts_57
    · have h := g_ff c2 h
      refine g_sub [] rfl ?_
      exact wX3_putFacts_b10 hN C hr h

set_option maxHeartbeats 2000000 in
set_option maxRecDepth 20000 in
theorem kX3_putFacts {l : Launch} {D : va_G} {g : gT} {N : Nat} {ad ln : Nat → Nat} (hN : 183 ≤ N) {A A' : gM} {x1 : Int32} {x2 : Int32} {x3 : Int32} {x4 : Int32} (h : mX3_putFacts A x1 x2 x3 x4 = some A') : gKv l yX3_putFacts cX3_putFacts 6 (none) (3) D g N ad ln A [gr 43, gi x1, gi x2, gi x3, gi x4] A' := by
  refine g_metv (by decide) (Nat.le_of_ble_eq_true rfl) ?_
  intro p e s m args below meth c C hr
  refine g_sub [0, 1, 2, 3, 4] rfl ?_
  exact wX3_putFacts_b0 hN C hr h
def mX3_putFault_b0 (A : gM) (x1 : Int32) (x2 : Int32) (x3 : Int32) : Option (gM) :=
  (mX3_putFacts A x1 x2 x3 0).bind fun q1 =>
  some q1
def mX3_putFault (A : gM) (x1 : Int32) (x2 : Int32) (x3 : Int32) : Option (gM) := mX3_putFault_b0 A x1 x2 x3
set_option maxHeartbeats 2000000 in
set_option maxRecDepth 20000 in
theorem wX3_putFault_b0 (hN : 183 ≤ N) {A0 A' : gM} (C : gC p R s m args meth c cX3_putFault RX3 4 D g (va_A (gw g ad ln A0 N) s.heap.size) 4) (hr : meth.sig.returnType = none)  {A : gM} {x1 : Int32} {x2 : Int32} {x3 : Int32} (h : mX3_putFault_b0 A x1 x2 x3 = some A') : gJ p l e R s m args below meth c (gEv below D g N ad ln A0 A' args s) 4 D g (va_A (gw g ad ln A0 N) s.heap.size) N ad ln A [(0, gr 43), (1, gi x1), (2, gi x2), (3, gi x3)] 0 0 0 [] := by
  unfold mX3_putFault_b0 at h
  refine g_aload_n C 0 dX3_putFault_0 rfl ?_
  refine g_iload_n C 1 dX3_putFault_1 rfl ?_
  refine g_iload_n C 2 dX3_putFault_2 rfl ?_
  refine g_iload_n C 3 dX3_putFault_3 rfl ?_
  refine g_iconst (v := 0) C dX3_putFault_4 (by decide) ?_
  obtain ⟨q1, eq1, h⟩ := g_bd h
  refine g_callvV C 43 [gi x1, gi x2, gi x3, gi 0] (kX3_putFacts hN eq1) qs_X3_26 (by omega) (by omega) rfl rfl rfl rfl (Nat.le_of_ble_eq_true rfl) ⟨Nat.zero_le _, Nat.zero_le _⟩ dX3_putFault_5 ?_
  obtain rfl := Option.some.inj h
  exact g_retv C hr dX3_putFault_8

set_option maxHeartbeats 2000000 in
set_option maxRecDepth 20000 in
theorem kX3_putFault {l : Launch} {D : va_G} {g : gT} {N : Nat} {ad ln : Nat → Nat} (hN : 183 ≤ N) {A A' : gM} {x1 : Int32} {x2 : Int32} {x3 : Int32} (h : mX3_putFault A x1 x2 x3 = some A') : gKv l yX3_putFault cX3_putFault 4 (none) (4) D g N ad ln A [gr 43, gi x1, gi x2, gi x3] A' := by
  refine g_metv (by decide) (Nat.le_of_ble_eq_true rfl) ?_
  intro p e s m args below meth c C hr
  refine g_sub [0, 1, 2, 3] rfl ?_
  exact wX3_putFault_b0 hN C hr h
def mX3_putRow_b10 (A : gM) : Option (gM) :=
  some A
def mX3_putRow_b58 (A : gM) (x1 : Int32) (x3 : Int32) : Option (gM) :=
  (mX3_putFacts A x1 0 (-1) (if 60 < x3 then 60 else x3)).bind fun q1 =>
  some q1
def mX3_putRow_b22 (K22 : gM → Int32 → Int32 → Nat → Int32 → Option (gM)) (A : gM) (x1 : Int32) (x3 : Int32) (x4 : Nat) (x5 : Int32) : Option (gM) :=
  if x3 ≤ x5 then
  mX3_putRow_b58 A x1 x3
  else
  if 60 ≤ x5 then
  mX3_putRow_b58 A x1 x3
  else
  if 60 ≤ x5 then
  mX3_putRow_b58 A x1 x3
  else
  if g_in x5 60 = true then
  if g_in x5 60 = true then g_let (g_up A x4 x5.toNatClampNeg (A 182 x5.toNatClampNeg)) fun A6 =>
  g_let (x5 + 1) fun v7 =>
  K22 A6 x1 x3 x4 v7
  else none
  else none
def mX3_putRow_L22 : Nat → gM → Int32 → Int32 → Nat → Int32 → Option (gM)
  | 0 => fun _ _ _ _ _ => none
  | f + 1 => mX3_putRow_b22 (mX3_putRow_L22 f)
def mX3_putRow_b0 (A : gM) (x1 : Int32) (x3 : Int32) : Option (gM) :=
  if x1 < 0 then
  mX3_putRow_b10 A
  else
  if x1 < 40 then
  if g_in x1 40 = true then
  mX3_putRow_L22 gF A x1 x3 (45 + x1.toNatClampNeg) 0
  else none
  else
  mX3_putRow_b10 A
def mX3_putRow (A : gM) (x1 : Int32) (x3 : Int32) : Option (gM) := mX3_putRow_b0 A x1 x3
set_option maxHeartbeats 2000000 in
set_option maxRecDepth 20000 in
theorem wX3_putRow_b10 (hN : 183 ≤ N) {A0 A' : gM} (C : gC p R s m args meth c cX3_putRow RX3 6 D g (va_A (gw g ad ln A0 N) s.heap.size) 4) (hr : meth.sig.returnType = none)  {A : gM} (h : mX3_putRow_b10 A = some A') : gJ p l e R s m args below meth c (gEv below D g N ad ln A0 A' args s) 6 D g (va_A (gw g ad ln A0 N) s.heap.size) N ad ln A [] 0 0 10 [] := by
  unfold mX3_putRow_b10 at h
  obtain rfl := Option.some.inj h
  exact g_retv C hr dX3_putRow_10

set_option maxHeartbeats 2000000 in
set_option maxRecDepth 20000 in
theorem wX3_putRow_b58 (hN : 183 ≤ N) {A0 A' : gM} (C : gC p R s m args meth c cX3_putRow RX3 6 D g (va_A (gw g ad ln A0 N) s.heap.size) 4) (hr : meth.sig.returnType = none)  {A : gM} {x1 : Int32} {x3 : Int32} (h : mX3_putRow_b58 A x1 x3 = some A') : gJ p l e R s m args below meth c (gEv below D g N ad ln A0 A' args s) 6 D g (va_A (gw g ad ln A0 N) s.heap.size) N ad ln A [(0, gr 43), (1, gi x1), (3, gi x3)] 0 0 58 [] := by
  unfold mX3_putRow_b58 at h
  refine g_aload_n C 0 dX3_putRow_58 rfl ?_
  refine g_iload_n C 1 dX3_putRow_59 rfl ?_
  refine g_iconst (v := 0) C dX3_putRow_60 (by decide) ?_
  refine g_iconst (v := (-1)) C dX3_putRow_61 (by decide) ?_
  refine g_iload_n C 2 dX3_putRow_62 rfl ?_
  refine g_bipush (v := 60) C dX3_putRow_63 (by decide) ?_
  refine g_mmin C qm_X3_30 (by decide) (Nat.le_of_ble_eq_true rfl) ⟨Nat.zero_le _, Nat.zero_le _⟩ dX3_putRow_65 ?_
  obtain ⟨q1, eq1, h⟩ := g_bd h
  refine g_callvV C 43 [gi x1, gi 0, gi (-1), gi (if 60 < x3 then 60 else x3)] (kX3_putFacts hN eq1) qs_X3_26 (by omega) (by omega) rfl rfl rfl rfl (Nat.le_of_ble_eq_true rfl) ⟨Nat.zero_le _, Nat.zero_le _⟩ dX3_putRow_68 ?_
  obtain rfl := Option.some.inj h
  exact g_retv C hr dX3_putRow_71

set_option maxHeartbeats 2000000 in
set_option maxRecDepth 20000 in
theorem wX3_putRow_b22 (hN : 183 ≤ N) {A0 A' : gM} (C : gC p R s m args meth c cX3_putRow RX3 6 D g (va_A (gw g ad ln A0 N) s.heap.size) 4) (hr : meth.sig.returnType = none) {K22 : gM → Int32 → Int32 → Nat → Int32 → Option (gM)} (hK22 : ∀ {A : gM} {x1 : Int32} {x3 : Int32} {x4 : Nat} {x5 : Int32} (hx4 : (x4 < N ∧ g_isI x4 = true ∧ g_ln ln x4 = 60)), K22 A x1 x3 x4 x5 = some A' → gJ p l e R s m args below meth c (gEv below D g N ad ln A0 A' args s) 6 D g (va_A (gw g ad ln A0 N) s.heap.size) N ad ln A [(0, gr 43), (1, gi x1), (2, gr 182), (3, gi x3), (4, gr x4), (5, gi x5)] 0 0 22 []) {A : gM} {x1 : Int32} {x3 : Int32} {x4 : Nat} {x5 : Int32} (hx4 : (x4 < N ∧ g_isI x4 = true ∧ g_ln ln x4 = 60)) (h : mX3_putRow_b22 K22 A x1 x3 x4 x5 = some A') : gJ p l e R s m args below meth c (gEv below D g N ad ln A0 A' args s) 6 D g (va_A (gw g ad ln A0 N) s.heap.size) N ad ln A [(0, gr 43), (1, gi x1), (2, gr 182), (3, gi x3), (4, gr x4), (5, gi x5)] 0 0 22 [] := by
  unfold mX3_putRow_b22 at h
  refine g_iload C 5 dX3_putRow_22 rfl ?_
  refine g_iload_n C 3 dX3_putRow_24 rfl ?_
  refine g_icmp_ge C dX3_putRow_25 (tgt := 58) (by decide) (fun c1 => ?_) (fun c1 => ?_)
  · have h := g_tt c1 h
    refine g_sub [0, 1, 3] rfl ?_
    exact wX3_putRow_b58 hN C hr h
  · have h := g_ff c1 h
    refine g_iload C 5 dX3_putRow_28 rfl ?_
    refine g_aload_n C 2 dX3_putRow_30 rfl ?_
    refine g_alen (v := 60) C 182 (by omega) rfl rfl dX3_putRow_31 ?_
    refine g_icmp_ge C dX3_putRow_32 (tgt := 58) (by decide) (fun c2 => ?_) (fun c2 => ?_)
    · have h := g_tt c2 h
      refine g_sub [0, 1, 3] rfl ?_
      exact wX3_putRow_b58 hN C hr h
    · have h := g_ff c2 h
      refine g_iload C 5 dX3_putRow_35 rfl ?_
      refine g_aload C 4 dX3_putRow_37 rfl ?_
      refine g_alen (v := 60) C x4 hx4.1 hx4.2.1 (by rw [hx4.2.2]; rfl) dX3_putRow_39 ?_
      refine g_icmp_ge C dX3_putRow_40 (tgt := 58) (by decide) (fun c3 => ?_) (fun c3 => ?_)
      · have h := g_tt c3 h
        refine g_sub [0, 1, 3] rfl ?_
        exact wX3_putRow_b58 hN C hr h
      · have h := g_ff c3 h
        refine g_aload C 4 dX3_putRow_43 rfl ?_
        refine g_iload C 5 dX3_putRow_45 rfl ?_
        refine g_aload_n C 2 dX3_putRow_47 rfl ?_
        refine g_iload C 5 dX3_putRow_48 rfl ?_
        obtain ⟨hg4, h⟩ := g_gd h
        refine g_iald C 182 (by omega) rfl rfl hg4 dX3_putRow_50 ?_
        obtain ⟨hg5, h⟩ := g_gd h
        obtain ⟨A6, eA6, h⟩ := g_lt h
        refine g_iast C x4 hx4.1 hx4.2.1 hx4.2.2 hg5 eA6 dX3_putRow_51 ?_
        obtain ⟨v7, ev7, h⟩ := g_lt h
        refine g_iinc C 5 dX3_putRow_52 rfl ev7 (by decide) rfl ?_
        refine g_goto C dX3_putRow_55 (tgt := 22) (by decide) ?_
        refine g_sub [1, 2, 3, 4, 5, 0] rfl ?_
        exact hK22 hx4 h

set_option maxHeartbeats 2000000 in
set_option maxRecDepth 20000 in
theorem wX3_putRow_L22 (hN : 183 ≤ N) {A0 A' : gM} (C : gC p R s m args meth c cX3_putRow RX3 6 D g (va_A (gw g ad ln A0 N) s.heap.size) 4) (hr : meth.sig.returnType = none)  : ∀ (f : Nat) {A : gM} {x1 : Int32} {x3 : Int32} {x4 : Nat} {x5 : Int32} (hx4 : (x4 < N ∧ g_isI x4 = true ∧ g_ln ln x4 = 60)), mX3_putRow_L22 f A x1 x3 x4 x5 = some A' → gJ p l e R s m args below meth c (gEv below D g N ad ln A0 A' args s) 6 D g (va_A (gw g ad ln A0 N) s.heap.size) N ad ln A [(0, gr 43), (1, gi x1), (2, gr 182), (3, gi x3), (4, gr x4), (5, gi x5)] 0 0 22 []
  | 0, A, x1, x3, x4, x5, hx4, h => by cases h
  | f + 1, A, x1, x3, x4, x5, hx4, h => wX3_putRow_b22 hN C hr (fun {A} {x1} {x3} {x4} {x5} hx4 h => wX3_putRow_L22 hN C hr f hx4 h) hx4 h
set_option maxHeartbeats 2000000 in
set_option maxRecDepth 20000 in
theorem wX3_putRow_b0 (hN : 183 ≤ N) {A0 A' : gM} (C : gC p R s m args meth c cX3_putRow RX3 6 D g (va_A (gw g ad ln A0 N) s.heap.size) 4) (hr : meth.sig.returnType = none)  {A : gM} {x1 : Int32} {x3 : Int32} (h : mX3_putRow_b0 A x1 x3 = some A') : gJ p l e R s m args below meth c (gEv below D g N ad ln A0 A' args s) 6 D g (va_A (gw g ad ln A0 N) s.heap.size) N ad ln A [(0, gr 43), (1, gi x1), (2, gr 182), (3, gi x3)] 0 0 0 [] := by
  unfold mX3_putRow_b0 at h
  refine g_iload_n C 1 dX3_putRow_0 rfl ?_
  refine g_if_lt C dX3_putRow_1 (tgt := 10) (by decide) (fun c1 => ?_) (fun c1 => ?_)
  · have h := g_tt c1 h
    refine g_sub [] rfl ?_
    exact wX3_putRow_b10 hN C hr h
  · have h := g_ff c1 h
    refine g_iload_n C 1 dX3_putRow_4 rfl ?_
    refine g_bipush (v := 40) C dX3_putRow_5 (by decide) ?_
    refine g_icmp_lt C dX3_putRow_7 (tgt := 11) (by decide) (fun c2 => ?_) (fun c2 => ?_)
    · have h := g_tt c2 h
      refine g_aload_n C 0 dX3_putRow_11 rfl ?_
      refine g_get (v := gr 44) C 43 0 (by omega) rfl rfl gu_3 (by decide) qf_X3_11 rfl dX3_putRow_12 ?_
      refine g_iload_n C 1 dX3_putRow_15 rfl ?_
      obtain ⟨hg3, h⟩ := g_gd h
      refine g_aald C 44 45 (by omega) rfl hg3 dX3_putRow_16 ?_
      refine g_astore C dX3_putRow_17 (by decide) rfl ?_
      refine g_iconst (v := 0) C dX3_putRow_19 (by decide) ?_
      refine g_istore C dX3_putRow_20 (by decide) rfl ?_
      refine g_sub [2, 3, 4, 5, 1, 0] rfl ?_
      exact wX3_putRow_L22 hN C hr gF (g_row45 (ln := ln) hN hg3) h
    · have h := g_ff c2 h
      refine g_sub [] rfl ?_
      exact wX3_putRow_b10 hN C hr h

set_option maxHeartbeats 2000000 in
set_option maxRecDepth 20000 in
theorem kX3_putRow {l : Launch} {D : va_G} {g : gT} {N : Nat} {ad ln : Nat → Nat} (hN : 183 ≤ N) {A A' : gM} {x1 : Int32} {x3 : Int32} (h : mX3_putRow A x1 x3 = some A') : gKv l yX3_putRow cX3_putRow 6 (none) (4) D g N ad ln A [gr 43, gi x1, gr 182, gi x3] A' := by
  refine g_metv (by decide) (Nat.le_of_ble_eq_true rfl) ?_
  intro p e s m args below meth c C hr
  refine g_sub [0, 1, 2, 3] rfl ?_
  exact wX3_putRow_b0 hN C hr h
def mX3_alike_b22 (K22 : gM → Int32 → Int32 → Int32 → Int32 → Option (gM × Int32)) (A : gM) (x1 : Int32) (x2 : Int32) (x3 : Int32) (x4 : Int32) : Option (gM × Int32) :=
  if x3 ≤ x4 then
  if (1 : Int32) = 0 ∨ (1 : Int32) = 1 then some (A, 1) else none
  else
  (mX3_codeAt A x1 x4).bind fun q3 =>
  (mX3_codeAt q3.1 x2 x4).bind fun q4 =>
  if q3.2 = q4.2 then
  g_let (x4 + 1) fun v6 =>
  K22 q4.1 x1 x2 x3 v6
  else
  if (0 : Int32) = 0 ∨ (0 : Int32) = 1 then some (q4.1, 0) else none
def mX3_alike_L22 : Nat → gM → Int32 → Int32 → Int32 → Int32 → Option (gM × Int32)
  | 0 => fun _ _ _ _ _ => none
  | f + 1 => mX3_alike_b22 (mX3_alike_L22 f)
def mX3_alike_b0 (A : gM) (x1 : Int32) (x2 : Int32) : Option (gM × Int32) :=
  (mX3_fact A x1 2).bind fun q1 =>
  (mX3_fact q1.1 x2 2).bind fun q2 =>
  if q1.2 = q2.2 then
  mX3_alike_L22 gF q2.1 x1 x2 q1.2 0
  else
  if (0 : Int32) = 0 ∨ (0 : Int32) = 1 then some (q2.1, 0) else none
def mX3_alike (A : gM) (x1 : Int32) (x2 : Int32) : Option (gM × Int32) := mX3_alike_b0 A x1 x2
set_option maxHeartbeats 2000000 in
set_option maxRecDepth 20000 in
theorem wX3_alike_b22 (hN : 183 ≤ N) {A0 A' : gM} {r : Int32} (C : gC p R s m args meth c cX3_alike RX3 5 D g (va_A (gw g ad ln A0 N) s.heap.size) 1) (hr : meth.sig.returnType = some .boolean) {K22 : gM → Int32 → Int32 → Int32 → Int32 → Option (gM × Int32)} (hK22 : ∀ {A : gM} {x1 : Int32} {x2 : Int32} {x3 : Int32} {x4 : Int32}, K22 A x1 x2 x3 x4 = some (A', r) → gJ p l e R s m args below meth c (gEi below D g N ad ln A0 A' r args s) 5 D g (va_A (gw g ad ln A0 N) s.heap.size) N ad ln A [(0, gr 43), (1, gi x1), (2, gi x2), (3, gi x3), (4, gi x4)] 0 0 22 []) {A : gM} {x1 : Int32} {x2 : Int32} {x3 : Int32} {x4 : Int32} (h : mX3_alike_b22 K22 A x1 x2 x3 x4 = some (A', r)) : gJ p l e R s m args below meth c (gEi below D g N ad ln A0 A' r args s) 5 D g (va_A (gw g ad ln A0 N) s.heap.size) N ad ln A [(0, gr 43), (1, gi x1), (2, gi x2), (3, gi x3), (4, gi x4)] 0 0 22 [] := by
  unfold mX3_alike_b22 at h
  refine g_iload C 4 dX3_alike_22 rfl ?_
  refine g_iload_n C 3 dX3_alike_24 rfl ?_
  refine g_icmp_ge C dX3_alike_25 (tgt := 53) (by decide) (fun c1 => ?_) (fun c1 => ?_)
  · have h := g_tt c1 h
    refine g_iconst (v := 1) C dX3_alike_53 (by decide) ?_
    obtain ⟨hz2, h⟩ := g_gd h
    obtain ⟨rfl, rfl⟩ := Prod.mk.inj (Option.some.inj h)
    exact g_retz C hr hz2 dX3_alike_54
  · have h := g_ff c1 h
    refine g_aload_n C 0 dX3_alike_28 rfl ?_
    refine g_iload_n C 1 dX3_alike_29 rfl ?_
    refine g_iload C 4 dX3_alike_30 rfl ?_
    obtain ⟨q3, eq3, h⟩ := g_bd h
    refine g_calliV C 43 [gi x1, gi x4] (kX3_codeAt hN eq3) qs_X3_42 (by omega) (by omega) rfl rfl rfl rfl (Nat.le_of_ble_eq_true rfl) ⟨Nat.zero_le _, Nat.zero_le _⟩ dX3_alike_32 ?_
    refine g_aload_n C 0 dX3_alike_35 rfl ?_
    refine g_iload_n C 2 dX3_alike_36 rfl ?_
    refine g_iload C 4 dX3_alike_37 rfl ?_
    obtain ⟨q4, eq4, h⟩ := g_bd h
    refine g_calliV C 43 [gi x2, gi x4] (kX3_codeAt hN eq4) qs_X3_42 (by omega) (by omega) rfl rfl rfl rfl (Nat.le_of_ble_eq_true rfl) ⟨Nat.zero_le _, Nat.zero_le _⟩ dX3_alike_39 ?_
    refine g_icmp_eq C dX3_alike_42 (tgt := 47) (by decide) (fun c5 => ?_) (fun c5 => ?_)
    · have h := g_tt c5 h
      obtain ⟨v6, ev6, h⟩ := g_lt h
      refine g_iinc C 4 dX3_alike_47 rfl ev6 (by decide) rfl ?_
      refine g_goto C dX3_alike_50 (tgt := 22) (by decide) ?_
      refine g_sub [1, 2, 3, 4, 0] rfl ?_
      exact hK22 h
    · have h := g_ff c5 h
      refine g_iconst (v := 0) C dX3_alike_45 (by decide) ?_
      obtain ⟨hz7, h⟩ := g_gd h
      obtain ⟨rfl, rfl⟩ := Prod.mk.inj (Option.some.inj h)
      exact g_retz C hr hz7 dX3_alike_46

set_option maxHeartbeats 2000000 in
set_option maxRecDepth 20000 in
theorem wX3_alike_L22 (hN : 183 ≤ N) {A0 A' : gM} {r : Int32} (C : gC p R s m args meth c cX3_alike RX3 5 D g (va_A (gw g ad ln A0 N) s.heap.size) 1) (hr : meth.sig.returnType = some .boolean)  : ∀ (f : Nat) {A : gM} {x1 : Int32} {x2 : Int32} {x3 : Int32} {x4 : Int32}, mX3_alike_L22 f A x1 x2 x3 x4 = some (A', r) → gJ p l e R s m args below meth c (gEi below D g N ad ln A0 A' r args s) 5 D g (va_A (gw g ad ln A0 N) s.heap.size) N ad ln A [(0, gr 43), (1, gi x1), (2, gi x2), (3, gi x3), (4, gi x4)] 0 0 22 []
  | 0, A, x1, x2, x3, x4, h => by cases h
  | f + 1, A, x1, x2, x3, x4, h => wX3_alike_b22 hN C hr (fun {A} {x1} {x2} {x3} {x4} h => wX3_alike_L22 hN C hr f h) h
set_option maxHeartbeats 2000000 in
set_option maxRecDepth 20000 in
theorem wX3_alike_b0 (hN : 183 ≤ N) {A0 A' : gM} {r : Int32} (C : gC p R s m args meth c cX3_alike RX3 5 D g (va_A (gw g ad ln A0 N) s.heap.size) 1) (hr : meth.sig.returnType = some .boolean)  {A : gM} {x1 : Int32} {x2 : Int32} (h : mX3_alike_b0 A x1 x2 = some (A', r)) : gJ p l e R s m args below meth c (gEi below D g N ad ln A0 A' r args s) 5 D g (va_A (gw g ad ln A0 N) s.heap.size) N ad ln A [(0, gr 43), (1, gi x1), (2, gi x2)] 0 0 0 [] := by
  unfold mX3_alike_b0 at h
  refine g_aload_n C 0 dX3_alike_0 rfl ?_
  refine g_iload_n C 1 dX3_alike_1 rfl ?_
  refine g_iconst (v := 2) C dX3_alike_2 (by decide) ?_
  obtain ⟨q1, eq1, h⟩ := g_bd h
  refine g_calliV C 43 [gi x1, gi 2] (kX3_fact hN eq1) qs_X3_52 (by omega) (by omega) rfl rfl rfl rfl (Nat.le_of_ble_eq_true rfl) ⟨Nat.zero_le _, Nat.zero_le _⟩ dX3_alike_3 ?_
  refine g_istore_n C dX3_alike_6 (by decide) rfl ?_
  refine g_iload_n C 0 dX3_alike_7 rfl ?_
  refine g_aload_n C 1 dX3_alike_8 rfl ?_
  refine g_iload_n C 3 dX3_alike_9 rfl ?_
  refine g_iconst (v := 2) C dX3_alike_10 (by decide) ?_
  obtain ⟨q2, eq2, h⟩ := g_bd h
  refine g_calliV C 43 [gi x2, gi 2] (kX3_fact hN eq2) qs_X3_52 (by omega) (by omega) rfl rfl rfl rfl (Nat.le_of_ble_eq_true rfl) ⟨Nat.zero_le _, Nat.zero_le _⟩ dX3_alike_11 ?_
  refine g_icmp_eq C dX3_alike_14 (tgt := 19) (by decide) (fun c3 => ?_) (fun c3 => ?_)
  · have h := g_tt c3 h
    refine g_iconst (v := 0) C dX3_alike_19 (by decide) ?_
    refine g_istore C dX3_alike_20 (by decide) rfl ?_
    refine g_sub [2, 3, 4, 1, 0] rfl ?_
    exact wX3_alike_L22 hN C hr gF h
  · have h := g_ff c3 h
    refine g_iconst (v := 0) C dX3_alike_17 (by decide) ?_
    obtain ⟨hz4, h⟩ := g_gd h
    obtain ⟨rfl, rfl⟩ := Prod.mk.inj (Option.some.inj h)
    exact g_retz C hr hz4 dX3_alike_18

set_option maxHeartbeats 2000000 in
set_option maxRecDepth 20000 in
theorem kX3_alike {l : Launch} {D : va_G} {g : gT} {N : Nat} {ad ln : Nat → Nat} (hN : 183 ≤ N) {A A' : gM} {x1 : Int32} {x2 : Int32} {r : Int32} (h : mX3_alike A x1 x2 = some (A', r)) : gKi l yX3_alike cX3_alike 5 (some .boolean) (1) D g N ad ln A [gr 43, gi x1, gi x2] A' r := by
  refine g_meti (by decide) (Nat.le_of_ble_eq_true rfl) ?_
  intro p e s m args below meth c C hr
  refine g_sub [0, 1, 2] rfl ?_
  exact wX3_alike_b0 hN C hr h
end T1
end
section
theorem qf_X0_12 : Cond.fieldLink RX0 12 (TX0 0).1 (TX0 0).2.1 (TX0 0).2.2.1 ∈ gtb := g_tb (List.mem_of_getElem? (i := 156) (by decide +kernel)) (by decide +kernel)
theorem qf_X0_21 : Cond.fieldLink RX0 21 (TX0 1).1 (TX0 1).2.1 (TX0 1).2.2.1 ∈ gtb := g_tb (List.mem_of_getElem? (i := 157) (by decide +kernel)) (by decide +kernel)
theorem qf_X0_25 : Cond.fieldLink RX0 25 (TX0 2).1 (TX0 2).2.1 (TX0 2).2.2.1 ∈ gtb := g_tb (List.mem_of_getElem? (i := 158) (by decide +kernel)) (by decide +kernel)
theorem qf_X0_33 : Cond.fieldLink RX0 33 (TX0 3).1 (TX0 3).2.1 (TX0 3).2.2.1 ∈ gtb := g_tb (List.mem_of_getElem? (i := 159) (by decide +kernel)) (by decide +kernel)
theorem qf_X0_37 : Cond.fieldLink RX0 37 (TX0 4).1 (TX0 4).2.1 (TX0 4).2.2.1 ∈ gtb := g_tb (List.mem_of_getElem? (i := 160) (by decide +kernel)) (by decide +kernel)
theorem qs_X0_101 : g_site RX0 RX0 101 yX0_findWheel cX0_findWheel 6 (some .int) 3 := ⟨g_tb (List.mem_of_getElem? (i := 365) (by decide +kernel)) (by decide +kernel), g_tb (List.mem_of_getElem? (i := 367) (by decide +kernel)) (by decide +kernel), g_tb (List.mem_of_getElem? (i := 10) (by decide +kernel)) (by decide +kernel), g_tb (List.mem_of_getElem? (i := 36) (by decide +kernel)) (by decide +kernel), g_tb (List.mem_of_getElem? (i := 368) (by decide +kernel)) (by decide +kernel), ⟨rfl, by decide, by decide, by decide +kernel⟩, by decide⟩
theorem qs_X0_104 : g_site RX0 RX0 104 yX0_findTurning cX0_findTurning 8 (some .int) 3 := ⟨g_tb (List.mem_of_getElem? (i := 386) (by decide +kernel)) (by decide +kernel), g_tb (List.mem_of_getElem? (i := 388) (by decide +kernel)) (by decide +kernel), g_tb (List.mem_of_getElem? (i := 11) (by decide +kernel)) (by decide +kernel), g_tb (List.mem_of_getElem? (i := 36) (by decide +kernel)) (by decide +kernel), g_tb (List.mem_of_getElem? (i := 389) (by decide +kernel)) (by decide +kernel), ⟨rfl, by decide, by decide, by decide +kernel⟩, by decide⟩
theorem qs_X0_107 : g_site RX0 RX0 107 yX0_findTelling cX0_findTelling 7 (some .int) 3 := ⟨g_tb (List.mem_of_getElem? (i := 415) (by decide +kernel)) (by decide +kernel), g_tb (List.mem_of_getElem? (i := 417) (by decide +kernel)) (by decide +kernel), g_tb (List.mem_of_getElem? (i := 15) (by decide +kernel)) (by decide +kernel), g_tb (List.mem_of_getElem? (i := 36) (by decide +kernel)) (by decide +kernel), g_tb (List.mem_of_getElem? (i := 418) (by decide +kernel)) (by decide +kernel), ⟨rfl, by decide, by decide, by decide +kernel⟩, by decide⟩
theorem qs_X0_110 : g_site RX0 RX0 110 yX0_findAxle cX0_findAxle 6 (some .int) 3 := ⟨g_tb (List.mem_of_getElem? (i := 440) (by decide +kernel)) (by decide +kernel), g_tb (List.mem_of_getElem? (i := 442) (by decide +kernel)) (by decide +kernel), g_tb (List.mem_of_getElem? (i := 18) (by decide +kernel)) (by decide +kernel), g_tb (List.mem_of_getElem? (i := 36) (by decide +kernel)) (by decide +kernel), g_tb (List.mem_of_getElem? (i := 443) (by decide +kernel)) (by decide +kernel), ⟨rfl, by decide, by decide, by decide +kernel⟩, by decide⟩
theorem qs_X0_113 : g_site RX0 RX0 113 yX0_findEnd cX0_findEnd 8 (some .int) 3 := ⟨g_tb (List.mem_of_getElem? (i := 444) (by decide +kernel)) (by decide +kernel), g_tb (List.mem_of_getElem? (i := 446) (by decide +kernel)) (by decide +kernel), g_tb (List.mem_of_getElem? (i := 19) (by decide +kernel)) (by decide +kernel), g_tb (List.mem_of_getElem? (i := 36) (by decide +kernel)) (by decide +kernel), g_tb (List.mem_of_getElem? (i := 447) (by decide +kernel)) (by decide +kernel), ⟨rfl, by decide, by decide, by decide +kernel⟩, by decide⟩
theorem qs_X0_116 : g_site RX0 RX0 116 yX0_findChoice cX0_findChoice 8 (some .int) 3 := ⟨g_tb (List.mem_of_getElem? (i := 448) (by decide +kernel)) (by decide +kernel), g_tb (List.mem_of_getElem? (i := 450) (by decide +kernel)) (by decide +kernel), g_tb (List.mem_of_getElem? (i := 20) (by decide +kernel)) (by decide +kernel), g_tb (List.mem_of_getElem? (i := 36) (by decide +kernel)) (by decide +kernel), g_tb (List.mem_of_getElem? (i := 451) (by decide +kernel)) (by decide +kernel), ⟨rfl, by decide, by decide, by decide +kernel⟩, by decide⟩
theorem qs_X0_119 : g_site RX0 RX1 119 yX1_latest cX1_latest 3 (some .int) 1 := ⟨g_tb (List.mem_of_getElem? (i := 329) (by decide +kernel)) (by decide +kernel), g_tb (List.mem_of_getElem? (i := 330) (by decide +kernel)) (by decide +kernel), g_tb (List.mem_of_getElem? (i := 331) (by decide +kernel)) (by decide +kernel), g_tb (List.mem_of_getElem? (i := 38) (by decide +kernel)) (by decide +kernel), g_tb (List.mem_of_getElem? (i := 332) (by decide +kernel)) (by decide +kernel), ⟨rfl, by decide, by decide, by decide +kernel⟩, by decide⟩
theorem qs_X0_123 : g_site RX0 RX1 123 yX1_rowAt cX1_rowAt 2 (some (.array .int)) 1 := ⟨g_tb (List.mem_of_getElem? (i := 336) (by decide +kernel)) (by decide +kernel), g_tb (List.mem_of_getElem? (i := 337) (by decide +kernel)) (by decide +kernel), g_tb (List.mem_of_getElem? (i := 338) (by decide +kernel)) (by decide +kernel), g_tb (List.mem_of_getElem? (i := 38) (by decide +kernel)) (by decide +kernel), g_tb (List.mem_of_getElem? (i := 339) (by decide +kernel)) (by decide +kernel), ⟨rfl, by decide, by decide, by decide +kernel⟩, by decide⟩
theorem qs_X0_127 : g_site RX0 RX1 127 yX1_lengthAt cX1_lengthAt 2 (some .int) 1 := ⟨g_tb (List.mem_of_getElem? (i := 340) (by decide +kernel)) (by decide +kernel), g_tb (List.mem_of_getElem? (i := 341) (by decide +kernel)) (by decide +kernel), g_tb (List.mem_of_getElem? (i := 342) (by decide +kernel)) (by decide +kernel), g_tb (List.mem_of_getElem? (i := 38) (by decide +kernel)) (by decide +kernel), g_tb (List.mem_of_getElem? (i := 343) (by decide +kernel)) (by decide +kernel), ⟨rfl, by decide, by decide, by decide +kernel⟩, by decide⟩
theorem qs_X0_130 : g_site RX0 RX4 130 yX4_codeOfNode cX4_codeOfNode 2 (some .int) 1 := ⟨g_tb (List.mem_of_getElem? (i := 373) (by decide +kernel)) (by decide +kernel), g_tb (List.mem_of_getElem? (i := 374) (by decide +kernel)) (by decide +kernel), g_tb (List.mem_of_getElem? (i := 375) (by decide +kernel)) (by decide +kernel), g_tb (List.mem_of_getElem? (i := 37) (by decide +kernel)) (by decide +kernel), g_tb (List.mem_of_getElem? (i := 376) (by decide +kernel)) (by decide +kernel), ⟨rfl, by decide, by decide, by decide +kernel⟩, by decide⟩
theorem qs_X0_133 : g_site RX0 RX1 133 yX1_put cX1_put 6 (none) 3 := ⟨g_tb (List.mem_of_getElem? (i := 377) (by decide +kernel)) (by decide +kernel), g_tb (List.mem_of_getElem? (i := 378) (by decide +kernel)) (by decide +kernel), g_tb (List.mem_of_getElem? (i := 379) (by decide +kernel)) (by decide +kernel), g_tb (List.mem_of_getElem? (i := 38) (by decide +kernel)) (by decide +kernel), g_tb (List.mem_of_getElem? (i := 380) (by decide +kernel)) (by decide +kernel), ⟨rfl, by decide, by decide, by decide +kernel⟩, by decide⟩
theorem qs_X0_136 : g_site RX0 RX1 136 yX1_dropLast cX1_dropLast 1 (none) 0 := ⟨g_tb (List.mem_of_getElem? (i := 381) (by decide +kernel)) (by decide +kernel), g_tb (List.mem_of_getElem? (i := 382) (by decide +kernel)) (by decide +kernel), g_tb (List.mem_of_getElem? (i := 383) (by decide +kernel)) (by decide +kernel), g_tb (List.mem_of_getElem? (i := 38) (by decide +kernel)) (by decide +kernel), g_tb (List.mem_of_getElem? (i := 384) (by decide +kernel)) (by decide +kernel), ⟨rfl, by decide, by decide, by decide +kernel⟩, by decide⟩
theorem qs_X0_139 : g_site RX0 RX1 139 yX1_markAll cX1_markAll 5 (none) 1 := ⟨g_tb (List.mem_of_getElem? (i := 419) (by decide +kernel)) (by decide +kernel), g_tb (List.mem_of_getElem? (i := 420) (by decide +kernel)) (by decide +kernel), g_tb (List.mem_of_getElem? (i := 421) (by decide +kernel)) (by decide +kernel), g_tb (List.mem_of_getElem? (i := 38) (by decide +kernel)) (by decide +kernel), g_tb (List.mem_of_getElem? (i := 422) (by decide +kernel)) (by decide +kernel), ⟨rfl, by decide, by decide, by decide +kernel⟩, by decide⟩
theorem qs_X0_29 : g_site RX0 RX4 29 yX4_clear cX4_clear 1 (none) 0 := ⟨g_tb (List.mem_of_getElem? (i := 304) (by decide +kernel)) (by decide +kernel), g_tb (List.mem_of_getElem? (i := 305) (by decide +kernel)) (by decide +kernel), g_tb (List.mem_of_getElem? (i := 306) (by decide +kernel)) (by decide +kernel), g_tb (List.mem_of_getElem? (i := 37) (by decide +kernel)) (by decide +kernel), g_tb (List.mem_of_getElem? (i := 307) (by decide +kernel)) (by decide +kernel), ⟨rfl, by decide, by decide, by decide +kernel⟩, by decide⟩
theorem qs_X0_32 : g_site RX0 RX1 32 yX1_clear cX1_clear 1 (none) 0 := ⟨g_tb (List.mem_of_getElem? (i := 312) (by decide +kernel)) (by decide +kernel), g_tb (List.mem_of_getElem? (i := 313) (by decide +kernel)) (by decide +kernel), g_tb (List.mem_of_getElem? (i := 314) (by decide +kernel)) (by decide +kernel), g_tb (List.mem_of_getElem? (i := 38) (by decide +kernel)) (by decide +kernel), g_tb (List.mem_of_getElem? (i := 315) (by decide +kernel)) (by decide +kernel), ⟨rfl, by decide, by decide, by decide +kernel⟩, by decide⟩
theorem qs_X0_40 : g_site RX0 RX0 40 yX0_find cX0_find 5 (some .int) 3 := ⟨g_tb (List.mem_of_getElem? (i := 316) (by decide +kernel)) (by decide +kernel), g_tb (List.mem_of_getElem? (i := 318) (by decide +kernel)) (by decide +kernel), g_tb (List.mem_of_getElem? (i := 5) (by decide +kernel)) (by decide +kernel), g_tb (List.mem_of_getElem? (i := 36) (by decide +kernel)) (by decide +kernel), g_tb (List.mem_of_getElem? (i := 319) (by decide +kernel)) (by decide +kernel), ⟨rfl, by decide, by decide, by decide +kernel⟩, by decide⟩
theorem qs_X0_44 : g_site RX0 RX3 44 yX3_putFault cX3_putFault 4 (none) 3 := ⟨g_tb (List.mem_of_getElem? (i := 456) (by decide +kernel)) (by decide +kernel), g_tb (List.mem_of_getElem? (i := 457) (by decide +kernel)) (by decide +kernel), g_tb (List.mem_of_getElem? (i := 458) (by decide +kernel)) (by decide +kernel), g_tb (List.mem_of_getElem? (i := 35) (by decide +kernel)) (by decide +kernel), g_tb (List.mem_of_getElem? (i := 459) (by decide +kernel)) (by decide +kernel), ⟨rfl, by decide, by decide, by decide +kernel⟩, by decide⟩
theorem qs_X0_50 : g_site RX0 RX4 50 yX4_forgetMarks cX4_forgetMarks 1 (none) 0 := ⟨g_tb (List.mem_of_getElem? (i := 481) (by decide +kernel)) (by decide +kernel), g_tb (List.mem_of_getElem? (i := 408) (by decide +kernel)) (by decide +kernel), g_tb (List.mem_of_getElem? (i := 409) (by decide +kernel)) (by decide +kernel), g_tb (List.mem_of_getElem? (i := 37) (by decide +kernel)) (by decide +kernel), g_tb (List.mem_of_getElem? (i := 410) (by decide +kernel)) (by decide +kernel), ⟨rfl, by decide, by decide, by decide +kernel⟩, by decide⟩
theorem qs_X0_53 : g_site RX0 RX4 53 yX4_write cX4_write 6 (some .int) 2 := ⟨g_tb (List.mem_of_getElem? (i := 427) (by decide +kernel)) (by decide +kernel), g_tb (List.mem_of_getElem? (i := 428) (by decide +kernel)) (by decide +kernel), g_tb (List.mem_of_getElem? (i := 429) (by decide +kernel)) (by decide +kernel), g_tb (List.mem_of_getElem? (i := 37) (by decide +kernel)) (by decide +kernel), g_tb (List.mem_of_getElem? (i := 430) (by decide +kernel)) (by decide +kernel), ⟨rfl, by decide, by decide, by decide +kernel⟩, by decide⟩
theorem qs_X0_57 : g_site RX0 RX3 57 yX3_putRow cX3_putRow 6 (none) 3 := ⟨g_tb (List.mem_of_getElem? (i := 482) (by decide +kernel)) (by decide +kernel), g_tb (List.mem_of_getElem? (i := 483) (by decide +kernel)) (by decide +kernel), g_tb (List.mem_of_getElem? (i := 484) (by decide +kernel)) (by decide +kernel), g_tb (List.mem_of_getElem? (i := 35) (by decide +kernel)) (by decide +kernel), g_tb (List.mem_of_getElem? (i := 485) (by decide +kernel)) (by decide +kernel), ⟨rfl, by decide, by decide, by decide +kernel⟩, by decide⟩
theorem qs_X0_61 : g_site RX0 RX0 61 yX0_buildRow cX0_buildRow 5 (some .int) 2 := ⟨g_tb (List.mem_of_getElem? (i := 597) (by decide +kernel)) (by decide +kernel), g_tb (List.mem_of_getElem? (i := 599) (by decide +kernel)) (by decide +kernel), g_tb (List.mem_of_getElem? (i := 31) (by decide +kernel)) (by decide +kernel), g_tb (List.mem_of_getElem? (i := 36) (by decide +kernel)) (by decide +kernel), g_tb (List.mem_of_getElem? (i := 600) (by decide +kernel)) (by decide +kernel), ⟨rfl, by decide, by decide, by decide +kernel⟩, by decide⟩
theorem qs_X0_65 : g_site RX0 RX4 65 yX4_newVariable cX4_newVariable 1 (some .int) 0 := ⟨g_tb (List.mem_of_getElem? (i := 369) (by decide +kernel)) (by decide +kernel), g_tb (List.mem_of_getElem? (i := 370) (by decide +kernel)) (by decide +kernel), g_tb (List.mem_of_getElem? (i := 371) (by decide +kernel)) (by decide +kernel), g_tb (List.mem_of_getElem? (i := 37) (by decide +kernel)) (by decide +kernel), g_tb (List.mem_of_getElem? (i := 372) (by decide +kernel)) (by decide +kernel), ⟨rfl, by decide, by decide, by decide +kernel⟩, by decide⟩
theorem qs_X0_69 : g_site RX0 RX4 69 yX4_make cX4_make 4 (some .int) 3 := ⟨g_tb (List.mem_of_getElem? (i := 385) (by decide +kernel)) (by decide +kernel), g_tb (List.mem_of_getElem? (i := 309) (by decide +kernel)) (by decide +kernel), g_tb (List.mem_of_getElem? (i := 310) (by decide +kernel)) (by decide +kernel), g_tb (List.mem_of_getElem? (i := 37) (by decide +kernel)) (by decide +kernel), g_tb (List.mem_of_getElem? (i := 311) (by decide +kernel)) (by decide +kernel), ⟨rfl, by decide, by decide, by decide +kernel⟩, by decide⟩
theorem qs_X0_73 : g_site RX0 RX4 73 yX4_match cX4_match 9 (some .int) 2 := ⟨g_tb (List.mem_of_getElem? (i := 390) (by decide +kernel)) (by decide +kernel), g_tb (List.mem_of_getElem? (i := 391) (by decide +kernel)) (by decide +kernel), g_tb (List.mem_of_getElem? (i := 392) (by decide +kernel)) (by decide +kernel), g_tb (List.mem_of_getElem? (i := 37) (by decide +kernel)) (by decide +kernel), g_tb (List.mem_of_getElem? (i := 393) (by decide +kernel)) (by decide +kernel), ⟨rfl, by decide, by decide, by decide +kernel⟩, by decide⟩
theorem qs_X0_77 : g_site RX0 RX0 77 yX0_isTooLong cX0_isTooLong 2 (some .boolean) 1 := ⟨g_tb (List.mem_of_getElem? (i := 452) (by decide +kernel)) (by decide +kernel), g_tb (List.mem_of_getElem? (i := 454) (by decide +kernel)) (by decide +kernel), g_tb (List.mem_of_getElem? (i := 21) (by decide +kernel)) (by decide +kernel), g_tb (List.mem_of_getElem? (i := 36) (by decide +kernel)) (by decide +kernel), g_tb (List.mem_of_getElem? (i := 455) (by decide +kernel)) (by decide +kernel), ⟨rfl, by decide, by decide, by decide +kernel⟩, by decide⟩
theorem qs_X0_81 : g_site RX0 RX3 81 yX3_fact cX3_fact 4 (some .int) 2 := ⟨g_tb (List.mem_of_getElem? (i := 601) (by decide +kernel)) (by decide +kernel), g_tb (List.mem_of_getElem? (i := 556) (by decide +kernel)) (by decide +kernel), g_tb (List.mem_of_getElem? (i := 557) (by decide +kernel)) (by decide +kernel), g_tb (List.mem_of_getElem? (i := 35) (by decide +kernel)) (by decide +kernel), g_tb (List.mem_of_getElem? (i := 558) (by decide +kernel)) (by decide +kernel), ⟨rfl, by decide, by decide, by decide +kernel⟩, by decide⟩
theorem qs_X0_84 : g_site RX0 RX3 84 yX3_codeAt cX3_codeAt 4 (some .int) 2 := ⟨g_tb (List.mem_of_getElem? (i := 602) (by decide +kernel)) (by decide +kernel), g_tb (List.mem_of_getElem? (i := 469) (by decide +kernel)) (by decide +kernel), g_tb (List.mem_of_getElem? (i := 470) (by decide +kernel)) (by decide +kernel), g_tb (List.mem_of_getElem? (i := 35) (by decide +kernel)) (by decide +kernel), g_tb (List.mem_of_getElem? (i := 471) (by decide +kernel)) (by decide +kernel), ⟨rfl, by decide, by decide, by decide +kernel⟩, by decide⟩
theorem qs_X0_87 : g_site RX0 RX4 87 yX4_build cX4_build 7 (some .int) 2 := ⟨g_tb (List.mem_of_getElem? (i := 344) (by decide +kernel)) (by decide +kernel), g_tb (List.mem_of_getElem? (i := 345) (by decide +kernel)) (by decide +kernel), g_tb (List.mem_of_getElem? (i := 346) (by decide +kernel)) (by decide +kernel), g_tb (List.mem_of_getElem? (i := 37) (by decide +kernel)) (by decide +kernel), g_tb (List.mem_of_getElem? (i := 347) (by decide +kernel)) (by decide +kernel), ⟨rfl, by decide, by decide, by decide +kernel⟩, by decide⟩
theorem qs_X0_91 : g_site RX0 RX0 91 yX0_fail cX0_fail 3 (some .int) 2 := ⟨g_tb (List.mem_of_getElem? (i := 320) (by decide +kernel)) (by decide +kernel), g_tb (List.mem_of_getElem? (i := 322) (by decide +kernel)) (by decide +kernel), g_tb (List.mem_of_getElem? (i := 6) (by decide +kernel)) (by decide +kernel), g_tb (List.mem_of_getElem? (i := 36) (by decide +kernel)) (by decide +kernel), g_tb (List.mem_of_getElem? (i := 323) (by decide +kernel)) (by decide +kernel), ⟨rfl, by decide, by decide, by decide +kernel⟩, by decide⟩
theorem qs_X0_94 : g_site RX0 RX2 94 yX2_fact cX2_fact 4 (some .int) 2 := ⟨g_tb (List.mem_of_getElem? (i := 324) (by decide +kernel)) (by decide +kernel), g_tb (List.mem_of_getElem? (i := 266) (by decide +kernel)) (by decide +kernel), g_tb (List.mem_of_getElem? (i := 267) (by decide +kernel)) (by decide +kernel), g_tb (List.mem_of_getElem? (i := 34) (by decide +kernel)) (by decide +kernel), g_tb (List.mem_of_getElem? (i := 268) (by decide +kernel)) (by decide +kernel), ⟨rfl, by decide, by decide, by decide +kernel⟩, by decide⟩
theorem qs_X0_97 : g_site RX0 RX0 97 yX0_findName cX0_findName 4 (some .int) 2 := ⟨g_tb (List.mem_of_getElem? (i := 325) (by decide +kernel)) (by decide +kernel), g_tb (List.mem_of_getElem? (i := 327) (by decide +kernel)) (by decide +kernel), g_tb (List.mem_of_getElem? (i := 7) (by decide +kernel)) (by decide +kernel), g_tb (List.mem_of_getElem? (i := 36) (by decide +kernel)) (by decide +kernel), g_tb (List.mem_of_getElem? (i := 328) (by decide +kernel)) (by decide +kernel), ⟨rfl, by decide, by decide, by decide +kernel⟩, by decide⟩
theorem gu_0 : ∀ w ∈ wsX00, w ∈ gtb := by decide +kernel
theorem dX0_fail_0 : decode cX0_fail 0 = .ok (.aload_n 0, 1) := by decide +kernel
theorem dX0_fail_1 : decode cX0_fail 1 = .ok (.iload_n 1, 1) := by decide +kernel
theorem dX0_fail_2 : decode cX0_fail 2 = .ok (.putfield 33, 3) := by decide +kernel
theorem dX0_fail_5 : decode cX0_fail 5 = .ok (.aload_n 0, 1) := by decide +kernel
theorem dX0_fail_6 : decode cX0_fail 6 = .ok (.iload_n 2, 1) := by decide +kernel
theorem dX0_fail_7 : decode cX0_fail 7 = .ok (.putfield 37, 3) := by decide +kernel
theorem dX0_fail_10 : decode cX0_fail 10 = .ok (.iconst (-1), 1) := by decide +kernel
theorem dX0_fail_11 : decode cX0_fail 11 = .ok (.ireturn, 1) := by decide +kernel
theorem dX0_isTooLong_0 : decode cX0_isTooLong 0 = .ok (.aload_n 0, 1) := by decide +kernel
theorem dX0_isTooLong_1 : decode cX0_isTooLong 1 = .ok (.getfield 12, 3) := by decide +kernel
theorem dX0_isTooLong_4 : decode cX0_isTooLong 4 = .ok (.iload_n 1, 1) := by decide +kernel
theorem dX0_isTooLong_5 : decode cX0_isTooLong 5 = .ok (.aload_n 0, 1) := by decide +kernel
theorem dX0_isTooLong_6 : decode cX0_isTooLong 6 = .ok (.getfield 25, 3) := by decide +kernel
theorem dX0_isTooLong_9 : decode cX0_isTooLong 9 = .ok (.invokevirtual 53, 3) := by decide +kernel
theorem dX0_isTooLong_12 : decode cX0_isTooLong 12 = .ok (.bipush 60, 2) := by decide +kernel
theorem dX0_isTooLong_14 : decode cX0_isTooLong 14 = .ok (.if_icmp .le 7, 3) := by decide +kernel
theorem dX0_isTooLong_17 : decode cX0_isTooLong 17 = .ok (.iconst 1, 1) := by decide +kernel
theorem dX0_isTooLong_18 : decode cX0_isTooLong 18 = .ok (.goto 4, 3) := by decide +kernel
theorem dX0_isTooLong_21 : decode cX0_isTooLong 21 = .ok (.iconst 0, 1) := by decide +kernel
theorem dX0_isTooLong_22 : decode cX0_isTooLong 22 = .ok (.ireturn, 1) := by decide +kernel
theorem dX0_findName_0 : decode cX0_findName 0 = .ok (.aload_n 0, 1) := by decide +kernel
theorem dX0_findName_1 : decode cX0_findName 1 = .ok (.getfield 21, 3) := by decide +kernel
theorem dX0_findName_4 : decode cX0_findName 4 = .ok (.aload_n 1, 1) := by decide +kernel
theorem dX0_findName_5 : decode cX0_findName 5 = .ok (.iload_n 2, 1) := by decide +kernel
theorem dX0_findName_6 : decode cX0_findName 6 = .ok (.iconst 4, 1) := by decide +kernel
theorem dX0_findName_7 : decode cX0_findName 7 = .ok (.invokevirtual 94, 3) := by decide +kernel
theorem dX0_findName_10 : decode cX0_findName 10 = .ok (.invokevirtual 119, 3) := by decide +kernel
theorem dX0_findName_13 : decode cX0_findName 13 = .ok (.istore_n 3, 1) := by decide +kernel
theorem dX0_findName_14 : decode cX0_findName 14 = .ok (.iload_n 3, 1) := by decide +kernel
theorem dX0_findName_15 : decode cX0_findName 15 = .ok (.iconst (-1), 1) := by decide +kernel
theorem dX0_findName_16 : decode cX0_findName 16 = .ok (.if_icmp .ne 10, 3) := by decide +kernel
theorem dX0_findName_19 : decode cX0_findName 19 = .ok (.aload_n 0, 1) := by decide +kernel
theorem dX0_findName_20 : decode cX0_findName 20 = .ok (.iconst 1, 1) := by decide +kernel
theorem dX0_findName_21 : decode cX0_findName 21 = .ok (.iload_n 2, 1) := by decide +kernel
theorem dX0_findName_22 : decode cX0_findName 22 = .ok (.invokevirtual 91, 3) := by decide +kernel
theorem dX0_findName_25 : decode cX0_findName 25 = .ok (.ireturn, 1) := by decide +kernel
theorem dX0_findName_26 : decode cX0_findName 26 = .ok (.aload_n 0, 1) := by decide +kernel
theorem dX0_findName_27 : decode cX0_findName 27 = .ok (.getfield 12, 3) := by decide +kernel
theorem dX0_findName_30 : decode cX0_findName 30 = .ok (.aload_n 0, 1) := by decide +kernel
theorem dX0_findName_31 : decode cX0_findName 31 = .ok (.getfield 21, 3) := by decide +kernel
theorem dX0_findName_34 : decode cX0_findName 34 = .ok (.iload_n 3, 1) := by decide +kernel
theorem dX0_findName_35 : decode cX0_findName 35 = .ok (.invokevirtual 123, 3) := by decide +kernel
theorem dX0_findName_38 : decode cX0_findName 38 = .ok (.aload_n 0, 1) := by decide +kernel
theorem dX0_findName_39 : decode cX0_findName 39 = .ok (.getfield 21, 3) := by decide +kernel
theorem dX0_findName_42 : decode cX0_findName 42 = .ok (.iload_n 3, 1) := by decide +kernel
theorem dX0_findName_43 : decode cX0_findName 43 = .ok (.invokevirtual 127, 3) := by decide +kernel
theorem dX0_findName_46 : decode cX0_findName 46 = .ok (.invokevirtual 87, 3) := by decide +kernel
theorem dX0_findName_49 : decode cX0_findName 49 = .ok (.ireturn, 1) := by decide +kernel
theorem dX0_buildRow_0 : decode cX0_buildRow 0 = .ok (.aload_n 1, 1) := by decide +kernel
theorem dX0_buildRow_1 : decode cX0_buildRow 1 = .ok (.iload_n 2, 1) := by decide +kernel
theorem dX0_buildRow_2 : decode cX0_buildRow 2 = .ok (.iconst 2, 1) := by decide +kernel
theorem dX0_buildRow_3 : decode cX0_buildRow 3 = .ok (.invokevirtual 81, 3) := by decide +kernel
theorem dX0_buildRow_6 : decode cX0_buildRow 6 = .ok (.istore_n 3, 1) := by decide +kernel
theorem dX0_buildRow_7 : decode cX0_buildRow 7 = .ok (.iconst 0, 1) := by decide +kernel
theorem dX0_buildRow_8 : decode cX0_buildRow 8 = .ok (.istore 4, 2) := by decide +kernel
theorem dX0_buildRow_10 : decode cX0_buildRow 10 = .ok (.iload 4, 2) := by decide +kernel
theorem dX0_buildRow_12 : decode cX0_buildRow 12 = .ok (.iload_n 3, 1) := by decide +kernel
theorem dX0_buildRow_13 : decode cX0_buildRow 13 = .ok (.if_icmp .ge 30, 3) := by decide +kernel
theorem dX0_buildRow_16 : decode cX0_buildRow 16 = .ok (.iload 4, 2) := by decide +kernel
theorem dX0_buildRow_18 : decode cX0_buildRow 18 = .ok (.bipush 60, 2) := by decide +kernel
theorem dX0_buildRow_20 : decode cX0_buildRow 20 = .ok (.if_icmp .ge 23, 3) := by decide +kernel
theorem dX0_buildRow_23 : decode cX0_buildRow 23 = .ok (.aload_n 0, 1) := by decide +kernel
theorem dX0_buildRow_24 : decode cX0_buildRow 24 = .ok (.getfield 25, 3) := by decide +kernel
theorem dX0_buildRow_27 : decode cX0_buildRow 27 = .ok (.iload 4, 2) := by decide +kernel
theorem dX0_buildRow_29 : decode cX0_buildRow 29 = .ok (.aload_n 1, 1) := by decide +kernel
theorem dX0_buildRow_30 : decode cX0_buildRow 30 = .ok (.iload_n 2, 1) := by decide +kernel
theorem dX0_buildRow_31 : decode cX0_buildRow 31 = .ok (.iload 4, 2) := by decide +kernel
theorem dX0_buildRow_33 : decode cX0_buildRow 33 = .ok (.invokevirtual 84, 3) := by decide +kernel
theorem dX0_buildRow_36 : decode cX0_buildRow 36 = .ok (.iastore, 1) := by decide +kernel
theorem dX0_buildRow_37 : decode cX0_buildRow 37 = .ok (.iinc 4 1, 3) := by decide +kernel
theorem dX0_buildRow_40 : decode cX0_buildRow 40 = .ok (.goto (-30), 3) := by decide +kernel
theorem dX0_buildRow_43 : decode cX0_buildRow 43 = .ok (.aload_n 0, 1) := by decide +kernel
theorem dX0_buildRow_44 : decode cX0_buildRow 44 = .ok (.getfield 12, 3) := by decide +kernel
theorem dX0_buildRow_47 : decode cX0_buildRow 47 = .ok (.aload_n 0, 1) := by decide +kernel
theorem dX0_buildRow_48 : decode cX0_buildRow 48 = .ok (.getfield 25, 3) := by decide +kernel
theorem dX0_buildRow_51 : decode cX0_buildRow 51 = .ok (.iload_n 3, 1) := by decide +kernel
theorem dX0_buildRow_52 : decode cX0_buildRow 52 = .ok (.invokevirtual 87, 3) := by decide +kernel
theorem dX0_buildRow_55 : decode cX0_buildRow 55 = .ok (.ireturn, 1) := by decide +kernel
theorem dX0_faultOfTurning_0 : decode cX0_faultOfTurning 0 = .ok (.aload_n 0, 1) := by decide +kernel
theorem dX0_faultOfTurning_1 : decode cX0_faultOfTurning 1 = .ok (.getfield 12, 3) := by decide +kernel
theorem dX0_faultOfTurning_4 : decode cX0_faultOfTurning 4 = .ok (.invokevirtual 29, 3) := by decide +kernel
theorem dX0_faultOfTurning_7 : decode cX0_faultOfTurning 7 = .ok (.aload_n 0, 1) := by decide +kernel
theorem dX0_faultOfTurning_8 : decode cX0_faultOfTurning 8 = .ok (.aload_n 1, 1) := by decide +kernel
theorem dX0_faultOfTurning_9 : decode cX0_faultOfTurning 9 = .ok (.iload_n 2, 1) := by decide +kernel
theorem dX0_faultOfTurning_10 : decode cX0_faultOfTurning 10 = .ok (.invokevirtual 61, 3) := by decide +kernel
theorem dX0_faultOfTurning_13 : decode cX0_faultOfTurning 13 = .ok (.istore 4, 2) := by decide +kernel
theorem dX0_faultOfTurning_15 : decode cX0_faultOfTurning 15 = .ok (.aload_n 0, 1) := by decide +kernel
theorem dX0_faultOfTurning_16 : decode cX0_faultOfTurning 16 = .ok (.aload_n 1, 1) := by decide +kernel
theorem dX0_faultOfTurning_17 : decode cX0_faultOfTurning 17 = .ok (.iload_n 3, 1) := by decide +kernel
theorem dX0_faultOfTurning_18 : decode cX0_faultOfTurning 18 = .ok (.invokevirtual 61, 3) := by decide +kernel
theorem dX0_faultOfTurning_21 : decode cX0_faultOfTurning 21 = .ok (.istore 5, 2) := by decide +kernel
theorem dX0_faultOfTurning_23 : decode cX0_faultOfTurning 23 = .ok (.aload_n 0, 1) := by decide +kernel
theorem dX0_faultOfTurning_24 : decode cX0_faultOfTurning 24 = .ok (.getfield 12, 3) := by decide +kernel
theorem dX0_faultOfTurning_27 : decode cX0_faultOfTurning 27 = .ok (.invokevirtual 65, 3) := by decide +kernel
theorem dX0_faultOfTurning_30 : decode cX0_faultOfTurning 30 = .ok (.istore 6, 2) := by decide +kernel
theorem dX0_faultOfTurning_32 : decode cX0_faultOfTurning 32 = .ok (.aload_n 0, 1) := by decide +kernel
theorem dX0_faultOfTurning_33 : decode cX0_faultOfTurning 33 = .ok (.getfield 12, 3) := by decide +kernel
theorem dX0_faultOfTurning_36 : decode cX0_faultOfTurning 36 = .ok (.iload 4, 2) := by decide +kernel
theorem dX0_faultOfTurning_38 : decode cX0_faultOfTurning 38 = .ok (.aload_n 0, 1) := by decide +kernel
theorem dX0_faultOfTurning_39 : decode cX0_faultOfTurning 39 = .ok (.getfield 12, 3) := by decide +kernel
theorem dX0_faultOfTurning_42 : decode cX0_faultOfTurning 42 = .ok (.iconst 2, 1) := by decide +kernel
theorem dX0_faultOfTurning_43 : decode cX0_faultOfTurning 43 = .ok (.iload 5, 2) := by decide +kernel
theorem dX0_faultOfTurning_45 : decode cX0_faultOfTurning 45 = .ok (.iload 6, 2) := by decide +kernel
theorem dX0_faultOfTurning_47 : decode cX0_faultOfTurning 47 = .ok (.invokevirtual 69, 3) := by decide +kernel
theorem dX0_faultOfTurning_50 : decode cX0_faultOfTurning 50 = .ok (.invokevirtual 73, 3) := by decide +kernel
theorem dX0_faultOfTurning_53 : decode cX0_faultOfTurning 53 = .ok (.istore 7, 2) := by decide +kernel
theorem dX0_faultOfTurning_55 : decode cX0_faultOfTurning 55 = .ok (.iload 7, 2) := by decide +kernel
theorem dX0_faultOfTurning_57 : decode cX0_faultOfTurning 57 = .ok (.ifCond .eq 6, 3) := by decide +kernel
theorem dX0_faultOfTurning_60 : decode cX0_faultOfTurning 60 = .ok (.iload 7, 2) := by decide +kernel
theorem dX0_faultOfTurning_62 : decode cX0_faultOfTurning 62 = .ok (.ireturn, 1) := by decide +kernel
theorem dX0_faultOfTurning_63 : decode cX0_faultOfTurning 63 = .ok (.aload_n 0, 1) := by decide +kernel
theorem dX0_faultOfTurning_64 : decode cX0_faultOfTurning 64 = .ok (.iload 6, 2) := by decide +kernel
theorem dX0_faultOfTurning_66 : decode cX0_faultOfTurning 66 = .ok (.invokevirtual 77, 3) := by decide +kernel
theorem dX0_faultOfTurning_69 : decode cX0_faultOfTurning 69 = .ok (.ifCond .eq 7, 3) := by decide +kernel
theorem dX0_faultOfTurning_72 : decode cX0_faultOfTurning 72 = .ok (.iconst 4, 1) := by decide +kernel
theorem dX0_faultOfTurning_73 : decode cX0_faultOfTurning 73 = .ok (.goto 4, 3) := by decide +kernel
theorem dX0_faultOfTurning_76 : decode cX0_faultOfTurning 76 = .ok (.iconst 0, 1) := by decide +kernel
theorem dX0_faultOfTurning_77 : decode cX0_faultOfTurning 77 = .ok (.ireturn, 1) := by decide +kernel
theorem dX0_findWheel_0 : decode cX0_findWheel 0 = .ok (.aload_n 0, 1) := by decide +kernel
theorem dX0_findWheel_1 : decode cX0_findWheel 1 = .ok (.getfield 12, 3) := by decide +kernel
theorem dX0_findWheel_4 : decode cX0_findWheel 4 = .ok (.invokevirtual 65, 3) := by decide +kernel
theorem dX0_findWheel_7 : decode cX0_findWheel 7 = .ok (.istore 4, 2) := by decide +kernel
theorem dX0_findWheel_9 : decode cX0_findWheel 9 = .ok (.aload_n 0, 1) := by decide +kernel
theorem dX0_findWheel_10 : decode cX0_findWheel 10 = .ok (.getfield 25, 3) := by decide +kernel
theorem dX0_findWheel_13 : decode cX0_findWheel 13 = .ok (.iconst 0, 1) := by decide +kernel
theorem dX0_findWheel_14 : decode cX0_findWheel 14 = .ok (.aload_n 0, 1) := by decide +kernel
theorem dX0_findWheel_15 : decode cX0_findWheel 15 = .ok (.getfield 12, 3) := by decide +kernel
theorem dX0_findWheel_18 : decode cX0_findWheel 18 = .ok (.iload 4, 2) := by decide +kernel
theorem dX0_findWheel_20 : decode cX0_findWheel 20 = .ok (.invokevirtual 130, 3) := by decide +kernel
theorem dX0_findWheel_23 : decode cX0_findWheel 23 = .ok (.iastore, 1) := by decide +kernel
theorem dX0_findWheel_24 : decode cX0_findWheel 24 = .ok (.aload_n 0, 1) := by decide +kernel
theorem dX0_findWheel_25 : decode cX0_findWheel 25 = .ok (.getfield 21, 3) := by decide +kernel
theorem dX0_findWheel_28 : decode cX0_findWheel 28 = .ok (.aload_n 1, 1) := by decide +kernel
theorem dX0_findWheel_29 : decode cX0_findWheel 29 = .ok (.iload_n 2, 1) := by decide +kernel
theorem dX0_findWheel_30 : decode cX0_findWheel 30 = .ok (.iconst 4, 1) := by decide +kernel
theorem dX0_findWheel_31 : decode cX0_findWheel 31 = .ok (.invokevirtual 94, 3) := by decide +kernel
theorem dX0_findWheel_34 : decode cX0_findWheel 34 = .ok (.aload_n 0, 1) := by decide +kernel
theorem dX0_findWheel_35 : decode cX0_findWheel 35 = .ok (.getfield 25, 3) := by decide +kernel
theorem dX0_findWheel_38 : decode cX0_findWheel 38 = .ok (.iconst 1, 1) := by decide +kernel
theorem dX0_findWheel_39 : decode cX0_findWheel 39 = .ok (.invokevirtual 133, 3) := by decide +kernel
theorem dX0_findWheel_42 : decode cX0_findWheel 42 = .ok (.aload_n 0, 1) := by decide +kernel
theorem dX0_findWheel_43 : decode cX0_findWheel 43 = .ok (.aload_n 1, 1) := by decide +kernel
theorem dX0_findWheel_44 : decode cX0_findWheel 44 = .ok (.aload_n 1, 1) := by decide +kernel
theorem dX0_findWheel_45 : decode cX0_findWheel 45 = .ok (.iload_n 2, 1) := by decide +kernel
theorem dX0_findWheel_46 : decode cX0_findWheel 46 = .ok (.iconst 1, 1) := by decide +kernel
theorem dX0_findWheel_47 : decode cX0_findWheel 47 = .ok (.invokevirtual 94, 3) := by decide +kernel
theorem dX0_findWheel_50 : decode cX0_findWheel 50 = .ok (.iload_n 3, 1) := by decide +kernel
theorem dX0_findWheel_51 : decode cX0_findWheel 51 = .ok (.iconst 1, 1) := by decide +kernel
theorem dX0_findWheel_52 : decode cX0_findWheel 52 = .ok (.iadd, 1) := by decide +kernel
theorem dX0_findWheel_53 : decode cX0_findWheel 53 = .ok (.invokevirtual 40, 3) := by decide +kernel
theorem dX0_findWheel_56 : decode cX0_findWheel 56 = .ok (.istore 5, 2) := by decide +kernel
theorem dX0_findWheel_58 : decode cX0_findWheel 58 = .ok (.aload_n 0, 1) := by decide +kernel
theorem dX0_findWheel_59 : decode cX0_findWheel 59 = .ok (.getfield 21, 3) := by decide +kernel
theorem dX0_findWheel_62 : decode cX0_findWheel 62 = .ok (.invokevirtual 136, 3) := by decide +kernel
theorem dX0_findWheel_65 : decode cX0_findWheel 65 = .ok (.iload 5, 2) := by decide +kernel
theorem dX0_findWheel_67 : decode cX0_findWheel 67 = .ok (.iconst (-1), 1) := by decide +kernel
theorem dX0_findWheel_68 : decode cX0_findWheel 68 = .ok (.if_icmp .ne 7, 3) := by decide +kernel
theorem dX0_findWheel_71 : decode cX0_findWheel 71 = .ok (.iconst (-1), 1) := by decide +kernel
theorem dX0_findWheel_72 : decode cX0_findWheel 72 = .ok (.goto 15, 3) := by decide +kernel
theorem dX0_findWheel_75 : decode cX0_findWheel 75 = .ok (.aload_n 0, 1) := by decide +kernel
theorem dX0_findWheel_76 : decode cX0_findWheel 76 = .ok (.getfield 12, 3) := by decide +kernel
theorem dX0_findWheel_79 : decode cX0_findWheel 79 = .ok (.iconst 2, 1) := by decide +kernel
theorem dX0_findWheel_80 : decode cX0_findWheel 80 = .ok (.iload 4, 2) := by decide +kernel
theorem dX0_findWheel_82 : decode cX0_findWheel 82 = .ok (.iload 5, 2) := by decide +kernel
theorem dX0_findWheel_84 : decode cX0_findWheel 84 = .ok (.invokevirtual 69, 3) := by decide +kernel
theorem dX0_findWheel_87 : decode cX0_findWheel 87 = .ok (.ireturn, 1) := by decide +kernel
theorem dX0_findTurning_0 : decode cX0_findTurning 0 = .ok (.aload_n 0, 1) := by decide +kernel
theorem dX0_findTurning_1 : decode cX0_findTurning 1 = .ok (.aload_n 1, 1) := by decide +kernel
theorem dX0_findTurning_2 : decode cX0_findTurning 2 = .ok (.aload_n 1, 1) := by decide +kernel
theorem dX0_findTurning_3 : decode cX0_findTurning 3 = .ok (.iload_n 2, 1) := by decide +kernel
theorem dX0_findTurning_4 : decode cX0_findTurning 4 = .ok (.iconst 1, 1) := by decide +kernel
theorem dX0_findTurning_5 : decode cX0_findTurning 5 = .ok (.invokevirtual 94, 3) := by decide +kernel
theorem dX0_findTurning_8 : decode cX0_findTurning 8 = .ok (.iload_n 3, 1) := by decide +kernel
theorem dX0_findTurning_9 : decode cX0_findTurning 9 = .ok (.iconst 1, 1) := by decide +kernel
theorem dX0_findTurning_10 : decode cX0_findTurning 10 = .ok (.iadd, 1) := by decide +kernel
theorem dX0_findTurning_11 : decode cX0_findTurning 11 = .ok (.invokevirtual 40, 3) := by decide +kernel
theorem dX0_findTurning_14 : decode cX0_findTurning 14 = .ok (.istore 4, 2) := by decide +kernel
theorem dX0_findTurning_16 : decode cX0_findTurning 16 = .ok (.iload 4, 2) := by decide +kernel
theorem dX0_findTurning_18 : decode cX0_findTurning 18 = .ok (.iconst (-1), 1) := by decide +kernel
theorem dX0_findTurning_19 : decode cX0_findTurning 19 = .ok (.if_icmp .ne 5, 3) := by decide +kernel
theorem dX0_findTurning_22 : decode cX0_findTurning 22 = .ok (.iconst (-1), 1) := by decide +kernel
theorem dX0_findTurning_23 : decode cX0_findTurning 23 = .ok (.ireturn, 1) := by decide +kernel
theorem dX0_findTurning_24 : decode cX0_findTurning 24 = .ok (.aload_n 0, 1) := by decide +kernel
theorem dX0_findTurning_25 : decode cX0_findTurning 25 = .ok (.aload_n 1, 1) := by decide +kernel
theorem dX0_findTurning_26 : decode cX0_findTurning 26 = .ok (.aload_n 1, 1) := by decide +kernel
theorem dX0_findTurning_27 : decode cX0_findTurning 27 = .ok (.iload_n 2, 1) := by decide +kernel
theorem dX0_findTurning_28 : decode cX0_findTurning 28 = .ok (.iconst 2, 1) := by decide +kernel
theorem dX0_findTurning_29 : decode cX0_findTurning 29 = .ok (.invokevirtual 94, 3) := by decide +kernel
theorem dX0_findTurning_32 : decode cX0_findTurning 32 = .ok (.iload_n 3, 1) := by decide +kernel
theorem dX0_findTurning_33 : decode cX0_findTurning 33 = .ok (.iconst 1, 1) := by decide +kernel
theorem dX0_findTurning_34 : decode cX0_findTurning 34 = .ok (.iadd, 1) := by decide +kernel
theorem dX0_findTurning_35 : decode cX0_findTurning 35 = .ok (.invokevirtual 40, 3) := by decide +kernel
theorem dX0_findTurning_38 : decode cX0_findTurning 38 = .ok (.istore 5, 2) := by decide +kernel
theorem dX0_findTurning_40 : decode cX0_findTurning 40 = .ok (.iload 5, 2) := by decide +kernel
theorem dX0_findTurning_42 : decode cX0_findTurning 42 = .ok (.iconst (-1), 1) := by decide +kernel
theorem dX0_findTurning_43 : decode cX0_findTurning 43 = .ok (.if_icmp .ne 5, 3) := by decide +kernel
theorem dX0_findTurning_46 : decode cX0_findTurning 46 = .ok (.iconst (-1), 1) := by decide +kernel
theorem dX0_findTurning_47 : decode cX0_findTurning 47 = .ok (.ireturn, 1) := by decide +kernel
theorem dX0_findTurning_48 : decode cX0_findTurning 48 = .ok (.aload_n 0, 1) := by decide +kernel
theorem dX0_findTurning_49 : decode cX0_findTurning 49 = .ok (.getfield 12, 3) := by decide +kernel
theorem dX0_findTurning_52 : decode cX0_findTurning 52 = .ok (.invokevirtual 65, 3) := by decide +kernel
theorem dX0_findTurning_55 : decode cX0_findTurning 55 = .ok (.istore 6, 2) := by decide +kernel
theorem dX0_findTurning_57 : decode cX0_findTurning 57 = .ok (.aload_n 0, 1) := by decide +kernel
theorem dX0_findTurning_58 : decode cX0_findTurning 58 = .ok (.getfield 12, 3) := by decide +kernel
theorem dX0_findTurning_61 : decode cX0_findTurning 61 = .ok (.iload 4, 2) := by decide +kernel
theorem dX0_findTurning_63 : decode cX0_findTurning 63 = .ok (.aload_n 0, 1) := by decide +kernel
theorem dX0_findTurning_64 : decode cX0_findTurning 64 = .ok (.getfield 12, 3) := by decide +kernel
theorem dX0_findTurning_67 : decode cX0_findTurning 67 = .ok (.iconst 2, 1) := by decide +kernel
theorem dX0_findTurning_68 : decode cX0_findTurning 68 = .ok (.iload 5, 2) := by decide +kernel
theorem dX0_findTurning_70 : decode cX0_findTurning 70 = .ok (.iload 6, 2) := by decide +kernel
theorem dX0_findTurning_72 : decode cX0_findTurning 72 = .ok (.invokevirtual 69, 3) := by decide +kernel
theorem dX0_findTurning_75 : decode cX0_findTurning 75 = .ok (.invokevirtual 73, 3) := by decide +kernel
theorem dX0_findTurning_78 : decode cX0_findTurning 78 = .ok (.istore 7, 2) := by decide +kernel
theorem dX0_findTurning_80 : decode cX0_findTurning 80 = .ok (.iload 7, 2) := by decide +kernel
theorem dX0_findTurning_82 : decode cX0_findTurning 82 = .ok (.ifCond .ne 8, 3) := by decide +kernel
theorem dX0_findTurning_85 : decode cX0_findTurning 85 = .ok (.iload 6, 2) := by decide +kernel
theorem dX0_findTurning_87 : decode cX0_findTurning 87 = .ok (.goto 10, 3) := by decide +kernel
theorem dX0_findTurning_90 : decode cX0_findTurning 90 = .ok (.aload_n 0, 1) := by decide +kernel
theorem dX0_findTurning_91 : decode cX0_findTurning 91 = .ok (.iload 7, 2) := by decide +kernel
theorem dX0_findTurning_93 : decode cX0_findTurning 93 = .ok (.iload_n 2, 1) := by decide +kernel
theorem dX0_findTurning_94 : decode cX0_findTurning 94 = .ok (.invokevirtual 91, 3) := by decide +kernel
theorem dX0_findTurning_97 : decode cX0_findTurning 97 = .ok (.ireturn, 1) := by decide +kernel
theorem dX0_findTelling_0 : decode cX0_findTelling 0 = .ok (.aload_n 0, 1) := by decide +kernel
theorem dX0_findTelling_1 : decode cX0_findTelling 1 = .ok (.aload_n 1, 1) := by decide +kernel
theorem dX0_findTelling_2 : decode cX0_findTelling 2 = .ok (.aload_n 1, 1) := by decide +kernel
theorem dX0_findTelling_3 : decode cX0_findTelling 3 = .ok (.iload_n 2, 1) := by decide +kernel
theorem dX0_findTelling_4 : decode cX0_findTelling 4 = .ok (.iconst 1, 1) := by decide +kernel
theorem dX0_findTelling_5 : decode cX0_findTelling 5 = .ok (.invokevirtual 94, 3) := by decide +kernel
theorem dX0_findTelling_8 : decode cX0_findTelling 8 = .ok (.iload_n 3, 1) := by decide +kernel
theorem dX0_findTelling_9 : decode cX0_findTelling 9 = .ok (.iconst 1, 1) := by decide +kernel
theorem dX0_findTelling_10 : decode cX0_findTelling 10 = .ok (.iadd, 1) := by decide +kernel
theorem dX0_findTelling_11 : decode cX0_findTelling 11 = .ok (.invokevirtual 40, 3) := by decide +kernel
theorem dX0_findTelling_14 : decode cX0_findTelling 14 = .ok (.istore 4, 2) := by decide +kernel
theorem dX0_findTelling_16 : decode cX0_findTelling 16 = .ok (.iload 4, 2) := by decide +kernel
theorem dX0_findTelling_18 : decode cX0_findTelling 18 = .ok (.iconst (-1), 1) := by decide +kernel
theorem dX0_findTelling_19 : decode cX0_findTelling 19 = .ok (.if_icmp .ne 5, 3) := by decide +kernel
theorem dX0_findTelling_22 : decode cX0_findTelling 22 = .ok (.iconst (-1), 1) := by decide +kernel
theorem dX0_findTelling_23 : decode cX0_findTelling 23 = .ok (.ireturn, 1) := by decide +kernel
theorem dX0_findTelling_24 : decode cX0_findTelling 24 = .ok (.aload_n 0, 1) := by decide +kernel
theorem dX0_findTelling_25 : decode cX0_findTelling 25 = .ok (.getfield 21, 3) := by decide +kernel
theorem dX0_findTelling_28 : decode cX0_findTelling 28 = .ok (.aload_n 0, 1) := by decide +kernel
theorem dX0_findTelling_29 : decode cX0_findTelling 29 = .ok (.getfield 12, 3) := by decide +kernel
theorem dX0_findTelling_32 : decode cX0_findTelling 32 = .ok (.invokevirtual 139, 3) := by decide +kernel
theorem dX0_findTelling_35 : decode cX0_findTelling 35 = .ok (.aload_n 0, 1) := by decide +kernel
theorem dX0_findTelling_36 : decode cX0_findTelling 36 = .ok (.getfield 12, 3) := by decide +kernel
theorem dX0_findTelling_39 : decode cX0_findTelling 39 = .ok (.iload 4, 2) := by decide +kernel
theorem dX0_findTelling_41 : decode cX0_findTelling 41 = .ok (.aload_n 0, 1) := by decide +kernel
theorem dX0_findTelling_42 : decode cX0_findTelling 42 = .ok (.getfield 25, 3) := by decide +kernel
theorem dX0_findTelling_45 : decode cX0_findTelling 45 = .ok (.invokevirtual 53, 3) := by decide +kernel
theorem dX0_findTelling_48 : decode cX0_findTelling 48 = .ok (.istore 5, 2) := by decide +kernel
theorem dX0_findTelling_50 : decode cX0_findTelling 50 = .ok (.aload_n 0, 1) := by decide +kernel
theorem dX0_findTelling_51 : decode cX0_findTelling 51 = .ok (.getfield 21, 3) := by decide +kernel
theorem dX0_findTelling_54 : decode cX0_findTelling 54 = .ok (.aload_n 1, 1) := by decide +kernel
theorem dX0_findTelling_55 : decode cX0_findTelling 55 = .ok (.iload_n 2, 1) := by decide +kernel
theorem dX0_findTelling_56 : decode cX0_findTelling 56 = .ok (.iconst 4, 1) := by decide +kernel
theorem dX0_findTelling_57 : decode cX0_findTelling 57 = .ok (.invokevirtual 94, 3) := by decide +kernel
theorem dX0_findTelling_60 : decode cX0_findTelling 60 = .ok (.aload_n 0, 1) := by decide +kernel
theorem dX0_findTelling_61 : decode cX0_findTelling 61 = .ok (.getfield 25, 3) := by decide +kernel
theorem dX0_findTelling_64 : decode cX0_findTelling 64 = .ok (.iload 5, 2) := by decide +kernel
theorem dX0_findTelling_66 : decode cX0_findTelling 66 = .ok (.invokevirtual 133, 3) := by decide +kernel
theorem dX0_findTelling_69 : decode cX0_findTelling 69 = .ok (.aload_n 0, 1) := by decide +kernel
theorem dX0_findTelling_70 : decode cX0_findTelling 70 = .ok (.aload_n 1, 1) := by decide +kernel
theorem dX0_findTelling_71 : decode cX0_findTelling 71 = .ok (.aload_n 1, 1) := by decide +kernel
theorem dX0_findTelling_72 : decode cX0_findTelling 72 = .ok (.iload_n 2, 1) := by decide +kernel
theorem dX0_findTelling_73 : decode cX0_findTelling 73 = .ok (.iconst 2, 1) := by decide +kernel
theorem dX0_findTelling_74 : decode cX0_findTelling 74 = .ok (.invokevirtual 94, 3) := by decide +kernel
theorem dX0_findTelling_77 : decode cX0_findTelling 77 = .ok (.iload_n 3, 1) := by decide +kernel
theorem dX0_findTelling_78 : decode cX0_findTelling 78 = .ok (.iconst 1, 1) := by decide +kernel
theorem dX0_findTelling_79 : decode cX0_findTelling 79 = .ok (.iadd, 1) := by decide +kernel
theorem dX0_findTelling_80 : decode cX0_findTelling 80 = .ok (.invokevirtual 40, 3) := by decide +kernel
theorem dX0_findTelling_83 : decode cX0_findTelling 83 = .ok (.istore 6, 2) := by decide +kernel
theorem dX0_findTelling_85 : decode cX0_findTelling 85 = .ok (.aload_n 0, 1) := by decide +kernel
theorem dX0_findTelling_86 : decode cX0_findTelling 86 = .ok (.getfield 21, 3) := by decide +kernel
theorem dX0_findTelling_89 : decode cX0_findTelling 89 = .ok (.invokevirtual 136, 3) := by decide +kernel
theorem dX0_findTelling_92 : decode cX0_findTelling 92 = .ok (.iload 6, 2) := by decide +kernel
theorem dX0_findTelling_94 : decode cX0_findTelling 94 = .ok (.ireturn, 1) := by decide +kernel
theorem dX0_findAxle_0 : decode cX0_findAxle 0 = .ok (.aload_n 0, 1) := by decide +kernel
theorem dX0_findAxle_1 : decode cX0_findAxle 1 = .ok (.aload_n 1, 1) := by decide +kernel
theorem dX0_findAxle_2 : decode cX0_findAxle 2 = .ok (.aload_n 1, 1) := by decide +kernel
theorem dX0_findAxle_3 : decode cX0_findAxle 3 = .ok (.iload_n 2, 1) := by decide +kernel
theorem dX0_findAxle_4 : decode cX0_findAxle 4 = .ok (.iconst 1, 1) := by decide +kernel
theorem dX0_findAxle_5 : decode cX0_findAxle 5 = .ok (.invokevirtual 94, 3) := by decide +kernel
theorem dX0_findAxle_8 : decode cX0_findAxle 8 = .ok (.iload_n 3, 1) := by decide +kernel
theorem dX0_findAxle_9 : decode cX0_findAxle 9 = .ok (.iconst 1, 1) := by decide +kernel
theorem dX0_findAxle_10 : decode cX0_findAxle 10 = .ok (.iadd, 1) := by decide +kernel
theorem dX0_findAxle_11 : decode cX0_findAxle 11 = .ok (.invokevirtual 40, 3) := by decide +kernel
theorem dX0_findAxle_14 : decode cX0_findAxle 14 = .ok (.istore 4, 2) := by decide +kernel
theorem dX0_findAxle_16 : decode cX0_findAxle 16 = .ok (.iload 4, 2) := by decide +kernel
theorem dX0_findAxle_18 : decode cX0_findAxle 18 = .ok (.iconst (-1), 1) := by decide +kernel
theorem dX0_findAxle_19 : decode cX0_findAxle 19 = .ok (.if_icmp .ne 5, 3) := by decide +kernel
theorem dX0_findAxle_22 : decode cX0_findAxle 22 = .ok (.iconst (-1), 1) := by decide +kernel
theorem dX0_findAxle_23 : decode cX0_findAxle 23 = .ok (.ireturn, 1) := by decide +kernel
theorem dX0_findAxle_24 : decode cX0_findAxle 24 = .ok (.aload_n 0, 1) := by decide +kernel
theorem dX0_findAxle_25 : decode cX0_findAxle 25 = .ok (.aload_n 1, 1) := by decide +kernel
theorem dX0_findAxle_26 : decode cX0_findAxle 26 = .ok (.aload_n 1, 1) := by decide +kernel
theorem dX0_findAxle_27 : decode cX0_findAxle 27 = .ok (.iload_n 2, 1) := by decide +kernel
theorem dX0_findAxle_28 : decode cX0_findAxle 28 = .ok (.iconst 2, 1) := by decide +kernel
theorem dX0_findAxle_29 : decode cX0_findAxle 29 = .ok (.invokevirtual 94, 3) := by decide +kernel
theorem dX0_findAxle_32 : decode cX0_findAxle 32 = .ok (.iload_n 3, 1) := by decide +kernel
theorem dX0_findAxle_33 : decode cX0_findAxle 33 = .ok (.iconst 1, 1) := by decide +kernel
theorem dX0_findAxle_34 : decode cX0_findAxle 34 = .ok (.iadd, 1) := by decide +kernel
theorem dX0_findAxle_35 : decode cX0_findAxle 35 = .ok (.invokevirtual 40, 3) := by decide +kernel
theorem dX0_findAxle_38 : decode cX0_findAxle 38 = .ok (.istore 5, 2) := by decide +kernel
theorem dX0_findAxle_40 : decode cX0_findAxle 40 = .ok (.iload 5, 2) := by decide +kernel
theorem dX0_findAxle_42 : decode cX0_findAxle 42 = .ok (.iconst (-1), 1) := by decide +kernel
theorem dX0_findAxle_43 : decode cX0_findAxle 43 = .ok (.if_icmp .ne 7, 3) := by decide +kernel
theorem dX0_findAxle_46 : decode cX0_findAxle 46 = .ok (.iconst (-1), 1) := by decide +kernel
theorem dX0_findAxle_47 : decode cX0_findAxle 47 = .ok (.goto 15, 3) := by decide +kernel
theorem dX0_findAxle_50 : decode cX0_findAxle 50 = .ok (.aload_n 0, 1) := by decide +kernel
theorem dX0_findAxle_51 : decode cX0_findAxle 51 = .ok (.getfield 12, 3) := by decide +kernel
theorem dX0_findAxle_54 : decode cX0_findAxle 54 = .ok (.iconst 3, 1) := by decide +kernel
theorem dX0_findAxle_55 : decode cX0_findAxle 55 = .ok (.iload 4, 2) := by decide +kernel
theorem dX0_findAxle_57 : decode cX0_findAxle 57 = .ok (.iload 5, 2) := by decide +kernel
theorem dX0_findAxle_59 : decode cX0_findAxle 59 = .ok (.invokevirtual 69, 3) := by decide +kernel
theorem dX0_findAxle_62 : decode cX0_findAxle 62 = .ok (.ireturn, 1) := by decide +kernel
theorem dX0_findEnd_0 : decode cX0_findEnd 0 = .ok (.aload_n 0, 1) := by decide +kernel
theorem dX0_findEnd_1 : decode cX0_findEnd 1 = .ok (.aload_n 1, 1) := by decide +kernel
theorem dX0_findEnd_2 : decode cX0_findEnd 2 = .ok (.aload_n 1, 1) := by decide +kernel
theorem dX0_findEnd_3 : decode cX0_findEnd 3 = .ok (.iload_n 2, 1) := by decide +kernel
theorem dX0_findEnd_4 : decode cX0_findEnd 4 = .ok (.iconst 1, 1) := by decide +kernel
theorem dX0_findEnd_5 : decode cX0_findEnd 5 = .ok (.invokevirtual 94, 3) := by decide +kernel
theorem dX0_findEnd_8 : decode cX0_findEnd 8 = .ok (.iload_n 3, 1) := by decide +kernel
theorem dX0_findEnd_9 : decode cX0_findEnd 9 = .ok (.iconst 1, 1) := by decide +kernel
theorem dX0_findEnd_10 : decode cX0_findEnd 10 = .ok (.iadd, 1) := by decide +kernel
theorem dX0_findEnd_11 : decode cX0_findEnd 11 = .ok (.invokevirtual 40, 3) := by decide +kernel
theorem dX0_findEnd_14 : decode cX0_findEnd 14 = .ok (.istore 4, 2) := by decide +kernel
theorem dX0_findEnd_16 : decode cX0_findEnd 16 = .ok (.iload 4, 2) := by decide +kernel
theorem dX0_findEnd_18 : decode cX0_findEnd 18 = .ok (.iconst (-1), 1) := by decide +kernel
theorem dX0_findEnd_19 : decode cX0_findEnd 19 = .ok (.if_icmp .ne 5, 3) := by decide +kernel
theorem dX0_findEnd_22 : decode cX0_findEnd 22 = .ok (.iconst (-1), 1) := by decide +kernel
theorem dX0_findEnd_23 : decode cX0_findEnd 23 = .ok (.ireturn, 1) := by decide +kernel
theorem dX0_findEnd_24 : decode cX0_findEnd 24 = .ok (.aload_n 0, 1) := by decide +kernel
theorem dX0_findEnd_25 : decode cX0_findEnd 25 = .ok (.getfield 12, 3) := by decide +kernel
theorem dX0_findEnd_28 : decode cX0_findEnd 28 = .ok (.invokevirtual 65, 3) := by decide +kernel
theorem dX0_findEnd_31 : decode cX0_findEnd 31 = .ok (.istore 5, 2) := by decide +kernel
theorem dX0_findEnd_33 : decode cX0_findEnd 33 = .ok (.aload_n 0, 1) := by decide +kernel
theorem dX0_findEnd_34 : decode cX0_findEnd 34 = .ok (.getfield 12, 3) := by decide +kernel
theorem dX0_findEnd_37 : decode cX0_findEnd 37 = .ok (.invokevirtual 65, 3) := by decide +kernel
theorem dX0_findEnd_40 : decode cX0_findEnd 40 = .ok (.istore 6, 2) := by decide +kernel
theorem dX0_findEnd_42 : decode cX0_findEnd 42 = .ok (.aload_n 0, 1) := by decide +kernel
theorem dX0_findEnd_43 : decode cX0_findEnd 43 = .ok (.getfield 12, 3) := by decide +kernel
theorem dX0_findEnd_46 : decode cX0_findEnd 46 = .ok (.iload 4, 2) := by decide +kernel
theorem dX0_findEnd_48 : decode cX0_findEnd 48 = .ok (.aload_n 0, 1) := by decide +kernel
theorem dX0_findEnd_49 : decode cX0_findEnd 49 = .ok (.getfield 12, 3) := by decide +kernel
theorem dX0_findEnd_52 : decode cX0_findEnd 52 = .ok (.iconst 3, 1) := by decide +kernel
theorem dX0_findEnd_53 : decode cX0_findEnd 53 = .ok (.iload 5, 2) := by decide +kernel
theorem dX0_findEnd_55 : decode cX0_findEnd 55 = .ok (.iload 6, 2) := by decide +kernel
theorem dX0_findEnd_57 : decode cX0_findEnd 57 = .ok (.invokevirtual 69, 3) := by decide +kernel
theorem dX0_findEnd_60 : decode cX0_findEnd 60 = .ok (.invokevirtual 73, 3) := by decide +kernel
theorem dX0_findEnd_63 : decode cX0_findEnd 63 = .ok (.istore 7, 2) := by decide +kernel
theorem dX0_findEnd_65 : decode cX0_findEnd 65 = .ok (.iload 7, 2) := by decide +kernel
theorem dX0_findEnd_67 : decode cX0_findEnd 67 = .ok (.ifCond .eq 11, 3) := by decide +kernel
theorem dX0_findEnd_70 : decode cX0_findEnd 70 = .ok (.aload_n 0, 1) := by decide +kernel
theorem dX0_findEnd_71 : decode cX0_findEnd 71 = .ok (.iload 7, 2) := by decide +kernel
theorem dX0_findEnd_73 : decode cX0_findEnd 73 = .ok (.iload_n 2, 1) := by decide +kernel
theorem dX0_findEnd_74 : decode cX0_findEnd 74 = .ok (.invokevirtual 91, 3) := by decide +kernel
theorem dX0_findEnd_77 : decode cX0_findEnd 77 = .ok (.ireturn, 1) := by decide +kernel
theorem dX0_findEnd_78 : decode cX0_findEnd 78 = .ok (.aload_n 1, 1) := by decide +kernel
theorem dX0_findEnd_79 : decode cX0_findEnd 79 = .ok (.iload_n 2, 1) := by decide +kernel
theorem dX0_findEnd_80 : decode cX0_findEnd 80 = .ok (.iconst 4, 1) := by decide +kernel
theorem dX0_findEnd_81 : decode cX0_findEnd 81 = .ok (.invokevirtual 94, 3) := by decide +kernel
theorem dX0_findEnd_84 : decode cX0_findEnd 84 = .ok (.ifCond .ne 8, 3) := by decide +kernel
theorem dX0_findEnd_87 : decode cX0_findEnd 87 = .ok (.iload 5, 2) := by decide +kernel
theorem dX0_findEnd_89 : decode cX0_findEnd 89 = .ok (.goto 5, 3) := by decide +kernel
theorem dX0_findEnd_92 : decode cX0_findEnd 92 = .ok (.iload 6, 2) := by decide +kernel
theorem dX0_findEnd_94 : decode cX0_findEnd 94 = .ok (.ireturn, 1) := by decide +kernel
theorem dX0_findChoice_0 : decode cX0_findChoice 0 = .ok (.aload_n 0, 1) := by decide +kernel
theorem dX0_findChoice_1 : decode cX0_findChoice 1 = .ok (.aload_n 1, 1) := by decide +kernel
theorem dX0_findChoice_2 : decode cX0_findChoice 2 = .ok (.aload_n 1, 1) := by decide +kernel
theorem dX0_findChoice_3 : decode cX0_findChoice 3 = .ok (.iload_n 2, 1) := by decide +kernel
theorem dX0_findChoice_4 : decode cX0_findChoice 4 = .ok (.iconst 1, 1) := by decide +kernel
theorem dX0_findChoice_5 : decode cX0_findChoice 5 = .ok (.invokevirtual 94, 3) := by decide +kernel
theorem dX0_findChoice_8 : decode cX0_findChoice 8 = .ok (.iload_n 3, 1) := by decide +kernel
theorem dX0_findChoice_9 : decode cX0_findChoice 9 = .ok (.iconst 1, 1) := by decide +kernel
theorem dX0_findChoice_10 : decode cX0_findChoice 10 = .ok (.iadd, 1) := by decide +kernel
theorem dX0_findChoice_11 : decode cX0_findChoice 11 = .ok (.invokevirtual 40, 3) := by decide +kernel
theorem dX0_findChoice_14 : decode cX0_findChoice 14 = .ok (.istore 4, 2) := by decide +kernel
theorem dX0_findChoice_16 : decode cX0_findChoice 16 = .ok (.iload 4, 2) := by decide +kernel
theorem dX0_findChoice_18 : decode cX0_findChoice 18 = .ok (.iconst (-1), 1) := by decide +kernel
theorem dX0_findChoice_19 : decode cX0_findChoice 19 = .ok (.if_icmp .ne 5, 3) := by decide +kernel
theorem dX0_findChoice_22 : decode cX0_findChoice 22 = .ok (.iconst (-1), 1) := by decide +kernel
theorem dX0_findChoice_23 : decode cX0_findChoice 23 = .ok (.ireturn, 1) := by decide +kernel
theorem dX0_findChoice_24 : decode cX0_findChoice 24 = .ok (.aload_n 0, 1) := by decide +kernel
theorem dX0_findChoice_25 : decode cX0_findChoice 25 = .ok (.getfield 12, 3) := by decide +kernel
theorem dX0_findChoice_28 : decode cX0_findChoice 28 = .ok (.iload 4, 2) := by decide +kernel
theorem dX0_findChoice_30 : decode cX0_findChoice 30 = .ok (.iconst 1, 1) := by decide +kernel
theorem dX0_findChoice_31 : decode cX0_findChoice 31 = .ok (.invokevirtual 73, 3) := by decide +kernel
theorem dX0_findChoice_34 : decode cX0_findChoice 34 = .ok (.istore 5, 2) := by decide +kernel
theorem dX0_findChoice_36 : decode cX0_findChoice 36 = .ok (.iload 5, 2) := by decide +kernel
theorem dX0_findChoice_38 : decode cX0_findChoice 38 = .ok (.ifCond .eq 11, 3) := by decide +kernel
theorem dX0_findChoice_41 : decode cX0_findChoice 41 = .ok (.aload_n 0, 1) := by decide +kernel
theorem dX0_findChoice_42 : decode cX0_findChoice 42 = .ok (.iload 5, 2) := by decide +kernel
theorem dX0_findChoice_44 : decode cX0_findChoice 44 = .ok (.iload_n 2, 1) := by decide +kernel
theorem dX0_findChoice_45 : decode cX0_findChoice 45 = .ok (.invokevirtual 91, 3) := by decide +kernel
theorem dX0_findChoice_48 : decode cX0_findChoice 48 = .ok (.ireturn, 1) := by decide +kernel
theorem dX0_findChoice_49 : decode cX0_findChoice 49 = .ok (.aload_n 0, 1) := by decide +kernel
theorem dX0_findChoice_50 : decode cX0_findChoice 50 = .ok (.aload_n 1, 1) := by decide +kernel
theorem dX0_findChoice_51 : decode cX0_findChoice 51 = .ok (.aload_n 1, 1) := by decide +kernel
theorem dX0_findChoice_52 : decode cX0_findChoice 52 = .ok (.iload_n 2, 1) := by decide +kernel
theorem dX0_findChoice_53 : decode cX0_findChoice 53 = .ok (.iconst 2, 1) := by decide +kernel
theorem dX0_findChoice_54 : decode cX0_findChoice 54 = .ok (.invokevirtual 94, 3) := by decide +kernel
theorem dX0_findChoice_57 : decode cX0_findChoice 57 = .ok (.iload_n 3, 1) := by decide +kernel
theorem dX0_findChoice_58 : decode cX0_findChoice 58 = .ok (.iconst 1, 1) := by decide +kernel
theorem dX0_findChoice_59 : decode cX0_findChoice 59 = .ok (.iadd, 1) := by decide +kernel
theorem dX0_findChoice_60 : decode cX0_findChoice 60 = .ok (.invokevirtual 40, 3) := by decide +kernel
theorem dX0_findChoice_63 : decode cX0_findChoice 63 = .ok (.istore 6, 2) := by decide +kernel
theorem dX0_findChoice_65 : decode cX0_findChoice 65 = .ok (.iload 6, 2) := by decide +kernel
theorem dX0_findChoice_67 : decode cX0_findChoice 67 = .ok (.iconst (-1), 1) := by decide +kernel
theorem dX0_findChoice_68 : decode cX0_findChoice 68 = .ok (.if_icmp .ne 5, 3) := by decide +kernel
theorem dX0_findChoice_71 : decode cX0_findChoice 71 = .ok (.iconst (-1), 1) := by decide +kernel
theorem dX0_findChoice_72 : decode cX0_findChoice 72 = .ok (.ireturn, 1) := by decide +kernel
theorem dX0_findChoice_73 : decode cX0_findChoice 73 = .ok (.aload_n 0, 1) := by decide +kernel
theorem dX0_findChoice_74 : decode cX0_findChoice 74 = .ok (.aload_n 1, 1) := by decide +kernel
theorem dX0_findChoice_75 : decode cX0_findChoice 75 = .ok (.aload_n 1, 1) := by decide +kernel
theorem dX0_findChoice_76 : decode cX0_findChoice 76 = .ok (.iload_n 2, 1) := by decide +kernel
theorem dX0_findChoice_77 : decode cX0_findChoice 77 = .ok (.iconst 3, 1) := by decide +kernel
theorem dX0_findChoice_78 : decode cX0_findChoice 78 = .ok (.invokevirtual 94, 3) := by decide +kernel
theorem dX0_findChoice_81 : decode cX0_findChoice 81 = .ok (.iload_n 3, 1) := by decide +kernel
theorem dX0_findChoice_82 : decode cX0_findChoice 82 = .ok (.iconst 1, 1) := by decide +kernel
theorem dX0_findChoice_83 : decode cX0_findChoice 83 = .ok (.iadd, 1) := by decide +kernel
theorem dX0_findChoice_84 : decode cX0_findChoice 84 = .ok (.invokevirtual 40, 3) := by decide +kernel
theorem dX0_findChoice_87 : decode cX0_findChoice 87 = .ok (.istore 7, 2) := by decide +kernel
theorem dX0_findChoice_89 : decode cX0_findChoice 89 = .ok (.iload 7, 2) := by decide +kernel
theorem dX0_findChoice_91 : decode cX0_findChoice 91 = .ok (.iconst (-1), 1) := by decide +kernel
theorem dX0_findChoice_92 : decode cX0_findChoice 92 = .ok (.if_icmp .ne 5, 3) := by decide +kernel
theorem dX0_findChoice_95 : decode cX0_findChoice 95 = .ok (.iconst (-1), 1) := by decide +kernel
theorem dX0_findChoice_96 : decode cX0_findChoice 96 = .ok (.ireturn, 1) := by decide +kernel
theorem dX0_findChoice_97 : decode cX0_findChoice 97 = .ok (.aload_n 0, 1) := by decide +kernel
theorem dX0_findChoice_98 : decode cX0_findChoice 98 = .ok (.getfield 12, 3) := by decide +kernel
theorem dX0_findChoice_101 : decode cX0_findChoice 101 = .ok (.iload 6, 2) := by decide +kernel
theorem dX0_findChoice_103 : decode cX0_findChoice 103 = .ok (.iload 7, 2) := by decide +kernel
theorem dX0_findChoice_105 : decode cX0_findChoice 105 = .ok (.invokevirtual 73, 3) := by decide +kernel
theorem dX0_findChoice_108 : decode cX0_findChoice 108 = .ok (.istore 5, 2) := by decide +kernel
theorem dX0_findChoice_110 : decode cX0_findChoice 110 = .ok (.iload 5, 2) := by decide +kernel
theorem dX0_findChoice_112 : decode cX0_findChoice 112 = .ok (.ifCond .ne 8, 3) := by decide +kernel
theorem dX0_findChoice_115 : decode cX0_findChoice 115 = .ok (.iload 6, 2) := by decide +kernel
theorem dX0_findChoice_117 : decode cX0_findChoice 117 = .ok (.goto 10, 3) := by decide +kernel
theorem dX0_findChoice_120 : decode cX0_findChoice 120 = .ok (.aload_n 0, 1) := by decide +kernel
theorem dX0_findChoice_121 : decode cX0_findChoice 121 = .ok (.iload 5, 2) := by decide +kernel
theorem dX0_findChoice_123 : decode cX0_findChoice 123 = .ok (.iload_n 2, 1) := by decide +kernel
theorem dX0_findChoice_124 : decode cX0_findChoice 124 = .ok (.invokevirtual 91, 3) := by decide +kernel
theorem dX0_findChoice_127 : decode cX0_findChoice 127 = .ok (.ireturn, 1) := by decide +kernel
theorem dX0_find_0 : decode cX0_find 0 = .ok (.iload_n 3, 1) := by decide +kernel
theorem dX0_find_1 : decode cX0_find 1 = .ok (.bipush 40, 2) := by decide +kernel
theorem dX0_find_3 : decode cX0_find 3 = .ok (.if_icmp .lt 10, 3) := by decide +kernel
theorem dX0_find_6 : decode cX0_find 6 = .ok (.aload_n 0, 1) := by decide +kernel
theorem dX0_find_7 : decode cX0_find 7 = .ok (.iconst 4, 1) := by decide +kernel
theorem dX0_find_8 : decode cX0_find 8 = .ok (.iload_n 2, 1) := by decide +kernel
theorem dX0_find_9 : decode cX0_find 9 = .ok (.invokevirtual 91, 3) := by decide +kernel
theorem dX0_find_12 : decode cX0_find 12 = .ok (.ireturn, 1) := by decide +kernel
theorem dX0_find_13 : decode cX0_find 13 = .ok (.iconst 0, 1) := by decide +kernel
theorem dX0_find_14 : decode cX0_find 14 = .ok (.istore 4, 2) := by decide +kernel
theorem dX0_find_16 : decode cX0_find 16 = .ok (.aload_n 1, 1) := by decide +kernel
theorem dX0_find_17 : decode cX0_find 17 = .ok (.iload_n 2, 1) := by decide +kernel
theorem dX0_find_18 : decode cX0_find 18 = .ok (.iconst 0, 1) := by decide +kernel
theorem dX0_find_19 : decode cX0_find 19 = .ok (.invokevirtual 94, 3) := by decide +kernel
theorem dX0_find_22 : decode cX0_find 22 = .ok (.tableswitch 135 1 8 #[46, 52, 63, 75, 87, 99, 111, 123], 46) := by decide +kernel
theorem dX0_find_68 : decode cX0_find 68 = .ok (.iconst 1, 1) := by decide +kernel
theorem dX0_find_69 : decode cX0_find 69 = .ok (.istore 4, 2) := by decide +kernel
theorem dX0_find_71 : decode cX0_find 71 = .ok (.goto 86, 3) := by decide +kernel
theorem dX0_find_74 : decode cX0_find 74 = .ok (.aload_n 0, 1) := by decide +kernel
theorem dX0_find_75 : decode cX0_find 75 = .ok (.aload_n 1, 1) := by decide +kernel
theorem dX0_find_76 : decode cX0_find 76 = .ok (.iload_n 2, 1) := by decide +kernel
theorem dX0_find_77 : decode cX0_find 77 = .ok (.invokevirtual 97, 3) := by decide +kernel
theorem dX0_find_80 : decode cX0_find 80 = .ok (.istore 4, 2) := by decide +kernel
theorem dX0_find_82 : decode cX0_find 82 = .ok (.goto 75, 3) := by decide +kernel
theorem dX0_find_85 : decode cX0_find 85 = .ok (.aload_n 0, 1) := by decide +kernel
theorem dX0_find_86 : decode cX0_find 86 = .ok (.aload_n 1, 1) := by decide +kernel
theorem dX0_find_87 : decode cX0_find 87 = .ok (.iload_n 2, 1) := by decide +kernel
theorem dX0_find_88 : decode cX0_find 88 = .ok (.iload_n 3, 1) := by decide +kernel
theorem dX0_find_89 : decode cX0_find 89 = .ok (.invokevirtual 101, 3) := by decide +kernel
theorem dX0_find_92 : decode cX0_find 92 = .ok (.istore 4, 2) := by decide +kernel
theorem dX0_find_94 : decode cX0_find 94 = .ok (.goto 63, 3) := by decide +kernel
theorem dX0_find_97 : decode cX0_find 97 = .ok (.aload_n 0, 1) := by decide +kernel
theorem dX0_find_98 : decode cX0_find 98 = .ok (.aload_n 1, 1) := by decide +kernel
theorem dX0_find_99 : decode cX0_find 99 = .ok (.iload_n 2, 1) := by decide +kernel
theorem dX0_find_100 : decode cX0_find 100 = .ok (.iload_n 3, 1) := by decide +kernel
theorem dX0_find_101 : decode cX0_find 101 = .ok (.invokevirtual 104, 3) := by decide +kernel
theorem dX0_find_104 : decode cX0_find 104 = .ok (.istore 4, 2) := by decide +kernel
theorem dX0_find_106 : decode cX0_find 106 = .ok (.goto 51, 3) := by decide +kernel
theorem dX0_find_109 : decode cX0_find 109 = .ok (.aload_n 0, 1) := by decide +kernel
theorem dX0_find_110 : decode cX0_find 110 = .ok (.aload_n 1, 1) := by decide +kernel
theorem dX0_find_111 : decode cX0_find 111 = .ok (.iload_n 2, 1) := by decide +kernel
theorem dX0_find_112 : decode cX0_find 112 = .ok (.iload_n 3, 1) := by decide +kernel
theorem dX0_find_113 : decode cX0_find 113 = .ok (.invokevirtual 107, 3) := by decide +kernel
theorem dX0_find_116 : decode cX0_find 116 = .ok (.istore 4, 2) := by decide +kernel
theorem dX0_find_118 : decode cX0_find 118 = .ok (.goto 39, 3) := by decide +kernel
theorem dX0_find_121 : decode cX0_find 121 = .ok (.aload_n 0, 1) := by decide +kernel
theorem dX0_find_122 : decode cX0_find 122 = .ok (.aload_n 1, 1) := by decide +kernel
theorem dX0_find_123 : decode cX0_find 123 = .ok (.iload_n 2, 1) := by decide +kernel
theorem dX0_find_124 : decode cX0_find 124 = .ok (.iload_n 3, 1) := by decide +kernel
theorem dX0_find_125 : decode cX0_find 125 = .ok (.invokevirtual 110, 3) := by decide +kernel
theorem dX0_find_128 : decode cX0_find 128 = .ok (.istore 4, 2) := by decide +kernel
theorem dX0_find_130 : decode cX0_find 130 = .ok (.goto 27, 3) := by decide +kernel
theorem dX0_find_133 : decode cX0_find 133 = .ok (.aload_n 0, 1) := by decide +kernel
theorem dX0_find_134 : decode cX0_find 134 = .ok (.aload_n 1, 1) := by decide +kernel
theorem dX0_find_135 : decode cX0_find 135 = .ok (.iload_n 2, 1) := by decide +kernel
theorem dX0_find_136 : decode cX0_find 136 = .ok (.iload_n 3, 1) := by decide +kernel
theorem dX0_find_137 : decode cX0_find 137 = .ok (.invokevirtual 113, 3) := by decide +kernel
theorem dX0_find_140 : decode cX0_find 140 = .ok (.istore 4, 2) := by decide +kernel
theorem dX0_find_142 : decode cX0_find 142 = .ok (.goto 15, 3) := by decide +kernel
theorem dX0_find_145 : decode cX0_find 145 = .ok (.aload_n 0, 1) := by decide +kernel
theorem dX0_find_146 : decode cX0_find 146 = .ok (.aload_n 1, 1) := by decide +kernel
theorem dX0_find_147 : decode cX0_find 147 = .ok (.iload_n 2, 1) := by decide +kernel
theorem dX0_find_148 : decode cX0_find 148 = .ok (.iload_n 3, 1) := by decide +kernel
theorem dX0_find_149 : decode cX0_find 149 = .ok (.invokevirtual 116, 3) := by decide +kernel
theorem dX0_find_152 : decode cX0_find 152 = .ok (.istore 4, 2) := by decide +kernel
theorem dX0_find_154 : decode cX0_find 154 = .ok (.goto 3, 3) := by decide +kernel
theorem dX0_find_157 : decode cX0_find 157 = .ok (.iload 4, 2) := by decide +kernel
theorem dX0_find_159 : decode cX0_find 159 = .ok (.iconst (-1), 1) := by decide +kernel
theorem dX0_find_160 : decode cX0_find 160 = .ok (.if_icmp .eq 19, 3) := by decide +kernel
theorem dX0_find_163 : decode cX0_find 163 = .ok (.aload_n 0, 1) := by decide +kernel
theorem dX0_find_164 : decode cX0_find 164 = .ok (.iload 4, 2) := by decide +kernel
theorem dX0_find_166 : decode cX0_find 166 = .ok (.invokevirtual 77, 3) := by decide +kernel
theorem dX0_find_169 : decode cX0_find 169 = .ok (.ifCond .eq 10, 3) := by decide +kernel
theorem dX0_find_172 : decode cX0_find 172 = .ok (.aload_n 0, 1) := by decide +kernel
theorem dX0_find_173 : decode cX0_find 173 = .ok (.iconst 4, 1) := by decide +kernel
theorem dX0_find_174 : decode cX0_find 174 = .ok (.iload_n 2, 1) := by decide +kernel
theorem dX0_find_175 : decode cX0_find 175 = .ok (.invokevirtual 91, 3) := by decide +kernel
theorem dX0_find_178 : decode cX0_find 178 = .ok (.ireturn, 1) := by decide +kernel
theorem dX0_find_179 : decode cX0_find 179 = .ok (.iload 4, 2) := by decide +kernel
theorem dX0_find_181 : decode cX0_find 181 = .ok (.ireturn, 1) := by decide +kernel
theorem dX0_settle_0 : decode cX0_settle 0 = .ok (.aload_n 0, 1) := by decide +kernel
theorem dX0_settle_1 : decode cX0_settle 1 = .ok (.getfield 12, 3) := by decide +kernel
theorem dX0_settle_4 : decode cX0_settle 4 = .ok (.invokevirtual 29, 3) := by decide +kernel
theorem dX0_settle_7 : decode cX0_settle 7 = .ok (.aload_n 0, 1) := by decide +kernel
theorem dX0_settle_8 : decode cX0_settle 8 = .ok (.getfield 21, 3) := by decide +kernel
theorem dX0_settle_11 : decode cX0_settle 11 = .ok (.invokevirtual 32, 3) := by decide +kernel
theorem dX0_settle_14 : decode cX0_settle 14 = .ok (.aload_n 0, 1) := by decide +kernel
theorem dX0_settle_15 : decode cX0_settle 15 = .ok (.iconst 0, 1) := by decide +kernel
theorem dX0_settle_16 : decode cX0_settle 16 = .ok (.putfield 33, 3) := by decide +kernel
theorem dX0_settle_19 : decode cX0_settle 19 = .ok (.aload_n 0, 1) := by decide +kernel
theorem dX0_settle_20 : decode cX0_settle 20 = .ok (.iconst (-1), 1) := by decide +kernel
theorem dX0_settle_21 : decode cX0_settle 21 = .ok (.putfield 37, 3) := by decide +kernel
theorem dX0_settle_24 : decode cX0_settle 24 = .ok (.aload_n 0, 1) := by decide +kernel
theorem dX0_settle_25 : decode cX0_settle 25 = .ok (.aload_n 1, 1) := by decide +kernel
theorem dX0_settle_26 : decode cX0_settle 26 = .ok (.iload_n 2, 1) := by decide +kernel
theorem dX0_settle_27 : decode cX0_settle 27 = .ok (.iconst 0, 1) := by decide +kernel
theorem dX0_settle_28 : decode cX0_settle 28 = .ok (.invokevirtual 40, 3) := by decide +kernel
theorem dX0_settle_31 : decode cX0_settle 31 = .ok (.istore 4, 2) := by decide +kernel
theorem dX0_settle_33 : decode cX0_settle 33 = .ok (.iload 4, 2) := by decide +kernel
theorem dX0_settle_35 : decode cX0_settle 35 = .ok (.iconst (-1), 1) := by decide +kernel
theorem dX0_settle_36 : decode cX0_settle 36 = .ok (.if_icmp .ne 17, 3) := by decide +kernel
theorem dX0_settle_39 : decode cX0_settle 39 = .ok (.aload_n 3, 1) := by decide +kernel
theorem dX0_settle_40 : decode cX0_settle 40 = .ok (.iload_n 2, 1) := by decide +kernel
theorem dX0_settle_41 : decode cX0_settle 41 = .ok (.aload_n 0, 1) := by decide +kernel
theorem dX0_settle_42 : decode cX0_settle 42 = .ok (.getfield 33, 3) := by decide +kernel
theorem dX0_settle_45 : decode cX0_settle 45 = .ok (.aload_n 0, 1) := by decide +kernel
theorem dX0_settle_46 : decode cX0_settle 46 = .ok (.getfield 37, 3) := by decide +kernel
theorem dX0_settle_49 : decode cX0_settle 49 = .ok (.invokevirtual 44, 3) := by decide +kernel
theorem dX0_settle_52 : decode cX0_settle 52 = .ok (.return_, 1) := by decide +kernel
theorem dX0_settle_53 : decode cX0_settle 53 = .ok (.aload_n 0, 1) := by decide +kernel
theorem dX0_settle_54 : decode cX0_settle 54 = .ok (.getfield 12, 3) := by decide +kernel
theorem dX0_settle_57 : decode cX0_settle 57 = .ok (.invokevirtual 50, 3) := by decide +kernel
theorem dX0_settle_60 : decode cX0_settle 60 = .ok (.aload_n 3, 1) := by decide +kernel
theorem dX0_settle_61 : decode cX0_settle 61 = .ok (.iload_n 2, 1) := by decide +kernel
theorem dX0_settle_62 : decode cX0_settle 62 = .ok (.aload_n 0, 1) := by decide +kernel
theorem dX0_settle_63 : decode cX0_settle 63 = .ok (.getfield 25, 3) := by decide +kernel
theorem dX0_settle_66 : decode cX0_settle 66 = .ok (.aload_n 0, 1) := by decide +kernel
theorem dX0_settle_67 : decode cX0_settle 67 = .ok (.getfield 12, 3) := by decide +kernel
theorem dX0_settle_70 : decode cX0_settle 70 = .ok (.iload 4, 2) := by decide +kernel
theorem dX0_settle_72 : decode cX0_settle 72 = .ok (.aload_n 0, 1) := by decide +kernel
theorem dX0_settle_73 : decode cX0_settle 73 = .ok (.getfield 25, 3) := by decide +kernel
theorem dX0_settle_76 : decode cX0_settle 76 = .ok (.invokevirtual 53, 3) := by decide +kernel
theorem dX0_settle_79 : decode cX0_settle 79 = .ok (.invokevirtual 57, 3) := by decide +kernel
theorem dX0_settle_82 : decode cX0_settle 82 = .ok (.return_, 1) := by decide +kernel
section T0
variable {p : Program} {l : Launch} {e : Env} {R : Room} {s : State} {m : MethodId} {args : Array Value} {below : List Frame} {meth : Method} {c : Code} {D : va_G} {g : gT} {N : Nat} {ad ln : Nat → Nat}
def mX0_fail_b0 (A : gM) (x1 : Int32) (x2 : Int32) : Option (gM × Int32) :=
  g_let (g_up A 128 3 x1) fun A1 =>
  g_let (g_up A1 128 4 x2) fun A2 =>
  some (A2, (-1))
def mX0_fail (A : gM) (x1 : Int32) (x2 : Int32) : Option (gM × Int32) := mX0_fail_b0 A x1 x2
set_option maxHeartbeats 2000000 in
set_option maxRecDepth 20000 in
theorem wX0_fail_b0 (hN : 183 ≤ N) {A0 A' : gM} {r : Int32} (C : gC p R s m args meth c cX0_fail RX0 3 D g (va_A (gw g ad ln A0 N) s.heap.size) 0) (hr : meth.sig.returnType = some .int)  {A : gM} {x1 : Int32} {x2 : Int32} (h : mX0_fail_b0 A x1 x2 = some (A', r)) : gJ p l e R s m args below meth c (gEi below D g N ad ln A0 A' r args s) 3 D g (va_A (gw g ad ln A0 N) s.heap.size) N ad ln A [(0, gr 128), (1, gi x1), (2, gi x2)] 0 0 0 [] := by
  unfold mX0_fail_b0 at h
  refine g_aload_n C 0 dX0_fail_0 rfl ?_
  refine g_iload_n C 1 dX0_fail_1 rfl ?_
  obtain ⟨A1, eA1, h⟩ := g_lt h
  refine g_put C 128 3 tyX0 tyX0_ok nmX0 (by omega) rfl rfl gu_0 (by decide) qf_X0_33 rfl (by decide +kernel) (Nat.le_of_ble_eq_true rfl) rfl eA1 dX0_fail_2 ?_
  refine g_aload_n C 0 dX0_fail_5 rfl ?_
  refine g_iload_n C 2 dX0_fail_6 rfl ?_
  obtain ⟨A2, eA2, h⟩ := g_lt h
  refine g_put C 128 4 tyX0 tyX0_ok nmX0 (by omega) rfl rfl gu_0 (by decide) qf_X0_37 rfl (by decide +kernel) (Nat.le_of_ble_eq_true rfl) rfl eA2 dX0_fail_7 ?_
  refine g_iconst (v := (-1)) C dX0_fail_10 (by decide) ?_
  obtain ⟨rfl, rfl⟩ := Prod.mk.inj (Option.some.inj h)
  exact g_reti C hr dX0_fail_11

set_option maxHeartbeats 2000000 in
set_option maxRecDepth 20000 in
theorem kX0_fail {l : Launch} {D : va_G} {g : gT} {N : Nat} {ad ln : Nat → Nat} (hN : 183 ≤ N) {A A' : gM} {x1 : Int32} {x2 : Int32} {r : Int32} (h : mX0_fail A x1 x2 = some (A', r)) : gKi l yX0_fail cX0_fail 3 (some .int) (0) D g N ad ln A [gr 128, gi x1, gi x2] A' r := by
  refine g_meti (by decide) (Nat.le_of_ble_eq_true rfl) ?_
  intro p e s m args below meth c C hr
  refine g_sub [0, 1, 2] rfl ?_
  exact wX0_fail_b0 hN C hr h
def mX0_isTooLong_b22 (A : gM) (s0 : Int32) : Option (gM × Int32) :=
  if (s0 : Int32) = 0 ∨ (s0 : Int32) = 1 then some (A, s0) else none
def mX0_isTooLong_b0 (A : gM) (x1 : Int32) : Option (gM × Int32) :=
  (mX4_write A x1).bind fun q1 =>
  if q1.2 ≤ 60 then
  mX0_isTooLong_b22 q1.1 0
  else
  mX0_isTooLong_b22 q1.1 1
def mX0_isTooLong (A : gM) (x1 : Int32) : Option (gM × Int32) := mX0_isTooLong_b0 A x1
set_option maxHeartbeats 2000000 in
set_option maxRecDepth 20000 in
theorem wX0_isTooLong_b22 (hN : 183 ≤ N) {A0 A' : gM} {r : Int32} (C : gC p R s m args meth c cX0_isTooLong RX0 2 D g (va_A (gw g ad ln A0 N) s.heap.size) 3) (hr : meth.sig.returnType = some .boolean)  {A : gM} {s0 : Int32} (h : mX0_isTooLong_b22 A s0 = some (A', r)) : gJ p l e R s m args below meth c (gEi below D g N ad ln A0 A' r args s) 2 D g (va_A (gw g ad ln A0 N) s.heap.size) N ad ln A [] 0 0 22 [gi s0] := by
  unfold mX0_isTooLong_b22 at h
  obtain ⟨hz1, h⟩ := g_gd h
  obtain ⟨rfl, rfl⟩ := Prod.mk.inj (Option.some.inj h)
  exact g_retz C hr hz1 dX0_isTooLong_22

set_option maxHeartbeats 2000000 in
set_option maxRecDepth 20000 in
theorem wX0_isTooLong_b0 (hN : 183 ≤ N) {A0 A' : gM} {r : Int32} (C : gC p R s m args meth c cX0_isTooLong RX0 2 D g (va_A (gw g ad ln A0 N) s.heap.size) 3) (hr : meth.sig.returnType = some .boolean)  {A : gM} {x1 : Int32} (h : mX0_isTooLong_b0 A x1 = some (A', r)) : gJ p l e R s m args below meth c (gEi below D g N ad ln A0 A' r args s) 2 D g (va_A (gw g ad ln A0 N) s.heap.size) N ad ln A [(0, gr 128), (1, gi x1)] 0 0 0 [] := by
  unfold mX0_isTooLong_b0 at h
  refine g_aload_n C 0 dX0_isTooLong_0 rfl ?_
  refine g_get (v := gr 129) C 128 0 (by omega) rfl rfl gu_0 (by decide) qf_X0_12 rfl dX0_isTooLong_1 ?_
  refine g_iload_n C 1 dX0_isTooLong_4 rfl ?_
  refine g_aload_n C 0 dX0_isTooLong_5 rfl ?_
  refine g_get (v := gr 182) C 128 2 (by omega) rfl rfl gu_0 (by decide) qf_X0_25 rfl dX0_isTooLong_6 ?_
  obtain ⟨q1, eq1, h⟩ := g_bd h
  refine g_calliV C 129 [gi x1, gr 182] (kX4_write hN eq1) qs_X0_53 (by omega) (by omega) rfl rfl rfl rfl (Nat.le_of_ble_eq_true rfl) ⟨Nat.zero_le _, Nat.zero_le _⟩ dX0_isTooLong_9 ?_
  refine g_bipush (v := 60) C dX0_isTooLong_12 (by decide) ?_
  refine g_icmp_le C dX0_isTooLong_14 (tgt := 21) (by decide) (fun c2 => ?_) (fun c2 => ?_)
  · have h := g_tt c2 h
    refine g_iconst (v := 0) C dX0_isTooLong_21 (by decide) ?_
    refine g_sub [] rfl ?_
    exact wX0_isTooLong_b22 hN C hr h
  · have h := g_ff c2 h
    refine g_iconst (v := 1) C dX0_isTooLong_17 (by decide) ?_
    refine g_goto C dX0_isTooLong_18 (tgt := 22) (by decide) ?_
    refine g_sub [] rfl ?_
    exact wX0_isTooLong_b22 hN C hr h

set_option maxHeartbeats 2000000 in
set_option maxRecDepth 20000 in
theorem kX0_isTooLong {l : Launch} {D : va_G} {g : gT} {N : Nat} {ad ln : Nat → Nat} (hN : 183 ≤ N) {A A' : gM} {x1 : Int32} {r : Int32} (h : mX0_isTooLong A x1 = some (A', r)) : gKi l yX0_isTooLong cX0_isTooLong 2 (some .boolean) (3) D g N ad ln A [gr 128, gi x1] A' r := by
  refine g_meti (by decide) (Nat.le_of_ble_eq_true rfl) ?_
  intro p e s m args below meth c C hr
  refine g_sub [0, 1] rfl ?_
  exact wX0_isTooLong_b0 hN C hr h
def mX0_findName_b0 (A : gM) (x2 : Int32) : Option (gM × Int32) :=
  (mX2_fact A x2 4).bind fun q1 =>
  (mX1_latest q1.1 q1.2).bind fun q2 =>
  if q2.2 = (-1) then
  (mX0_fail q2.1 1 x2).bind fun q8 =>
  some (q8.1, q8.2)
  else
  (mX1_rowAt q2.1 q2.2).bind fun q4 =>
  (mX1_lengthAt q4.1 q2.2).bind fun q6 =>
  (mX4_build q6.1 q4.2 q6.2).bind fun q7 =>
  some (q7.1, q7.2)
def mX0_findName (A : gM) (x2 : Int32) : Option (gM × Int32) := mX0_findName_b0 A x2
set_option maxHeartbeats 2000000 in
set_option maxRecDepth 20000 in
theorem wX0_findName_b0 (hN : 183 ≤ N) {A0 A' : gM} {r : Int32} (C : gC p R s m args meth c cX0_findName RX0 4 D g (va_A (gw g ad ln A0 N) s.heap.size) 4) (hr : meth.sig.returnType = some .int)  {A : gM} {x2 : Int32} (h : mX0_findName_b0 A x2 = some (A', r)) : gJ p l e R s m args below meth c (gEi below D g N ad ln A0 A' r args s) 4 D g (va_A (gw g ad ln A0 N) s.heap.size) N ad ln A [(0, gr 128), (1, gr 1), (2, gi x2)] 0 0 0 [] := by
  unfold mX0_findName_b0 at h
  refine g_aload_n C 0 dX0_findName_0 rfl ?_
  refine g_get (v := gr 138) C 128 1 (by omega) rfl rfl gu_0 (by decide) qf_X0_21 rfl dX0_findName_1 ?_
  refine g_aload_n C 1 dX0_findName_4 rfl ?_
  refine g_iload_n C 2 dX0_findName_5 rfl ?_
  refine g_iconst (v := 4) C dX0_findName_6 (by decide) ?_
  obtain ⟨q1, eq1, h⟩ := g_bd h
  refine g_calliV C 1 [gi x2, gi 4] (kX2_fact hN eq1) qs_X0_94 (by omega) (by omega) rfl rfl rfl rfl (Nat.le_of_ble_eq_true rfl) ⟨Nat.zero_le _, Nat.zero_le _⟩ dX0_findName_7 ?_
  obtain ⟨q2, eq2, h⟩ := g_bd h
  refine g_calliV C 138 [gi q1.2] (kX1_latest hN eq2) qs_X0_119 (by omega) (by omega) rfl rfl rfl rfl (Nat.le_of_ble_eq_true rfl) ⟨Nat.zero_le _, Nat.zero_le _⟩ dX0_findName_10 ?_
  refine g_istore_n C dX0_findName_13 (by decide) rfl ?_
  refine g_iload_n C 0 dX0_findName_14 rfl ?_
  refine g_iconst (v := (-1)) C dX0_findName_15 (by decide) ?_
  refine g_icmp_ne C dX0_findName_16 (tgt := 26) (by decide) (fun c3 => ?_) (fun c3 => ?_)
  · have h := g_ff c3 h
    refine g_aload_n C 1 dX0_findName_26 rfl ?_
    refine g_get (v := gr 129) C 128 0 (by omega) rfl rfl gu_0 (by decide) qf_X0_12 rfl dX0_findName_27 ?_
    refine g_aload_n C 1 dX0_findName_30 rfl ?_
    refine g_get (v := gr 138) C 128 1 (by omega) rfl rfl gu_0 (by decide) qf_X0_21 rfl dX0_findName_31 ?_
    refine g_iload_n C 0 dX0_findName_34 rfl ?_
    obtain ⟨q4, eq4, h⟩ := g_bd h
    have ha5 := mX1_rowAt_ok hN (ln := ln) eq4
    refine g_callrV C 138 [gi q2.2] (kX1_rowAt hN eq4) qs_X0_123 (by omega) (by omega) rfl rfl rfl rfl (Nat.le_of_ble_eq_true rfl) ⟨Nat.zero_le _, Nat.zero_le _⟩ dX0_findName_35 ?_
    refine g_aload_n C 1 dX0_findName_38 rfl ?_
    refine g_get (v := gr 138) C 128 1 (by omega) rfl rfl gu_0 (by decide) qf_X0_21 rfl dX0_findName_39 ?_
    refine g_iload_n C 0 dX0_findName_42 rfl ?_
    obtain ⟨q6, eq6, h⟩ := g_bd h
    refine g_calliV C 138 [gi q2.2] (kX1_lengthAt hN eq6) qs_X0_127 (by omega) (by omega) rfl rfl rfl rfl (Nat.le_of_ble_eq_true rfl) ⟨Nat.zero_le _, Nat.zero_le _⟩ dX0_findName_43 ?_
    obtain ⟨q7, eq7, h⟩ := g_bd h
    refine g_calliV C 129 [gr q4.2, gi q6.2] (kX4_build hN ha5 eq7) qs_X0_87 (by omega) (by omega) rfl rfl rfl rfl (Nat.le_of_ble_eq_true rfl) ⟨Nat.zero_le _, Nat.zero_le _⟩ dX0_findName_46 ?_
    obtain ⟨rfl, rfl⟩ := Prod.mk.inj (Option.some.inj h)
    exact g_reti C hr dX0_findName_49
  · have h := g_tt c3 h
    refine g_aload_n C 1 dX0_findName_19 rfl ?_
    refine g_iconst (v := 1) C dX0_findName_20 (by decide) ?_
    refine g_iload_n C 3 dX0_findName_21 rfl ?_
    obtain ⟨q8, eq8, h⟩ := g_bd h
    refine g_calliV C 128 [gi 1, gi x2] (kX0_fail hN eq8) qs_X0_91 (by omega) (by omega) rfl rfl rfl rfl (Nat.le_of_ble_eq_true rfl) ⟨Nat.zero_le _, Nat.zero_le _⟩ dX0_findName_22 ?_
    obtain ⟨rfl, rfl⟩ := Prod.mk.inj (Option.some.inj h)
    exact g_reti C hr dX0_findName_25

set_option maxHeartbeats 2000000 in
set_option maxRecDepth 20000 in
theorem kX0_findName {l : Launch} {D : va_G} {g : gT} {N : Nat} {ad ln : Nat → Nat} (hN : 183 ≤ N) {A A' : gM} {x2 : Int32} {r : Int32} (h : mX0_findName A x2 = some (A', r)) : gKi l yX0_findName cX0_findName 4 (some .int) (4) D g N ad ln A [gr 128, gr 1, gi x2] A' r := by
  refine g_meti (by decide) (Nat.le_of_ble_eq_true rfl) ?_
  intro p e s m args below meth c C hr
  refine g_sub [0, 1, 2] rfl ?_
  exact wX0_findName_b0 hN C hr h
def mX0_buildRow_b43 (A : gM) (x3 : Int32) : Option (gM × Int32) :=
  (mX4_build A 182 x3).bind fun q1 =>
  some (q1.1, q1.2)
def mX0_buildRow_b10 (K10 : gM → Int32 → Int32 → Int32 → Option (gM × Int32)) (A : gM) (x2 : Int32) (x3 : Int32) (x4 : Int32) : Option (gM × Int32) :=
  if x3 ≤ x4 then
  mX0_buildRow_b43 A x3
  else
  if 60 ≤ x4 then
  mX0_buildRow_b43 A x3
  else
  (mX3_codeAt A x2 x4).bind fun q3 =>
  if g_in x4 60 = true then g_let (g_up q3.1 182 x4.toNatClampNeg q3.2) fun A5 =>
  g_let (x4 + 1) fun v6 =>
  K10 A5 x2 x3 v6
  else none
def mX0_buildRow_L10 : Nat → gM → Int32 → Int32 → Int32 → Option (gM × Int32)
  | 0 => fun _ _ _ _ => none
  | f + 1 => mX0_buildRow_b10 (mX0_buildRow_L10 f)
def mX0_buildRow_b0 (A : gM) (x2 : Int32) : Option (gM × Int32) :=
  (mX3_fact A x2 2).bind fun q1 =>
  mX0_buildRow_L10 gF q1.1 x2 q1.2 0
def mX0_buildRow (A : gM) (x2 : Int32) : Option (gM × Int32) := mX0_buildRow_b0 A x2
set_option maxHeartbeats 2000000 in
set_option maxRecDepth 20000 in
theorem wX0_buildRow_b43 (hN : 183 ≤ N) {A0 A' : gM} {r : Int32} (C : gC p R s m args meth c cX0_buildRow RX0 5 D g (va_A (gw g ad ln A0 N) s.heap.size) 4) (hr : meth.sig.returnType = some .int)  {A : gM} {x3 : Int32} (h : mX0_buildRow_b43 A x3 = some (A', r)) : gJ p l e R s m args below meth c (gEi below D g N ad ln A0 A' r args s) 5 D g (va_A (gw g ad ln A0 N) s.heap.size) N ad ln A [(0, gr 128), (3, gi x3)] 0 0 43 [] := by
  unfold mX0_buildRow_b43 at h
  refine g_aload_n C 0 dX0_buildRow_43 rfl ?_
  refine g_get (v := gr 129) C 128 0 (by omega) rfl rfl gu_0 (by decide) qf_X0_12 rfl dX0_buildRow_44 ?_
  refine g_aload_n C 0 dX0_buildRow_47 rfl ?_
  refine g_get (v := gr 182) C 128 2 (by omega) rfl rfl gu_0 (by decide) qf_X0_25 rfl dX0_buildRow_48 ?_
  refine g_iload_n C 1 dX0_buildRow_51 rfl ?_
  obtain ⟨q1, eq1, h⟩ := g_bd h
  refine g_calliV C 129 [gr 182, gi x3] (kX4_build hN ⟨by omega, rfl, rfl⟩ eq1) qs_X0_87 (by omega) (by omega) rfl rfl rfl rfl (Nat.le_of_ble_eq_true rfl) ⟨Nat.zero_le _, Nat.zero_le _⟩ dX0_buildRow_52 ?_
  obtain ⟨rfl, rfl⟩ := Prod.mk.inj (Option.some.inj h)
  exact g_reti C hr dX0_buildRow_55

set_option maxHeartbeats 2000000 in
set_option maxRecDepth 20000 in
theorem wX0_buildRow_b10 (hN : 183 ≤ N) {A0 A' : gM} {r : Int32} (C : gC p R s m args meth c cX0_buildRow RX0 5 D g (va_A (gw g ad ln A0 N) s.heap.size) 4) (hr : meth.sig.returnType = some .int) {K10 : gM → Int32 → Int32 → Int32 → Option (gM × Int32)} (hK10 : ∀ {A : gM} {x2 : Int32} {x3 : Int32} {x4 : Int32}, K10 A x2 x3 x4 = some (A', r) → gJ p l e R s m args below meth c (gEi below D g N ad ln A0 A' r args s) 5 D g (va_A (gw g ad ln A0 N) s.heap.size) N ad ln A [(0, gr 128), (1, gr 43), (2, gi x2), (3, gi x3), (4, gi x4)] 0 0 10 []) {A : gM} {x2 : Int32} {x3 : Int32} {x4 : Int32} (h : mX0_buildRow_b10 K10 A x2 x3 x4 = some (A', r)) : gJ p l e R s m args below meth c (gEi below D g N ad ln A0 A' r args s) 5 D g (va_A (gw g ad ln A0 N) s.heap.size) N ad ln A [(0, gr 128), (1, gr 43), (2, gi x2), (3, gi x3), (4, gi x4)] 0 0 10 [] := by
  unfold mX0_buildRow_b10 at h
  refine g_iload C 4 dX0_buildRow_10 rfl ?_
  refine g_iload_n C 3 dX0_buildRow_12 rfl ?_
  refine g_icmp_ge C dX0_buildRow_13 (tgt := 43) (by decide) (fun c1 => ?_) (fun c1 => ?_)
  · have h := g_tt c1 h
    refine g_sub [0, 3] rfl ?_
    exact wX0_buildRow_b43 hN C hr h
  · have h := g_ff c1 h
    refine g_iload C 4 dX0_buildRow_16 rfl ?_
    refine g_bipush (v := 60) C dX0_buildRow_18 (by decide) ?_
    refine g_icmp_ge C dX0_buildRow_20 (tgt := 43) (by decide) (fun c2 => ?_) (fun c2 => ?_)
    · have h := g_tt c2 h
      refine g_sub [0, 3] rfl ?_
      exact wX0_buildRow_b43 hN C hr h
    · have h := g_ff c2 h
      refine g_aload_n C 0 dX0_buildRow_23 rfl ?_
      refine g_get (v := gr 182) C 128 2 (by omega) rfl rfl gu_0 (by decide) qf_X0_25 rfl dX0_buildRow_24 ?_
      refine g_iload C 4 dX0_buildRow_27 rfl ?_
      refine g_aload_n C 1 dX0_buildRow_29 rfl ?_
      refine g_iload_n C 2 dX0_buildRow_30 rfl ?_
      refine g_iload C 4 dX0_buildRow_31 rfl ?_
      obtain ⟨q3, eq3, h⟩ := g_bd h
      refine g_calliV C 43 [gi x2, gi x4] (kX3_codeAt hN eq3) qs_X0_84 (by omega) (by omega) rfl rfl rfl rfl (Nat.le_of_ble_eq_true rfl) ⟨Nat.zero_le _, Nat.zero_le _⟩ dX0_buildRow_33 ?_
      obtain ⟨hg4, h⟩ := g_gd h
      obtain ⟨A5, eA5, h⟩ := g_lt h
      refine g_iast C 182 (by omega) rfl rfl hg4 eA5 dX0_buildRow_36 ?_
      obtain ⟨v6, ev6, h⟩ := g_lt h
      refine g_iinc C 4 dX0_buildRow_37 rfl ev6 (by decide) rfl ?_
      refine g_goto C dX0_buildRow_40 (tgt := 10) (by decide) ?_
      refine g_sub [1, 2, 3, 4, 0] rfl ?_
      exact hK10 h

set_option maxHeartbeats 2000000 in
set_option maxRecDepth 20000 in
theorem wX0_buildRow_L10 (hN : 183 ≤ N) {A0 A' : gM} {r : Int32} (C : gC p R s m args meth c cX0_buildRow RX0 5 D g (va_A (gw g ad ln A0 N) s.heap.size) 4) (hr : meth.sig.returnType = some .int)  : ∀ (f : Nat) {A : gM} {x2 : Int32} {x3 : Int32} {x4 : Int32}, mX0_buildRow_L10 f A x2 x3 x4 = some (A', r) → gJ p l e R s m args below meth c (gEi below D g N ad ln A0 A' r args s) 5 D g (va_A (gw g ad ln A0 N) s.heap.size) N ad ln A [(0, gr 128), (1, gr 43), (2, gi x2), (3, gi x3), (4, gi x4)] 0 0 10 []
  | 0, A, x2, x3, x4, h => by cases h
  | f + 1, A, x2, x3, x4, h => wX0_buildRow_b10 hN C hr (fun {A} {x2} {x3} {x4} h => wX0_buildRow_L10 hN C hr f h) h
set_option maxHeartbeats 2000000 in
set_option maxRecDepth 20000 in
theorem wX0_buildRow_b0 (hN : 183 ≤ N) {A0 A' : gM} {r : Int32} (C : gC p R s m args meth c cX0_buildRow RX0 5 D g (va_A (gw g ad ln A0 N) s.heap.size) 4) (hr : meth.sig.returnType = some .int)  {A : gM} {x2 : Int32} (h : mX0_buildRow_b0 A x2 = some (A', r)) : gJ p l e R s m args below meth c (gEi below D g N ad ln A0 A' r args s) 5 D g (va_A (gw g ad ln A0 N) s.heap.size) N ad ln A [(0, gr 128), (1, gr 43), (2, gi x2)] 0 0 0 [] := by
  unfold mX0_buildRow_b0 at h
  refine g_aload_n C 1 dX0_buildRow_0 rfl ?_
  refine g_iload_n C 2 dX0_buildRow_1 rfl ?_
  refine g_iconst (v := 2) C dX0_buildRow_2 (by decide) ?_
  obtain ⟨q1, eq1, h⟩ := g_bd h
  refine g_calliV C 43 [gi x2, gi 2] (kX3_fact hN eq1) qs_X0_81 (by omega) (by omega) rfl rfl rfl rfl (Nat.le_of_ble_eq_true rfl) ⟨Nat.zero_le _, Nat.zero_le _⟩ dX0_buildRow_3 ?_
  refine g_istore_n C dX0_buildRow_6 (by decide) rfl ?_
  refine g_iconst (v := 0) C dX0_buildRow_7 (by decide) ?_
  refine g_istore C dX0_buildRow_8 (by decide) rfl ?_
  refine g_sub [2, 3, 4, 1, 0] rfl ?_
  exact wX0_buildRow_L10 hN C hr gF h

set_option maxHeartbeats 2000000 in
set_option maxRecDepth 20000 in
theorem kX0_buildRow {l : Launch} {D : va_G} {g : gT} {N : Nat} {ad ln : Nat → Nat} (hN : 183 ≤ N) {A A' : gM} {x2 : Int32} {r : Int32} (h : mX0_buildRow A x2 = some (A', r)) : gKi l yX0_buildRow cX0_buildRow 5 (some .int) (4) D g N ad ln A [gr 128, gr 43, gi x2] A' r := by
  refine g_meti (by decide) (Nat.le_of_ble_eq_true rfl) ?_
  intro p e s m args below meth c C hr
  refine g_sub [0, 1, 2] rfl ?_
  exact wX0_buildRow_b0 hN C hr h
def mX0_faultOfTurning_b77 (A : gM) (s0 : Int32) : Option (gM × Int32) :=
  some (A, s0)
def mX0_faultOfTurning_b0 (A : gM) (x2 : Int32) (x3 : Int32) : Option (gM × Int32) :=
  (mX4_clear A).bind fun q1 =>
  (mX0_buildRow q1 x2).bind fun q2 =>
  (mX0_buildRow q2.1 x3).bind fun q3 =>
  (mX4_newVariable q3.1).bind fun q4 =>
  (mX4_make q4.1 2 q3.2 q4.2).bind fun q5 =>
  (mX4_match q5.1 q2.2 q5.2).bind fun q6 =>
  if q6.2 = 0 then
  (mX0_isTooLong q6.1 q4.2).bind fun q8 =>
  if q8.2 = 0 then
  mX0_faultOfTurning_b77 q8.1 0
  else
  mX0_faultOfTurning_b77 q8.1 4
  else
  some (q6.1, q6.2)
def mX0_faultOfTurning (A : gM) (x2 : Int32) (x3 : Int32) : Option (gM × Int32) := mX0_faultOfTurning_b0 A x2 x3
set_option maxHeartbeats 2000000 in
set_option maxRecDepth 20000 in
theorem wX0_faultOfTurning_b77 (hN : 183 ≤ N) {A0 A' : gM} {r : Int32} (C : gC p R s m args meth c cX0_faultOfTurning RX0 8 D g (va_A (gw g ad ln A0 N) s.heap.size) 5) (hr : meth.sig.returnType = some .int)  {A : gM} {s0 : Int32} (h : mX0_faultOfTurning_b77 A s0 = some (A', r)) : gJ p l e R s m args below meth c (gEi below D g N ad ln A0 A' r args s) 8 D g (va_A (gw g ad ln A0 N) s.heap.size) N ad ln A [] 0 0 77 [gi s0] := by
  unfold mX0_faultOfTurning_b77 at h
  obtain ⟨rfl, rfl⟩ := Prod.mk.inj (Option.some.inj h)
  exact g_reti C hr dX0_faultOfTurning_77

set_option maxHeartbeats 2000000 in
set_option maxRecDepth 20000 in
theorem wX0_faultOfTurning_b0 (hN : 183 ≤ N) {A0 A' : gM} {r : Int32} (C : gC p R s m args meth c cX0_faultOfTurning RX0 8 D g (va_A (gw g ad ln A0 N) s.heap.size) 5) (hr : meth.sig.returnType = some .int)  {A : gM} {x2 : Int32} {x3 : Int32} (h : mX0_faultOfTurning_b0 A x2 x3 = some (A', r)) : gJ p l e R s m args below meth c (gEi below D g N ad ln A0 A' r args s) 8 D g (va_A (gw g ad ln A0 N) s.heap.size) N ad ln A [(0, gr 128), (1, gr 43), (2, gi x2), (3, gi x3)] 0 0 0 [] := by
  unfold mX0_faultOfTurning_b0 at h
  refine g_aload_n C 0 dX0_faultOfTurning_0 rfl ?_
  refine g_get (v := gr 129) C 128 0 (by omega) rfl rfl gu_0 (by decide) qf_X0_12 rfl dX0_faultOfTurning_1 ?_
  obtain ⟨q1, eq1, h⟩ := g_bd h
  refine g_callvV C 129 [] (kX4_clear hN eq1) qs_X0_29 (by omega) (by omega) rfl rfl rfl rfl (Nat.le_of_ble_eq_true rfl) ⟨Nat.zero_le _, Nat.zero_le _⟩ dX0_faultOfTurning_4 ?_
  refine g_aload_n C 0 dX0_faultOfTurning_7 rfl ?_
  refine g_aload_n C 1 dX0_faultOfTurning_8 rfl ?_
  refine g_iload_n C 2 dX0_faultOfTurning_9 rfl ?_
  obtain ⟨q2, eq2, h⟩ := g_bd h
  refine g_calliV C 128 [gr 43, gi x2] (kX0_buildRow hN eq2) qs_X0_61 (by omega) (by omega) rfl rfl rfl rfl (Nat.le_of_ble_eq_true rfl) ⟨Nat.zero_le _, Nat.zero_le _⟩ dX0_faultOfTurning_10 ?_
  refine g_istore C dX0_faultOfTurning_13 (by decide) rfl ?_
  refine g_aload_n C 1 dX0_faultOfTurning_15 rfl ?_
  refine g_aload_n C 2 dX0_faultOfTurning_16 rfl ?_
  refine g_iload_n C 4 dX0_faultOfTurning_17 rfl ?_
  obtain ⟨q3, eq3, h⟩ := g_bd h
  refine g_calliV C 128 [gr 43, gi x3] (kX0_buildRow hN eq3) qs_X0_61 (by omega) (by omega) rfl rfl rfl rfl (Nat.le_of_ble_eq_true rfl) ⟨Nat.zero_le _, Nat.zero_le _⟩ dX0_faultOfTurning_18 ?_
  refine g_istore C dX0_faultOfTurning_21 (by decide) rfl ?_
  refine g_aload_n C 2 dX0_faultOfTurning_23 rfl ?_
  refine g_get (v := gr 129) C 128 0 (by omega) rfl rfl gu_0 (by decide) qf_X0_12 rfl dX0_faultOfTurning_24 ?_
  obtain ⟨q4, eq4, h⟩ := g_bd h
  refine g_calliV C 129 [] (kX4_newVariable hN eq4) qs_X0_65 (by omega) (by omega) rfl rfl rfl rfl (Nat.le_of_ble_eq_true rfl) ⟨Nat.zero_le _, Nat.zero_le _⟩ dX0_faultOfTurning_27 ?_
  refine g_istore C dX0_faultOfTurning_30 (by decide) rfl ?_
  refine g_aload_n C 3 dX0_faultOfTurning_32 rfl ?_
  refine g_get (v := gr 129) C 128 0 (by omega) rfl rfl gu_0 (by decide) qf_X0_12 rfl dX0_faultOfTurning_33 ?_
  refine g_iload C 2 dX0_faultOfTurning_36 rfl ?_
  refine g_aload_n C 3 dX0_faultOfTurning_38 rfl ?_
  refine g_get (v := gr 129) C 128 0 (by omega) rfl rfl gu_0 (by decide) qf_X0_12 rfl dX0_faultOfTurning_39 ?_
  refine g_iconst (v := 2) C dX0_faultOfTurning_42 (by decide) ?_
  refine g_iload C 1 dX0_faultOfTurning_43 rfl ?_
  refine g_iload C 0 dX0_faultOfTurning_45 rfl ?_
  obtain ⟨q5, eq5, h⟩ := g_bd h
  refine g_calliV C 129 [gi 2, gi q3.2, gi q4.2] (kX4_make hN eq5) qs_X0_69 (by omega) (by omega) rfl rfl rfl rfl (Nat.le_of_ble_eq_true rfl) ⟨Nat.zero_le _, Nat.zero_le _⟩ dX0_faultOfTurning_47 ?_
  obtain ⟨q6, eq6, h⟩ := g_bd h
  refine g_calliV C 129 [gi q2.2, gi q5.2] (kX4_match hN eq6) qs_X0_73 (by omega) (by omega) rfl rfl rfl rfl (Nat.le_of_ble_eq_true rfl) ⟨Nat.zero_le _, Nat.zero_le _⟩ dX0_faultOfTurning_50 ?_
  refine g_istore C dX0_faultOfTurning_53 (by decide) rfl ?_
  refine g_iload C 0 dX0_faultOfTurning_55 rfl ?_
  refine g_if_eq C dX0_faultOfTurning_57 (tgt := 63) (by decide) (fun c7 => ?_) (fun c7 => ?_)
  · have h := g_tt c7 h
    refine g_aload_n C 4 dX0_faultOfTurning_63 rfl ?_
    refine g_iload C 1 dX0_faultOfTurning_64 rfl ?_
    obtain ⟨q8, eq8, h⟩ := g_bd h
    refine g_calliV C 128 [gi q4.2] (kX0_isTooLong hN eq8) qs_X0_77 (by omega) (by omega) rfl rfl rfl rfl (Nat.le_of_ble_eq_true rfl) ⟨Nat.zero_le _, Nat.zero_le _⟩ dX0_faultOfTurning_66 ?_
    refine g_if_eq C dX0_faultOfTurning_69 (tgt := 76) (by decide) (fun c9 => ?_) (fun c9 => ?_)
    · have h := g_tt c9 h
      refine g_iconst (v := 0) C dX0_faultOfTurning_76 (by decide) ?_
      refine g_sub [] rfl ?_
      exact wX0_faultOfTurning_b77 hN C hr h
    · have h := g_ff c9 h
      refine g_iconst (v := 4) C dX0_faultOfTurning_72 (by decide) ?_
      refine g_goto C dX0_faultOfTurning_73 (tgt := 77) (by decide) ?_
      refine g_sub [] rfl ?_
      exact wX0_faultOfTurning_b77 hN C hr h
  · have h := g_ff c7 h
    refine g_iload C 0 dX0_faultOfTurning_60 rfl ?_
    obtain ⟨rfl, rfl⟩ := Prod.mk.inj (Option.some.inj h)
    exact g_reti C hr dX0_faultOfTurning_62

set_option maxHeartbeats 2000000 in
set_option maxRecDepth 20000 in
theorem kX0_faultOfTurning {l : Launch} {D : va_G} {g : gT} {N : Nat} {ad ln : Nat → Nat} (hN : 183 ≤ N) {A A' : gM} {x2 : Int32} {x3 : Int32} {r : Int32} (h : mX0_faultOfTurning A x2 x3 = some (A', r)) : gKi l yX0_faultOfTurning cX0_faultOfTurning 8 (some .int) (5) D g N ad ln A [gr 128, gr 43, gi x2, gi x3] A' r := by
  refine g_meti (by decide) (Nat.le_of_ble_eq_true rfl) ?_
  intro p e s m args below meth c C hr
  refine g_sub [0, 1, 2, 3] rfl ?_
  exact wX0_faultOfTurning_b0 hN C hr h
def mX0_findWheel_b87 (rec : gM → Int32 → Int32 → Option (gM × Int32)) (A : gM) (s0 : Int32) : Option (gM × Int32) :=
  some (A, s0)
def mX0_findWheel_b0 (rec : gM → Int32 → Int32 → Option (gM × Int32)) (A : gM) (x2 : Int32) (x3 : Int32) : Option (gM × Int32) :=
  (mX4_newVariable A).bind fun q1 =>
  (mX4_codeOfNode q1.1 q1.2).bind fun q2 =>
  if g_in 0 60 = true then g_let (g_up q2.1 182 (0 : Int32).toNatClampNeg q2.2) fun A4 =>
  (mX2_fact A4 x2 4).bind fun q5 =>
  (mX1_put q5.1 q5.2 1).bind fun q6 =>
  (mX2_fact q6 x2 1).bind fun q7 =>
  (rec q7.1 q7.2 (x3 + 1)).bind fun q8 =>
  (mX1_dropLast q8.1).bind fun q9 =>
  if q8.2 = (-1) then
  mX0_findWheel_b87 rec q9 (-1)
  else
  (mX4_make q9 2 q1.2 q8.2).bind fun q11 =>
  mX0_findWheel_b87 rec q11.1 q11.2
  else none
def mX0_findWheel (rec : gM → Int32 → Int32 → Option (gM × Int32)) (A : gM) (x2 : Int32) (x3 : Int32) : Option (gM × Int32) := mX0_findWheel_b0 rec A x2 x3
set_option maxHeartbeats 2000000 in
set_option maxRecDepth 20000 in
theorem wX0_findWheel_b87 (hN : 183 ≤ N) {rec : gM → Int32 → Int32 → Option (gM × Int32)} {fu : Nat} (hrec : ∀ {A A' : gM} {y0 : Int32} {y1 : Int32} {r : Int32}, rec A y0 y1 = some (A', r) → gKi l yX0_find cX0_find 5 (some .int) (20 + 2 * fu) D g N ad ln A [gr 128, gr 1, gi y0, gi y1] A' r) {A0 A' : gM} {r : Int32} (C : gC p R s m args meth c cX0_findWheel RX0 6 D g (va_A (gw g ad ln A0 N) s.heap.size) (20 + 2 * fu + 1)) (hr : meth.sig.returnType = some .int)  {A : gM} {s0 : Int32} (h : mX0_findWheel_b87 rec A s0 = some (A', r)) : gJ p l e R s m args below meth c (gEi below D g N ad ln A0 A' r args s) 6 D g (va_A (gw g ad ln A0 N) s.heap.size) N ad ln A [] 0 0 87 [gi s0] := by
  unfold mX0_findWheel_b87 at h
  obtain ⟨rfl, rfl⟩ := Prod.mk.inj (Option.some.inj h)
  exact g_reti C hr dX0_findWheel_87

set_option maxHeartbeats 2000000 in
set_option maxRecDepth 20000 in
theorem wX0_findWheel_b0 (hN : 183 ≤ N) {rec : gM → Int32 → Int32 → Option (gM × Int32)} {fu : Nat} (hrec : ∀ {A A' : gM} {y0 : Int32} {y1 : Int32} {r : Int32}, rec A y0 y1 = some (A', r) → gKi l yX0_find cX0_find 5 (some .int) (20 + 2 * fu) D g N ad ln A [gr 128, gr 1, gi y0, gi y1] A' r) {A0 A' : gM} {r : Int32} (C : gC p R s m args meth c cX0_findWheel RX0 6 D g (va_A (gw g ad ln A0 N) s.heap.size) (20 + 2 * fu + 1)) (hr : meth.sig.returnType = some .int)  {A : gM} {x2 : Int32} {x3 : Int32} (h : mX0_findWheel_b0 rec A x2 x3 = some (A', r)) : gJ p l e R s m args below meth c (gEi below D g N ad ln A0 A' r args s) 6 D g (va_A (gw g ad ln A0 N) s.heap.size) N ad ln A [(0, gr 128), (1, gr 1), (2, gi x2), (3, gi x3)] 0 0 0 [] := by
  unfold mX0_findWheel_b0 at h
  refine g_aload_n C 0 dX0_findWheel_0 rfl ?_
  refine g_get (v := gr 129) C 128 0 (by omega) rfl rfl gu_0 (by decide) qf_X0_12 rfl dX0_findWheel_1 ?_
  obtain ⟨q1, eq1, h⟩ := g_bd h
  refine g_calliV C 129 [] (kX4_newVariable hN eq1) qs_X0_65 (by omega) (by omega) rfl rfl rfl rfl (Nat.le_of_ble_eq_true rfl) ⟨Nat.zero_le _, Nat.zero_le _⟩ dX0_findWheel_4 ?_
  refine g_istore C dX0_findWheel_7 (by decide) rfl ?_
  refine g_aload_n C 1 dX0_findWheel_9 rfl ?_
  refine g_get (v := gr 182) C 128 2 (by omega) rfl rfl gu_0 (by decide) qf_X0_25 rfl dX0_findWheel_10 ?_
  refine g_iconst (v := 0) C dX0_findWheel_13 (by decide) ?_
  refine g_aload_n C 1 dX0_findWheel_14 rfl ?_
  refine g_get (v := gr 129) C 128 0 (by omega) rfl rfl gu_0 (by decide) qf_X0_12 rfl dX0_findWheel_15 ?_
  refine g_iload C 0 dX0_findWheel_18 rfl ?_
  obtain ⟨q2, eq2, h⟩ := g_bd h
  refine g_calliV C 129 [gi q1.2] (kX4_codeOfNode hN eq2) qs_X0_130 (by omega) (by omega) rfl rfl rfl rfl (Nat.le_of_ble_eq_true rfl) ⟨Nat.zero_le _, Nat.zero_le _⟩ dX0_findWheel_20 ?_
  obtain ⟨hg3, h⟩ := g_gd h
  obtain ⟨A4, eA4, h⟩ := g_lt h
  refine g_iast C 182 (by omega) rfl rfl hg3 eA4 dX0_findWheel_23 ?_
  refine g_aload_n C 1 dX0_findWheel_24 rfl ?_
  refine g_get (v := gr 138) C 128 1 (by omega) rfl rfl gu_0 (by decide) qf_X0_21 rfl dX0_findWheel_25 ?_
  refine g_aload_n C 2 dX0_findWheel_28 rfl ?_
  refine g_iload_n C 3 dX0_findWheel_29 rfl ?_
  refine g_iconst (v := 4) C dX0_findWheel_30 (by decide) ?_
  obtain ⟨q5, eq5, h⟩ := g_bd h
  refine g_calliV C 1 [gi x2, gi 4] (kX2_fact hN eq5) qs_X0_94 (by omega) (by omega) rfl rfl rfl rfl (Nat.le_of_ble_eq_true rfl) ⟨Nat.zero_le _, Nat.zero_le _⟩ dX0_findWheel_31 ?_
  refine g_aload_n C 1 dX0_findWheel_34 rfl ?_
  refine g_get (v := gr 182) C 128 2 (by omega) rfl rfl gu_0 (by decide) qf_X0_25 rfl dX0_findWheel_35 ?_
  refine g_iconst (v := 1) C dX0_findWheel_38 (by decide) ?_
  obtain ⟨q6, eq6, h⟩ := g_bd h
  refine g_callvV C 138 [gi q5.2, gr 182, gi 1] (kX1_put hN eq6) qs_X0_133 (by omega) (by omega) rfl rfl rfl rfl (Nat.le_of_ble_eq_true rfl) ⟨Nat.zero_le _, Nat.zero_le _⟩ dX0_findWheel_39 ?_
  refine g_aload_n C 1 dX0_findWheel_42 rfl ?_
  refine g_aload_n C 2 dX0_findWheel_43 rfl ?_
  refine g_aload_n C 2 dX0_findWheel_44 rfl ?_
  refine g_iload_n C 3 dX0_findWheel_45 rfl ?_
  refine g_iconst (v := 1) C dX0_findWheel_46 (by decide) ?_
  obtain ⟨q7, eq7, h⟩ := g_bd h
  refine g_calliV C 1 [gi x2, gi 1] (kX2_fact hN eq7) qs_X0_94 (by omega) (by omega) rfl rfl rfl rfl (Nat.le_of_ble_eq_true rfl) ⟨Nat.zero_le _, Nat.zero_le _⟩ dX0_findWheel_47 ?_
  refine g_iload_n C 4 dX0_findWheel_50 rfl ?_
  refine g_iconst (v := 1) C dX0_findWheel_51 (by decide) ?_
  refine g_iadd C dX0_findWheel_52 ?_
  obtain ⟨q8, eq8, h⟩ := g_bd h
  refine g_calliV C 128 [gr 1, gi q7.2, gi (x3 + 1)] (hrec eq8) qs_X0_40 (by omega) (by omega) rfl rfl rfl rfl (Nat.le_of_ble_eq_true rfl) ⟨Nat.zero_le _, Nat.zero_le _⟩ dX0_findWheel_53 ?_
  refine g_istore C dX0_findWheel_56 (by decide) rfl ?_
  refine g_aload_n C 2 dX0_findWheel_58 rfl ?_
  refine g_get (v := gr 138) C 128 1 (by omega) rfl rfl gu_0 (by decide) qf_X0_21 rfl dX0_findWheel_59 ?_
  obtain ⟨q9, eq9, h⟩ := g_bd h
  refine g_callvV C 138 [] (kX1_dropLast hN eq9) qs_X0_136 (by omega) (by omega) rfl rfl rfl rfl (Nat.le_of_ble_eq_true rfl) ⟨Nat.zero_le _, Nat.zero_le _⟩ dX0_findWheel_62 ?_
  refine g_iload C 0 dX0_findWheel_65 rfl ?_
  refine g_iconst (v := (-1)) C dX0_findWheel_67 (by decide) ?_
  refine g_icmp_ne C dX0_findWheel_68 (tgt := 75) (by decide) (fun c10 => ?_) (fun c10 => ?_)
  · have h := g_ff c10 h
    refine g_aload_n C 2 dX0_findWheel_75 rfl ?_
    refine g_get (v := gr 129) C 128 0 (by omega) rfl rfl gu_0 (by decide) qf_X0_12 rfl dX0_findWheel_76 ?_
    refine g_iconst (v := 2) C dX0_findWheel_79 (by decide) ?_
    refine g_iload C 1 dX0_findWheel_80 rfl ?_
    refine g_iload C 0 dX0_findWheel_82 rfl ?_
    obtain ⟨q11, eq11, h⟩ := g_bd h
    refine g_calliV C 129 [gi 2, gi q1.2, gi q8.2] (kX4_make hN eq11) qs_X0_69 (by omega) (by omega) rfl rfl rfl rfl (Nat.le_of_ble_eq_true rfl) ⟨Nat.zero_le _, Nat.zero_le _⟩ dX0_findWheel_84 ?_
    refine g_sub [] rfl ?_
    exact wX0_findWheel_b87 hN hrec C hr h
  · have h := g_tt c10 h
    refine g_iconst (v := (-1)) C dX0_findWheel_71 (by decide) ?_
    refine g_goto C dX0_findWheel_72 (tgt := 87) (by decide) ?_
    refine g_sub [] rfl ?_
    exact wX0_findWheel_b87 hN hrec C hr h

set_option maxHeartbeats 2000000 in
set_option maxRecDepth 20000 in
theorem kX0_findWheel {l : Launch} {D : va_G} {g : gT} {N : Nat} {ad ln : Nat → Nat} (hN : 183 ≤ N) {rec : gM → Int32 → Int32 → Option (gM × Int32)} {fu : Nat} (hrec : ∀ {A A' : gM} {y0 : Int32} {y1 : Int32} {r : Int32}, rec A y0 y1 = some (A', r) → gKi l yX0_find cX0_find 5 (some .int) (20 + 2 * fu) D g N ad ln A [gr 128, gr 1, gi y0, gi y1] A' r) {A A' : gM} {x2 : Int32} {x3 : Int32} {r : Int32} (h : mX0_findWheel rec A x2 x3 = some (A', r)) : gKi l yX0_findWheel cX0_findWheel 6 (some .int) ((20 + 2 * fu + 1)) D g N ad ln A [gr 128, gr 1, gi x2, gi x3] A' r := by
  refine g_meti (by decide) (Nat.le_of_ble_eq_true rfl) ?_
  intro p e s m args below meth c C hr
  refine g_sub [0, 1, 2, 3] rfl ?_
  exact wX0_findWheel_b0 hN hrec C hr h
def mX0_findTurning_b97 (rec : gM → Int32 → Int32 → Option (gM × Int32)) (A : gM) (s0 : Int32) : Option (gM × Int32) :=
  some (A, s0)
def mX0_findTurning_b0 (rec : gM → Int32 → Int32 → Option (gM × Int32)) (A : gM) (x2 : Int32) (x3 : Int32) : Option (gM × Int32) :=
  (mX2_fact A x2 1).bind fun q1 =>
  (rec q1.1 q1.2 (x3 + 1)).bind fun q2 =>
  if q2.2 = (-1) then
  some (q2.1, (-1))
  else
  (mX2_fact q2.1 x2 2).bind fun q4 =>
  (rec q4.1 q4.2 (x3 + 1)).bind fun q5 =>
  if q5.2 = (-1) then
  some (q5.1, (-1))
  else
  (mX4_newVariable q5.1).bind fun q7 =>
  (mX4_make q7.1 2 q5.2 q7.2).bind fun q8 =>
  (mX4_match q8.1 q2.2 q8.2).bind fun q9 =>
  if q9.2 = 0 then
  mX0_findTurning_b97 rec q9.1 q7.2
  else
  (mX0_fail q9.1 q9.2 x2).bind fun q11 =>
  mX0_findTurning_b97 rec q11.1 q11.2
def mX0_findTurning (rec : gM → Int32 → Int32 → Option (gM × Int32)) (A : gM) (x2 : Int32) (x3 : Int32) : Option (gM × Int32) := mX0_findTurning_b0 rec A x2 x3
set_option maxHeartbeats 2000000 in
set_option maxRecDepth 20000 in
theorem wX0_findTurning_b97 (hN : 183 ≤ N) {rec : gM → Int32 → Int32 → Option (gM × Int32)} {fu : Nat} (hrec : ∀ {A A' : gM} {y0 : Int32} {y1 : Int32} {r : Int32}, rec A y0 y1 = some (A', r) → gKi l yX0_find cX0_find 5 (some .int) (20 + 2 * fu) D g N ad ln A [gr 128, gr 1, gi y0, gi y1] A' r) {A0 A' : gM} {r : Int32} (C : gC p R s m args meth c cX0_findTurning RX0 8 D g (va_A (gw g ad ln A0 N) s.heap.size) (20 + 2 * fu + 1)) (hr : meth.sig.returnType = some .int)  {A : gM} {s0 : Int32} (h : mX0_findTurning_b97 rec A s0 = some (A', r)) : gJ p l e R s m args below meth c (gEi below D g N ad ln A0 A' r args s) 8 D g (va_A (gw g ad ln A0 N) s.heap.size) N ad ln A [] 0 0 97 [gi s0] := by
  unfold mX0_findTurning_b97 at h
  obtain ⟨rfl, rfl⟩ := Prod.mk.inj (Option.some.inj h)
  exact g_reti C hr dX0_findTurning_97

set_option maxHeartbeats 2000000 in
set_option maxRecDepth 20000 in
theorem wX0_findTurning_b0 (hN : 183 ≤ N) {rec : gM → Int32 → Int32 → Option (gM × Int32)} {fu : Nat} (hrec : ∀ {A A' : gM} {y0 : Int32} {y1 : Int32} {r : Int32}, rec A y0 y1 = some (A', r) → gKi l yX0_find cX0_find 5 (some .int) (20 + 2 * fu) D g N ad ln A [gr 128, gr 1, gi y0, gi y1] A' r) {A0 A' : gM} {r : Int32} (C : gC p R s m args meth c cX0_findTurning RX0 8 D g (va_A (gw g ad ln A0 N) s.heap.size) (20 + 2 * fu + 1)) (hr : meth.sig.returnType = some .int)  {A : gM} {x2 : Int32} {x3 : Int32} (h : mX0_findTurning_b0 rec A x2 x3 = some (A', r)) : gJ p l e R s m args below meth c (gEi below D g N ad ln A0 A' r args s) 8 D g (va_A (gw g ad ln A0 N) s.heap.size) N ad ln A [(0, gr 128), (1, gr 1), (2, gi x2), (3, gi x3)] 0 0 0 [] := by
  unfold mX0_findTurning_b0 at h
  refine g_aload_n C 0 dX0_findTurning_0 rfl ?_
  refine g_aload_n C 1 dX0_findTurning_1 rfl ?_
  refine g_aload_n C 1 dX0_findTurning_2 rfl ?_
  refine g_iload_n C 2 dX0_findTurning_3 rfl ?_
  refine g_iconst (v := 1) C dX0_findTurning_4 (by decide) ?_
  obtain ⟨q1, eq1, h⟩ := g_bd h
  refine g_calliV C 1 [gi x2, gi 1] (kX2_fact hN eq1) qs_X0_94 (by omega) (by omega) rfl rfl rfl rfl (Nat.le_of_ble_eq_true rfl) ⟨Nat.zero_le _, Nat.zero_le _⟩ dX0_findTurning_5 ?_
  refine g_iload_n C 3 dX0_findTurning_8 rfl ?_
  refine g_iconst (v := 1) C dX0_findTurning_9 (by decide) ?_
  refine g_iadd C dX0_findTurning_10 ?_
  obtain ⟨q2, eq2, h⟩ := g_bd h
  refine g_calliV C 128 [gr 1, gi q1.2, gi (x3 + 1)] (hrec eq2) qs_X0_40 (by omega) (by omega) rfl rfl rfl rfl (Nat.le_of_ble_eq_true rfl) ⟨Nat.zero_le _, Nat.zero_le _⟩ dX0_findTurning_11 ?_
  refine g_istore C dX0_findTurning_14 (by decide) rfl ?_
  refine g_iload C 0 dX0_findTurning_16 rfl ?_
  refine g_iconst (v := (-1)) C dX0_findTurning_18 (by decide) ?_
  refine g_icmp_ne C dX0_findTurning_19 (tgt := 24) (by decide) (fun c3 => ?_) (fun c3 => ?_)
  · have h := g_ff c3 h
    refine g_aload_n C 1 dX0_findTurning_24 rfl ?_
    refine g_aload_n C 2 dX0_findTurning_25 rfl ?_
    refine g_aload_n C 2 dX0_findTurning_26 rfl ?_
    refine g_iload_n C 3 dX0_findTurning_27 rfl ?_
    refine g_iconst (v := 2) C dX0_findTurning_28 (by decide) ?_
    obtain ⟨q4, eq4, h⟩ := g_bd h
    refine g_calliV C 1 [gi x2, gi 2] (kX2_fact hN eq4) qs_X0_94 (by omega) (by omega) rfl rfl rfl rfl (Nat.le_of_ble_eq_true rfl) ⟨Nat.zero_le _, Nat.zero_le _⟩ dX0_findTurning_29 ?_
    refine g_iload_n C 4 dX0_findTurning_32 rfl ?_
    refine g_iconst (v := 1) C dX0_findTurning_33 (by decide) ?_
    refine g_iadd C dX0_findTurning_34 ?_
    obtain ⟨q5, eq5, h⟩ := g_bd h
    refine g_calliV C 128 [gr 1, gi q4.2, gi (x3 + 1)] (hrec eq5) qs_X0_40 (by omega) (by omega) rfl rfl rfl rfl (Nat.le_of_ble_eq_true rfl) ⟨Nat.zero_le _, Nat.zero_le _⟩ dX0_findTurning_35 ?_
    refine g_istore C dX0_findTurning_38 (by decide) rfl ?_
    refine g_iload C 0 dX0_findTurning_40 rfl ?_
    refine g_iconst (v := (-1)) C dX0_findTurning_42 (by decide) ?_
    refine g_icmp_ne C dX0_findTurning_43 (tgt := 48) (by decide) (fun c6 => ?_) (fun c6 => ?_)
    · have h := g_ff c6 h
      refine g_aload_n C 2 dX0_findTurning_48 rfl ?_
      refine g_get (v := gr 129) C 128 0 (by omega) rfl rfl gu_0 (by decide) qf_X0_12 rfl dX0_findTurning_49 ?_
      obtain ⟨q7, eq7, h⟩ := g_bd h
      refine g_calliV C 129 [] (kX4_newVariable hN eq7) qs_X0_65 (by omega) (by omega) rfl rfl rfl rfl (Nat.le_of_ble_eq_true rfl) ⟨Nat.zero_le _, Nat.zero_le _⟩ dX0_findTurning_52 ?_
      refine g_istore C dX0_findTurning_55 (by decide) rfl ?_
      refine g_aload_n C 3 dX0_findTurning_57 rfl ?_
      refine g_get (v := gr 129) C 128 0 (by omega) rfl rfl gu_0 (by decide) qf_X0_12 rfl dX0_findTurning_58 ?_
      refine g_iload C 2 dX0_findTurning_61 rfl ?_
      refine g_aload_n C 3 dX0_findTurning_63 rfl ?_
      refine g_get (v := gr 129) C 128 0 (by omega) rfl rfl gu_0 (by decide) qf_X0_12 rfl dX0_findTurning_64 ?_
      refine g_iconst (v := 2) C dX0_findTurning_67 (by decide) ?_
      refine g_iload C 1 dX0_findTurning_68 rfl ?_
      refine g_iload C 0 dX0_findTurning_70 rfl ?_
      obtain ⟨q8, eq8, h⟩ := g_bd h
      refine g_calliV C 129 [gi 2, gi q5.2, gi q7.2] (kX4_make hN eq8) qs_X0_69 (by omega) (by omega) rfl rfl rfl rfl (Nat.le_of_ble_eq_true rfl) ⟨Nat.zero_le _, Nat.zero_le _⟩ dX0_findTurning_72 ?_
      obtain ⟨q9, eq9, h⟩ := g_bd h
      refine g_calliV C 129 [gi q2.2, gi q8.2] (kX4_match hN eq9) qs_X0_73 (by omega) (by omega) rfl rfl rfl rfl (Nat.le_of_ble_eq_true rfl) ⟨Nat.zero_le _, Nat.zero_le _⟩ dX0_findTurning_75 ?_
      refine g_istore C dX0_findTurning_78 (by decide) rfl ?_
      refine g_iload C 0 dX0_findTurning_80 rfl ?_
      refine g_if_ne C dX0_findTurning_82 (tgt := 90) (by decide) (fun c10 => ?_) (fun c10 => ?_)
      · have h := g_ff c10 h
        refine g_aload_n C 4 dX0_findTurning_90 rfl ?_
        refine g_iload C 0 dX0_findTurning_91 rfl ?_
        refine g_iload_n C 6 dX0_findTurning_93 rfl ?_
        obtain ⟨q11, eq11, h⟩ := g_bd h
        refine g_calliV C 128 [gi q9.2, gi x2] (kX0_fail hN eq11) qs_X0_91 (by omega) (by omega) rfl rfl rfl rfl (Nat.le_of_ble_eq_true rfl) ⟨Nat.zero_le _, Nat.zero_le _⟩ dX0_findTurning_94 ?_
        refine g_sub [] rfl ?_
        exact wX0_findTurning_b97 hN hrec C hr h
      · have h := g_tt c10 h
        refine g_iload C 1 dX0_findTurning_85 rfl ?_
        refine g_goto C dX0_findTurning_87 (tgt := 97) (by decide) ?_
        refine g_sub [] rfl ?_
        exact wX0_findTurning_b97 hN hrec C hr h
    · have h := g_tt c6 h
      refine g_iconst (v := (-1)) C dX0_findTurning_46 (by decide) ?_
      obtain ⟨rfl, rfl⟩ := Prod.mk.inj (Option.some.inj h)
      exact g_reti C hr dX0_findTurning_47
  · have h := g_tt c3 h
    refine g_iconst (v := (-1)) C dX0_findTurning_22 (by decide) ?_
    obtain ⟨rfl, rfl⟩ := Prod.mk.inj (Option.some.inj h)
    exact g_reti C hr dX0_findTurning_23

set_option maxHeartbeats 2000000 in
set_option maxRecDepth 20000 in
theorem kX0_findTurning {l : Launch} {D : va_G} {g : gT} {N : Nat} {ad ln : Nat → Nat} (hN : 183 ≤ N) {rec : gM → Int32 → Int32 → Option (gM × Int32)} {fu : Nat} (hrec : ∀ {A A' : gM} {y0 : Int32} {y1 : Int32} {r : Int32}, rec A y0 y1 = some (A', r) → gKi l yX0_find cX0_find 5 (some .int) (20 + 2 * fu) D g N ad ln A [gr 128, gr 1, gi y0, gi y1] A' r) {A A' : gM} {x2 : Int32} {x3 : Int32} {r : Int32} (h : mX0_findTurning rec A x2 x3 = some (A', r)) : gKi l yX0_findTurning cX0_findTurning 8 (some .int) ((20 + 2 * fu + 1)) D g N ad ln A [gr 128, gr 1, gi x2, gi x3] A' r := by
  refine g_meti (by decide) (Nat.le_of_ble_eq_true rfl) ?_
  intro p e s m args below meth c C hr
  refine g_sub [0, 1, 2, 3] rfl ?_
  exact wX0_findTurning_b0 hN hrec C hr h
def mX0_findTelling_b0 (rec : gM → Int32 → Int32 → Option (gM × Int32)) (A : gM) (x2 : Int32) (x3 : Int32) : Option (gM × Int32) :=
  (mX2_fact A x2 1).bind fun q1 =>
  (rec q1.1 q1.2 (x3 + 1)).bind fun q2 =>
  if q2.2 = (-1) then
  some (q2.1, (-1))
  else
  (mX1_markAll q2.1).bind fun q4 =>
  (mX4_write q4 q2.2).bind fun q5 =>
  (mX2_fact q5.1 x2 4).bind fun q6 =>
  (mX1_put q6.1 q6.2 q5.2).bind fun q7 =>
  (mX2_fact q7 x2 2).bind fun q8 =>
  (rec q8.1 q8.2 (x3 + 1)).bind fun q9 =>
  (mX1_dropLast q9.1).bind fun q10 =>
  some (q10, q9.2)
def mX0_findTelling (rec : gM → Int32 → Int32 → Option (gM × Int32)) (A : gM) (x2 : Int32) (x3 : Int32) : Option (gM × Int32) := mX0_findTelling_b0 rec A x2 x3
set_option maxHeartbeats 2000000 in
set_option maxRecDepth 20000 in
theorem wX0_findTelling_b0 (hN : 183 ≤ N) {rec : gM → Int32 → Int32 → Option (gM × Int32)} {fu : Nat} (hrec : ∀ {A A' : gM} {y0 : Int32} {y1 : Int32} {r : Int32}, rec A y0 y1 = some (A', r) → gKi l yX0_find cX0_find 5 (some .int) (20 + 2 * fu) D g N ad ln A [gr 128, gr 1, gi y0, gi y1] A' r) {A0 A' : gM} {r : Int32} (C : gC p R s m args meth c cX0_findTelling RX0 7 D g (va_A (gw g ad ln A0 N) s.heap.size) (20 + 2 * fu + 1)) (hr : meth.sig.returnType = some .int)  {A : gM} {x2 : Int32} {x3 : Int32} (h : mX0_findTelling_b0 rec A x2 x3 = some (A', r)) : gJ p l e R s m args below meth c (gEi below D g N ad ln A0 A' r args s) 7 D g (va_A (gw g ad ln A0 N) s.heap.size) N ad ln A [(0, gr 128), (1, gr 1), (2, gi x2), (3, gi x3)] 0 0 0 [] := by
  unfold mX0_findTelling_b0 at h
  refine g_aload_n C 0 dX0_findTelling_0 rfl ?_
  refine g_aload_n C 1 dX0_findTelling_1 rfl ?_
  refine g_aload_n C 1 dX0_findTelling_2 rfl ?_
  refine g_iload_n C 2 dX0_findTelling_3 rfl ?_
  refine g_iconst (v := 1) C dX0_findTelling_4 (by decide) ?_
  obtain ⟨q1, eq1, h⟩ := g_bd h
  refine g_calliV C 1 [gi x2, gi 1] (kX2_fact hN eq1) qs_X0_94 (by omega) (by omega) rfl rfl rfl rfl (Nat.le_of_ble_eq_true rfl) ⟨Nat.zero_le _, Nat.zero_le _⟩ dX0_findTelling_5 ?_
  refine g_iload_n C 3 dX0_findTelling_8 rfl ?_
  refine g_iconst (v := 1) C dX0_findTelling_9 (by decide) ?_
  refine g_iadd C dX0_findTelling_10 ?_
  obtain ⟨q2, eq2, h⟩ := g_bd h
  refine g_calliV C 128 [gr 1, gi q1.2, gi (x3 + 1)] (hrec eq2) qs_X0_40 (by omega) (by omega) rfl rfl rfl rfl (Nat.le_of_ble_eq_true rfl) ⟨Nat.zero_le _, Nat.zero_le _⟩ dX0_findTelling_11 ?_
  refine g_istore C dX0_findTelling_14 (by decide) rfl ?_
  refine g_iload C 0 dX0_findTelling_16 rfl ?_
  refine g_iconst (v := (-1)) C dX0_findTelling_18 (by decide) ?_
  refine g_icmp_ne C dX0_findTelling_19 (tgt := 24) (by decide) (fun c3 => ?_) (fun c3 => ?_)
  · have h := g_ff c3 h
    refine g_aload_n C 1 dX0_findTelling_24 rfl ?_
    refine g_get (v := gr 138) C 128 1 (by omega) rfl rfl gu_0 (by decide) qf_X0_21 rfl dX0_findTelling_25 ?_
    refine g_aload_n C 1 dX0_findTelling_28 rfl ?_
    refine g_get (v := gr 129) C 128 0 (by omega) rfl rfl gu_0 (by decide) qf_X0_12 rfl dX0_findTelling_29 ?_
    obtain ⟨q4, eq4, h⟩ := g_bd h
    refine g_callvV C 138 [gr 129] (kX1_markAll hN eq4) qs_X0_139 (by omega) (by omega) rfl rfl rfl rfl (Nat.le_of_ble_eq_true rfl) ⟨Nat.zero_le _, Nat.zero_le _⟩ dX0_findTelling_32 ?_
    refine g_aload_n C 1 dX0_findTelling_35 rfl ?_
    refine g_get (v := gr 129) C 128 0 (by omega) rfl rfl gu_0 (by decide) qf_X0_12 rfl dX0_findTelling_36 ?_
    refine g_iload C 0 dX0_findTelling_39 rfl ?_
    refine g_aload_n C 1 dX0_findTelling_41 rfl ?_
    refine g_get (v := gr 182) C 128 2 (by omega) rfl rfl gu_0 (by decide) qf_X0_25 rfl dX0_findTelling_42 ?_
    obtain ⟨q5, eq5, h⟩ := g_bd h
    refine g_calliV C 129 [gi q2.2, gr 182] (kX4_write hN eq5) qs_X0_53 (by omega) (by omega) rfl rfl rfl rfl (Nat.le_of_ble_eq_true rfl) ⟨Nat.zero_le _, Nat.zero_le _⟩ dX0_findTelling_45 ?_
    refine g_istore C dX0_findTelling_48 (by decide) rfl ?_
    refine g_aload_n C 2 dX0_findTelling_50 rfl ?_
    refine g_get (v := gr 138) C 128 1 (by omega) rfl rfl gu_0 (by decide) qf_X0_21 rfl dX0_findTelling_51 ?_
    refine g_aload_n C 3 dX0_findTelling_54 rfl ?_
    refine g_iload_n C 4 dX0_findTelling_55 rfl ?_
    refine g_iconst (v := 4) C dX0_findTelling_56 (by decide) ?_
    obtain ⟨q6, eq6, h⟩ := g_bd h
    refine g_calliV C 1 [gi x2, gi 4] (kX2_fact hN eq6) qs_X0_94 (by omega) (by omega) rfl rfl rfl rfl (Nat.le_of_ble_eq_true rfl) ⟨Nat.zero_le _, Nat.zero_le _⟩ dX0_findTelling_57 ?_
    refine g_aload_n C 2 dX0_findTelling_60 rfl ?_
    refine g_get (v := gr 182) C 128 2 (by omega) rfl rfl gu_0 (by decide) qf_X0_25 rfl dX0_findTelling_61 ?_
    refine g_iload C 0 dX0_findTelling_64 rfl ?_
    obtain ⟨q7, eq7, h⟩ := g_bd h
    refine g_callvV C 138 [gi q6.2, gr 182, gi q5.2] (kX1_put hN eq7) qs_X0_133 (by omega) (by omega) rfl rfl rfl rfl (Nat.le_of_ble_eq_true rfl) ⟨Nat.zero_le _, Nat.zero_le _⟩ dX0_findTelling_66 ?_
    refine g_aload_n C 2 dX0_findTelling_69 rfl ?_
    refine g_aload_n C 3 dX0_findTelling_70 rfl ?_
    refine g_aload_n C 3 dX0_findTelling_71 rfl ?_
    refine g_iload_n C 4 dX0_findTelling_72 rfl ?_
    refine g_iconst (v := 2) C dX0_findTelling_73 (by decide) ?_
    obtain ⟨q8, eq8, h⟩ := g_bd h
    refine g_calliV C 1 [gi x2, gi 2] (kX2_fact hN eq8) qs_X0_94 (by omega) (by omega) rfl rfl rfl rfl (Nat.le_of_ble_eq_true rfl) ⟨Nat.zero_le _, Nat.zero_le _⟩ dX0_findTelling_74 ?_
    refine g_iload_n C 5 dX0_findTelling_77 rfl ?_
    refine g_iconst (v := 1) C dX0_findTelling_78 (by decide) ?_
    refine g_iadd C dX0_findTelling_79 ?_
    obtain ⟨q9, eq9, h⟩ := g_bd h
    refine g_calliV C 128 [gr 1, gi q8.2, gi (x3 + 1)] (hrec eq9) qs_X0_40 (by omega) (by omega) rfl rfl rfl rfl (Nat.le_of_ble_eq_true rfl) ⟨Nat.zero_le _, Nat.zero_le _⟩ dX0_findTelling_80 ?_
    refine g_istore C dX0_findTelling_83 (by decide) rfl ?_
    refine g_aload_n C 3 dX0_findTelling_85 rfl ?_
    refine g_get (v := gr 138) C 128 1 (by omega) rfl rfl gu_0 (by decide) qf_X0_21 rfl dX0_findTelling_86 ?_
    obtain ⟨q10, eq10, h⟩ := g_bd h
    refine g_callvV C 138 [] (kX1_dropLast hN eq10) qs_X0_136 (by omega) (by omega) rfl rfl rfl rfl (Nat.le_of_ble_eq_true rfl) ⟨Nat.zero_le _, Nat.zero_le _⟩ dX0_findTelling_89 ?_
    refine g_iload C 0 dX0_findTelling_92 rfl ?_
    obtain ⟨rfl, rfl⟩ := Prod.mk.inj (Option.some.inj h)
    exact g_reti C hr dX0_findTelling_94
  · have h := g_tt c3 h
    refine g_iconst (v := (-1)) C dX0_findTelling_22 (by decide) ?_
    obtain ⟨rfl, rfl⟩ := Prod.mk.inj (Option.some.inj h)
    exact g_reti C hr dX0_findTelling_23

set_option maxHeartbeats 2000000 in
set_option maxRecDepth 20000 in
theorem kX0_findTelling {l : Launch} {D : va_G} {g : gT} {N : Nat} {ad ln : Nat → Nat} (hN : 183 ≤ N) {rec : gM → Int32 → Int32 → Option (gM × Int32)} {fu : Nat} (hrec : ∀ {A A' : gM} {y0 : Int32} {y1 : Int32} {r : Int32}, rec A y0 y1 = some (A', r) → gKi l yX0_find cX0_find 5 (some .int) (20 + 2 * fu) D g N ad ln A [gr 128, gr 1, gi y0, gi y1] A' r) {A A' : gM} {x2 : Int32} {x3 : Int32} {r : Int32} (h : mX0_findTelling rec A x2 x3 = some (A', r)) : gKi l yX0_findTelling cX0_findTelling 7 (some .int) ((20 + 2 * fu + 1)) D g N ad ln A [gr 128, gr 1, gi x2, gi x3] A' r := by
  refine g_meti (by decide) (Nat.le_of_ble_eq_true rfl) ?_
  intro p e s m args below meth c C hr
  refine g_sub [0, 1, 2, 3] rfl ?_
  exact wX0_findTelling_b0 hN hrec C hr h
def mX0_findAxle_b62 (rec : gM → Int32 → Int32 → Option (gM × Int32)) (A : gM) (s0 : Int32) : Option (gM × Int32) :=
  some (A, s0)
def mX0_findAxle_b0 (rec : gM → Int32 → Int32 → Option (gM × Int32)) (A : gM) (x2 : Int32) (x3 : Int32) : Option (gM × Int32) :=
  (mX2_fact A x2 1).bind fun q1 =>
  (rec q1.1 q1.2 (x3 + 1)).bind fun q2 =>
  if q2.2 = (-1) then
  some (q2.1, (-1))
  else
  (mX2_fact q2.1 x2 2).bind fun q4 =>
  (rec q4.1 q4.2 (x3 + 1)).bind fun q5 =>
  if q5.2 = (-1) then
  mX0_findAxle_b62 rec q5.1 (-1)
  else
  (mX4_make q5.1 3 q2.2 q5.2).bind fun q7 =>
  mX0_findAxle_b62 rec q7.1 q7.2
def mX0_findAxle (rec : gM → Int32 → Int32 → Option (gM × Int32)) (A : gM) (x2 : Int32) (x3 : Int32) : Option (gM × Int32) := mX0_findAxle_b0 rec A x2 x3
set_option maxHeartbeats 2000000 in
set_option maxRecDepth 20000 in
theorem wX0_findAxle_b62 (hN : 183 ≤ N) {rec : gM → Int32 → Int32 → Option (gM × Int32)} {fu : Nat} (hrec : ∀ {A A' : gM} {y0 : Int32} {y1 : Int32} {r : Int32}, rec A y0 y1 = some (A', r) → gKi l yX0_find cX0_find 5 (some .int) (20 + 2 * fu) D g N ad ln A [gr 128, gr 1, gi y0, gi y1] A' r) {A0 A' : gM} {r : Int32} (C : gC p R s m args meth c cX0_findAxle RX0 6 D g (va_A (gw g ad ln A0 N) s.heap.size) (20 + 2 * fu + 1)) (hr : meth.sig.returnType = some .int)  {A : gM} {s0 : Int32} (h : mX0_findAxle_b62 rec A s0 = some (A', r)) : gJ p l e R s m args below meth c (gEi below D g N ad ln A0 A' r args s) 6 D g (va_A (gw g ad ln A0 N) s.heap.size) N ad ln A [] 0 0 62 [gi s0] := by
  unfold mX0_findAxle_b62 at h
  obtain ⟨rfl, rfl⟩ := Prod.mk.inj (Option.some.inj h)
  exact g_reti C hr dX0_findAxle_62

set_option maxHeartbeats 2000000 in
set_option maxRecDepth 20000 in
theorem wX0_findAxle_b0 (hN : 183 ≤ N) {rec : gM → Int32 → Int32 → Option (gM × Int32)} {fu : Nat} (hrec : ∀ {A A' : gM} {y0 : Int32} {y1 : Int32} {r : Int32}, rec A y0 y1 = some (A', r) → gKi l yX0_find cX0_find 5 (some .int) (20 + 2 * fu) D g N ad ln A [gr 128, gr 1, gi y0, gi y1] A' r) {A0 A' : gM} {r : Int32} (C : gC p R s m args meth c cX0_findAxle RX0 6 D g (va_A (gw g ad ln A0 N) s.heap.size) (20 + 2 * fu + 1)) (hr : meth.sig.returnType = some .int)  {A : gM} {x2 : Int32} {x3 : Int32} (h : mX0_findAxle_b0 rec A x2 x3 = some (A', r)) : gJ p l e R s m args below meth c (gEi below D g N ad ln A0 A' r args s) 6 D g (va_A (gw g ad ln A0 N) s.heap.size) N ad ln A [(0, gr 128), (1, gr 1), (2, gi x2), (3, gi x3)] 0 0 0 [] := by
  unfold mX0_findAxle_b0 at h
  refine g_aload_n C 0 dX0_findAxle_0 rfl ?_
  refine g_aload_n C 1 dX0_findAxle_1 rfl ?_
  refine g_aload_n C 1 dX0_findAxle_2 rfl ?_
  refine g_iload_n C 2 dX0_findAxle_3 rfl ?_
  refine g_iconst (v := 1) C dX0_findAxle_4 (by decide) ?_
  obtain ⟨q1, eq1, h⟩ := g_bd h
  refine g_calliV C 1 [gi x2, gi 1] (kX2_fact hN eq1) qs_X0_94 (by omega) (by omega) rfl rfl rfl rfl (Nat.le_of_ble_eq_true rfl) ⟨Nat.zero_le _, Nat.zero_le _⟩ dX0_findAxle_5 ?_
  refine g_iload_n C 3 dX0_findAxle_8 rfl ?_
  refine g_iconst (v := 1) C dX0_findAxle_9 (by decide) ?_
  refine g_iadd C dX0_findAxle_10 ?_
  obtain ⟨q2, eq2, h⟩ := g_bd h
  refine g_calliV C 128 [gr 1, gi q1.2, gi (x3 + 1)] (hrec eq2) qs_X0_40 (by omega) (by omega) rfl rfl rfl rfl (Nat.le_of_ble_eq_true rfl) ⟨Nat.zero_le _, Nat.zero_le _⟩ dX0_findAxle_11 ?_
  refine g_istore C dX0_findAxle_14 (by decide) rfl ?_
  refine g_iload C 0 dX0_findAxle_16 rfl ?_
  refine g_iconst (v := (-1)) C dX0_findAxle_18 (by decide) ?_
  refine g_icmp_ne C dX0_findAxle_19 (tgt := 24) (by decide) (fun c3 => ?_) (fun c3 => ?_)
  · have h := g_ff c3 h
    refine g_aload_n C 1 dX0_findAxle_24 rfl ?_
    refine g_aload_n C 2 dX0_findAxle_25 rfl ?_
    refine g_aload_n C 2 dX0_findAxle_26 rfl ?_
    refine g_iload_n C 3 dX0_findAxle_27 rfl ?_
    refine g_iconst (v := 2) C dX0_findAxle_28 (by decide) ?_
    obtain ⟨q4, eq4, h⟩ := g_bd h
    refine g_calliV C 1 [gi x2, gi 2] (kX2_fact hN eq4) qs_X0_94 (by omega) (by omega) rfl rfl rfl rfl (Nat.le_of_ble_eq_true rfl) ⟨Nat.zero_le _, Nat.zero_le _⟩ dX0_findAxle_29 ?_
    refine g_iload_n C 4 dX0_findAxle_32 rfl ?_
    refine g_iconst (v := 1) C dX0_findAxle_33 (by decide) ?_
    refine g_iadd C dX0_findAxle_34 ?_
    obtain ⟨q5, eq5, h⟩ := g_bd h
    refine g_calliV C 128 [gr 1, gi q4.2, gi (x3 + 1)] (hrec eq5) qs_X0_40 (by omega) (by omega) rfl rfl rfl rfl (Nat.le_of_ble_eq_true rfl) ⟨Nat.zero_le _, Nat.zero_le _⟩ dX0_findAxle_35 ?_
    refine g_istore C dX0_findAxle_38 (by decide) rfl ?_
    refine g_iload C 0 dX0_findAxle_40 rfl ?_
    refine g_iconst (v := (-1)) C dX0_findAxle_42 (by decide) ?_
    refine g_icmp_ne C dX0_findAxle_43 (tgt := 50) (by decide) (fun c6 => ?_) (fun c6 => ?_)
    · have h := g_ff c6 h
      refine g_aload_n C 2 dX0_findAxle_50 rfl ?_
      refine g_get (v := gr 129) C 128 0 (by omega) rfl rfl gu_0 (by decide) qf_X0_12 rfl dX0_findAxle_51 ?_
      refine g_iconst (v := 3) C dX0_findAxle_54 (by decide) ?_
      refine g_iload C 1 dX0_findAxle_55 rfl ?_
      refine g_iload C 0 dX0_findAxle_57 rfl ?_
      obtain ⟨q7, eq7, h⟩ := g_bd h
      refine g_calliV C 129 [gi 3, gi q2.2, gi q5.2] (kX4_make hN eq7) qs_X0_69 (by omega) (by omega) rfl rfl rfl rfl (Nat.le_of_ble_eq_true rfl) ⟨Nat.zero_le _, Nat.zero_le _⟩ dX0_findAxle_59 ?_
      refine g_sub [] rfl ?_
      exact wX0_findAxle_b62 hN hrec C hr h
    · have h := g_tt c6 h
      refine g_iconst (v := (-1)) C dX0_findAxle_46 (by decide) ?_
      refine g_goto C dX0_findAxle_47 (tgt := 62) (by decide) ?_
      refine g_sub [] rfl ?_
      exact wX0_findAxle_b62 hN hrec C hr h
  · have h := g_tt c3 h
    refine g_iconst (v := (-1)) C dX0_findAxle_22 (by decide) ?_
    obtain ⟨rfl, rfl⟩ := Prod.mk.inj (Option.some.inj h)
    exact g_reti C hr dX0_findAxle_23

set_option maxHeartbeats 2000000 in
set_option maxRecDepth 20000 in
theorem kX0_findAxle {l : Launch} {D : va_G} {g : gT} {N : Nat} {ad ln : Nat → Nat} (hN : 183 ≤ N) {rec : gM → Int32 → Int32 → Option (gM × Int32)} {fu : Nat} (hrec : ∀ {A A' : gM} {y0 : Int32} {y1 : Int32} {r : Int32}, rec A y0 y1 = some (A', r) → gKi l yX0_find cX0_find 5 (some .int) (20 + 2 * fu) D g N ad ln A [gr 128, gr 1, gi y0, gi y1] A' r) {A A' : gM} {x2 : Int32} {x3 : Int32} {r : Int32} (h : mX0_findAxle rec A x2 x3 = some (A', r)) : gKi l yX0_findAxle cX0_findAxle 6 (some .int) ((20 + 2 * fu + 1)) D g N ad ln A [gr 128, gr 1, gi x2, gi x3] A' r := by
  refine g_meti (by decide) (Nat.le_of_ble_eq_true rfl) ?_
  intro p e s m args below meth c C hr
  refine g_sub [0, 1, 2, 3] rfl ?_
  exact wX0_findAxle_b0 hN hrec C hr h
def mX0_findEnd_b94 (rec : gM → Int32 → Int32 → Option (gM × Int32)) (A : gM) (s0 : Int32) : Option (gM × Int32) :=
  some (A, s0)
def mX0_findEnd_b0 (rec : gM → Int32 → Int32 → Option (gM × Int32)) (A : gM) (x2 : Int32) (x3 : Int32) : Option (gM × Int32) :=
  (mX2_fact A x2 1).bind fun q1 =>
  (rec q1.1 q1.2 (x3 + 1)).bind fun q2 =>
  if q2.2 = (-1) then
  some (q2.1, (-1))
  else
  (mX4_newVariable q2.1).bind fun q4 =>
  (mX4_newVariable q4.1).bind fun q5 =>
  (mX4_make q5.1 3 q4.2 q5.2).bind fun q6 =>
  (mX4_match q6.1 q2.2 q6.2).bind fun q7 =>
  if q7.2 = 0 then
  (mX2_fact q7.1 x2 4).bind fun q9 =>
  if q9.2 = 0 then
  mX0_findEnd_b94 rec q9.1 q4.2
  else
  mX0_findEnd_b94 rec q9.1 q5.2
  else
  (mX0_fail q7.1 q7.2 x2).bind fun q11 =>
  some (q11.1, q11.2)
def mX0_findEnd (rec : gM → Int32 → Int32 → Option (gM × Int32)) (A : gM) (x2 : Int32) (x3 : Int32) : Option (gM × Int32) := mX0_findEnd_b0 rec A x2 x3
set_option maxHeartbeats 2000000 in
set_option maxRecDepth 20000 in
theorem wX0_findEnd_b94 (hN : 183 ≤ N) {rec : gM → Int32 → Int32 → Option (gM × Int32)} {fu : Nat} (hrec : ∀ {A A' : gM} {y0 : Int32} {y1 : Int32} {r : Int32}, rec A y0 y1 = some (A', r) → gKi l yX0_find cX0_find 5 (some .int) (20 + 2 * fu) D g N ad ln A [gr 128, gr 1, gi y0, gi y1] A' r) {A0 A' : gM} {r : Int32} (C : gC p R s m args meth c cX0_findEnd RX0 8 D g (va_A (gw g ad ln A0 N) s.heap.size) (20 + 2 * fu + 1)) (hr : meth.sig.returnType = some .int)  {A : gM} {s0 : Int32} (h : mX0_findEnd_b94 rec A s0 = some (A', r)) : gJ p l e R s m args below meth c (gEi below D g N ad ln A0 A' r args s) 8 D g (va_A (gw g ad ln A0 N) s.heap.size) N ad ln A [] 0 0 94 [gi s0] := by
  unfold mX0_findEnd_b94 at h
  obtain ⟨rfl, rfl⟩ := Prod.mk.inj (Option.some.inj h)
  exact g_reti C hr dX0_findEnd_94

set_option maxHeartbeats 2000000 in
set_option maxRecDepth 20000 in
theorem wX0_findEnd_b0 (hN : 183 ≤ N) {rec : gM → Int32 → Int32 → Option (gM × Int32)} {fu : Nat} (hrec : ∀ {A A' : gM} {y0 : Int32} {y1 : Int32} {r : Int32}, rec A y0 y1 = some (A', r) → gKi l yX0_find cX0_find 5 (some .int) (20 + 2 * fu) D g N ad ln A [gr 128, gr 1, gi y0, gi y1] A' r) {A0 A' : gM} {r : Int32} (C : gC p R s m args meth c cX0_findEnd RX0 8 D g (va_A (gw g ad ln A0 N) s.heap.size) (20 + 2 * fu + 1)) (hr : meth.sig.returnType = some .int)  {A : gM} {x2 : Int32} {x3 : Int32} (h : mX0_findEnd_b0 rec A x2 x3 = some (A', r)) : gJ p l e R s m args below meth c (gEi below D g N ad ln A0 A' r args s) 8 D g (va_A (gw g ad ln A0 N) s.heap.size) N ad ln A [(0, gr 128), (1, gr 1), (2, gi x2), (3, gi x3)] 0 0 0 [] := by
  unfold mX0_findEnd_b0 at h
  refine g_aload_n C 0 dX0_findEnd_0 rfl ?_
  refine g_aload_n C 1 dX0_findEnd_1 rfl ?_
  refine g_aload_n C 1 dX0_findEnd_2 rfl ?_
  refine g_iload_n C 2 dX0_findEnd_3 rfl ?_
  refine g_iconst (v := 1) C dX0_findEnd_4 (by decide) ?_
  obtain ⟨q1, eq1, h⟩ := g_bd h
  refine g_calliV C 1 [gi x2, gi 1] (kX2_fact hN eq1) qs_X0_94 (by omega) (by omega) rfl rfl rfl rfl (Nat.le_of_ble_eq_true rfl) ⟨Nat.zero_le _, Nat.zero_le _⟩ dX0_findEnd_5 ?_
  refine g_iload_n C 3 dX0_findEnd_8 rfl ?_
  refine g_iconst (v := 1) C dX0_findEnd_9 (by decide) ?_
  refine g_iadd C dX0_findEnd_10 ?_
  obtain ⟨q2, eq2, h⟩ := g_bd h
  refine g_calliV C 128 [gr 1, gi q1.2, gi (x3 + 1)] (hrec eq2) qs_X0_40 (by omega) (by omega) rfl rfl rfl rfl (Nat.le_of_ble_eq_true rfl) ⟨Nat.zero_le _, Nat.zero_le _⟩ dX0_findEnd_11 ?_
  refine g_istore C dX0_findEnd_14 (by decide) rfl ?_
  refine g_iload C 0 dX0_findEnd_16 rfl ?_
  refine g_iconst (v := (-1)) C dX0_findEnd_18 (by decide) ?_
  refine g_icmp_ne C dX0_findEnd_19 (tgt := 24) (by decide) (fun c3 => ?_) (fun c3 => ?_)
  · have h := g_ff c3 h
    refine g_aload_n C 1 dX0_findEnd_24 rfl ?_
    refine g_get (v := gr 129) C 128 0 (by omega) rfl rfl gu_0 (by decide) qf_X0_12 rfl dX0_findEnd_25 ?_
    obtain ⟨q4, eq4, h⟩ := g_bd h
    refine g_calliV C 129 [] (kX4_newVariable hN eq4) qs_X0_65 (by omega) (by omega) rfl rfl rfl rfl (Nat.le_of_ble_eq_true rfl) ⟨Nat.zero_le _, Nat.zero_le _⟩ dX0_findEnd_28 ?_
    refine g_istore C dX0_findEnd_31 (by decide) rfl ?_
    refine g_aload_n C 2 dX0_findEnd_33 rfl ?_
    refine g_get (v := gr 129) C 128 0 (by omega) rfl rfl gu_0 (by decide) qf_X0_12 rfl dX0_findEnd_34 ?_
    obtain ⟨q5, eq5, h⟩ := g_bd h
    refine g_calliV C 129 [] (kX4_newVariable hN eq5) qs_X0_65 (by omega) (by omega) rfl rfl rfl rfl (Nat.le_of_ble_eq_true rfl) ⟨Nat.zero_le _, Nat.zero_le _⟩ dX0_findEnd_37 ?_
    refine g_istore C dX0_findEnd_40 (by decide) rfl ?_
    refine g_aload_n C 3 dX0_findEnd_42 rfl ?_
    refine g_get (v := gr 129) C 128 0 (by omega) rfl rfl gu_0 (by decide) qf_X0_12 rfl dX0_findEnd_43 ?_
    refine g_iload C 2 dX0_findEnd_46 rfl ?_
    refine g_aload_n C 3 dX0_findEnd_48 rfl ?_
    refine g_get (v := gr 129) C 128 0 (by omega) rfl rfl gu_0 (by decide) qf_X0_12 rfl dX0_findEnd_49 ?_
    refine g_iconst (v := 3) C dX0_findEnd_52 (by decide) ?_
    refine g_iload C 1 dX0_findEnd_53 rfl ?_
    refine g_iload C 0 dX0_findEnd_55 rfl ?_
    obtain ⟨q6, eq6, h⟩ := g_bd h
    refine g_calliV C 129 [gi 3, gi q4.2, gi q5.2] (kX4_make hN eq6) qs_X0_69 (by omega) (by omega) rfl rfl rfl rfl (Nat.le_of_ble_eq_true rfl) ⟨Nat.zero_le _, Nat.zero_le _⟩ dX0_findEnd_57 ?_
    obtain ⟨q7, eq7, h⟩ := g_bd h
    refine g_calliV C 129 [gi q2.2, gi q6.2] (kX4_match hN eq7) qs_X0_73 (by omega) (by omega) rfl rfl rfl rfl (Nat.le_of_ble_eq_true rfl) ⟨Nat.zero_le _, Nat.zero_le _⟩ dX0_findEnd_60 ?_
    refine g_istore C dX0_findEnd_63 (by decide) rfl ?_
    refine g_iload C 0 dX0_findEnd_65 rfl ?_
    refine g_if_eq C dX0_findEnd_67 (tgt := 78) (by decide) (fun c8 => ?_) (fun c8 => ?_)
    · have h := g_tt c8 h
      refine g_aload_n C 5 dX0_findEnd_78 rfl ?_
      refine g_iload_n C 6 dX0_findEnd_79 rfl ?_
      refine g_iconst (v := 4) C dX0_findEnd_80 (by decide) ?_
      obtain ⟨q9, eq9, h⟩ := g_bd h
      refine g_calliV C 1 [gi x2, gi 4] (kX2_fact hN eq9) qs_X0_94 (by omega) (by omega) rfl rfl rfl rfl (Nat.le_of_ble_eq_true rfl) ⟨Nat.zero_le _, Nat.zero_le _⟩ dX0_findEnd_81 ?_
      refine g_if_ne C dX0_findEnd_84 (tgt := 92) (by decide) (fun c10 => ?_) (fun c10 => ?_)
      · have h := g_ff c10 h
        refine g_iload C 1 dX0_findEnd_92 rfl ?_
        refine g_sub [] rfl ?_
        exact wX0_findEnd_b94 hN hrec C hr h
      · have h := g_tt c10 h
        refine g_iload C 2 dX0_findEnd_87 rfl ?_
        refine g_goto C dX0_findEnd_89 (tgt := 94) (by decide) ?_
        refine g_sub [] rfl ?_
        exact wX0_findEnd_b94 hN hrec C hr h
    · have h := g_ff c8 h
      refine g_aload_n C 4 dX0_findEnd_70 rfl ?_
      refine g_iload C 0 dX0_findEnd_71 rfl ?_
      refine g_iload_n C 6 dX0_findEnd_73 rfl ?_
      obtain ⟨q11, eq11, h⟩ := g_bd h
      refine g_calliV C 128 [gi q7.2, gi x2] (kX0_fail hN eq11) qs_X0_91 (by omega) (by omega) rfl rfl rfl rfl (Nat.le_of_ble_eq_true rfl) ⟨Nat.zero_le _, Nat.zero_le _⟩ dX0_findEnd_74 ?_
      obtain ⟨rfl, rfl⟩ := Prod.mk.inj (Option.some.inj h)
      exact g_reti C hr dX0_findEnd_77
  · have h := g_tt c3 h
    refine g_iconst (v := (-1)) C dX0_findEnd_22 (by decide) ?_
    obtain ⟨rfl, rfl⟩ := Prod.mk.inj (Option.some.inj h)
    exact g_reti C hr dX0_findEnd_23

set_option maxHeartbeats 2000000 in
set_option maxRecDepth 20000 in
theorem kX0_findEnd {l : Launch} {D : va_G} {g : gT} {N : Nat} {ad ln : Nat → Nat} (hN : 183 ≤ N) {rec : gM → Int32 → Int32 → Option (gM × Int32)} {fu : Nat} (hrec : ∀ {A A' : gM} {y0 : Int32} {y1 : Int32} {r : Int32}, rec A y0 y1 = some (A', r) → gKi l yX0_find cX0_find 5 (some .int) (20 + 2 * fu) D g N ad ln A [gr 128, gr 1, gi y0, gi y1] A' r) {A A' : gM} {x2 : Int32} {x3 : Int32} {r : Int32} (h : mX0_findEnd rec A x2 x3 = some (A', r)) : gKi l yX0_findEnd cX0_findEnd 8 (some .int) ((20 + 2 * fu + 1)) D g N ad ln A [gr 128, gr 1, gi x2, gi x3] A' r := by
  refine g_meti (by decide) (Nat.le_of_ble_eq_true rfl) ?_
  intro p e s m args below meth c C hr
  refine g_sub [0, 1, 2, 3] rfl ?_
  exact wX0_findEnd_b0 hN hrec C hr h
def mX0_findChoice_b127 (rec : gM → Int32 → Int32 → Option (gM × Int32)) (A : gM) (s0 : Int32) : Option (gM × Int32) :=
  some (A, s0)
def mX0_findChoice_b0 (rec : gM → Int32 → Int32 → Option (gM × Int32)) (A : gM) (x2 : Int32) (x3 : Int32) : Option (gM × Int32) :=
  (mX2_fact A x2 1).bind fun q1 =>
  (rec q1.1 q1.2 (x3 + 1)).bind fun q2 =>
  if q2.2 = (-1) then
  some (q2.1, (-1))
  else
  (mX4_match q2.1 q2.2 1).bind fun q4 =>
  if q4.2 = 0 then
  (mX2_fact q4.1 x2 2).bind fun q6 =>
  (rec q6.1 q6.2 (x3 + 1)).bind fun q7 =>
  if q7.2 = (-1) then
  some (q7.1, (-1))
  else
  (mX2_fact q7.1 x2 3).bind fun q9 =>
  (rec q9.1 q9.2 (x3 + 1)).bind fun q10 =>
  if q10.2 = (-1) then
  some (q10.1, (-1))
  else
  (mX4_match q10.1 q7.2 q10.2).bind fun q12 =>
  if q12.2 = 0 then
  mX0_findChoice_b127 rec q12.1 q7.2
  else
  (mX0_fail q12.1 q12.2 x2).bind fun q14 =>
  mX0_findChoice_b127 rec q14.1 q14.2
  else
  (mX0_fail q4.1 q4.2 x2).bind fun q15 =>
  some (q15.1, q15.2)
def mX0_findChoice (rec : gM → Int32 → Int32 → Option (gM × Int32)) (A : gM) (x2 : Int32) (x3 : Int32) : Option (gM × Int32) := mX0_findChoice_b0 rec A x2 x3
set_option maxHeartbeats 2000000 in
set_option maxRecDepth 20000 in
theorem wX0_findChoice_b127 (hN : 183 ≤ N) {rec : gM → Int32 → Int32 → Option (gM × Int32)} {fu : Nat} (hrec : ∀ {A A' : gM} {y0 : Int32} {y1 : Int32} {r : Int32}, rec A y0 y1 = some (A', r) → gKi l yX0_find cX0_find 5 (some .int) (20 + 2 * fu) D g N ad ln A [gr 128, gr 1, gi y0, gi y1] A' r) {A0 A' : gM} {r : Int32} (C : gC p R s m args meth c cX0_findChoice RX0 8 D g (va_A (gw g ad ln A0 N) s.heap.size) (20 + 2 * fu + 1)) (hr : meth.sig.returnType = some .int)  {A : gM} {s0 : Int32} (h : mX0_findChoice_b127 rec A s0 = some (A', r)) : gJ p l e R s m args below meth c (gEi below D g N ad ln A0 A' r args s) 8 D g (va_A (gw g ad ln A0 N) s.heap.size) N ad ln A [] 0 0 127 [gi s0] := by
  unfold mX0_findChoice_b127 at h
  obtain ⟨rfl, rfl⟩ := Prod.mk.inj (Option.some.inj h)
  exact g_reti C hr dX0_findChoice_127

set_option maxHeartbeats 2000000 in
set_option maxRecDepth 20000 in
theorem wX0_findChoice_b0 (hN : 183 ≤ N) {rec : gM → Int32 → Int32 → Option (gM × Int32)} {fu : Nat} (hrec : ∀ {A A' : gM} {y0 : Int32} {y1 : Int32} {r : Int32}, rec A y0 y1 = some (A', r) → gKi l yX0_find cX0_find 5 (some .int) (20 + 2 * fu) D g N ad ln A [gr 128, gr 1, gi y0, gi y1] A' r) {A0 A' : gM} {r : Int32} (C : gC p R s m args meth c cX0_findChoice RX0 8 D g (va_A (gw g ad ln A0 N) s.heap.size) (20 + 2 * fu + 1)) (hr : meth.sig.returnType = some .int)  {A : gM} {x2 : Int32} {x3 : Int32} (h : mX0_findChoice_b0 rec A x2 x3 = some (A', r)) : gJ p l e R s m args below meth c (gEi below D g N ad ln A0 A' r args s) 8 D g (va_A (gw g ad ln A0 N) s.heap.size) N ad ln A [(0, gr 128), (1, gr 1), (2, gi x2), (3, gi x3)] 0 0 0 [] := by
  unfold mX0_findChoice_b0 at h
  refine g_aload_n C 0 dX0_findChoice_0 rfl ?_
  refine g_aload_n C 1 dX0_findChoice_1 rfl ?_
  refine g_aload_n C 1 dX0_findChoice_2 rfl ?_
  refine g_iload_n C 2 dX0_findChoice_3 rfl ?_
  refine g_iconst (v := 1) C dX0_findChoice_4 (by decide) ?_
  obtain ⟨q1, eq1, h⟩ := g_bd h
  refine g_calliV C 1 [gi x2, gi 1] (kX2_fact hN eq1) qs_X0_94 (by omega) (by omega) rfl rfl rfl rfl (Nat.le_of_ble_eq_true rfl) ⟨Nat.zero_le _, Nat.zero_le _⟩ dX0_findChoice_5 ?_
  refine g_iload_n C 3 dX0_findChoice_8 rfl ?_
  refine g_iconst (v := 1) C dX0_findChoice_9 (by decide) ?_
  refine g_iadd C dX0_findChoice_10 ?_
  obtain ⟨q2, eq2, h⟩ := g_bd h
  refine g_calliV C 128 [gr 1, gi q1.2, gi (x3 + 1)] (hrec eq2) qs_X0_40 (by omega) (by omega) rfl rfl rfl rfl (Nat.le_of_ble_eq_true rfl) ⟨Nat.zero_le _, Nat.zero_le _⟩ dX0_findChoice_11 ?_
  refine g_istore C dX0_findChoice_14 (by decide) rfl ?_
  refine g_iload C 0 dX0_findChoice_16 rfl ?_
  refine g_iconst (v := (-1)) C dX0_findChoice_18 (by decide) ?_
  refine g_icmp_ne C dX0_findChoice_19 (tgt := 24) (by decide) (fun c3 => ?_) (fun c3 => ?_)
  · have h := g_ff c3 h
    refine g_aload_n C 1 dX0_findChoice_24 rfl ?_
    refine g_get (v := gr 129) C 128 0 (by omega) rfl rfl gu_0 (by decide) qf_X0_12 rfl dX0_findChoice_25 ?_
    refine g_iload C 0 dX0_findChoice_28 rfl ?_
    refine g_iconst (v := 1) C dX0_findChoice_30 (by decide) ?_
    obtain ⟨q4, eq4, h⟩ := g_bd h
    refine g_calliV C 129 [gi q2.2, gi 1] (kX4_match hN eq4) qs_X0_73 (by omega) (by omega) rfl rfl rfl rfl (Nat.le_of_ble_eq_true rfl) ⟨Nat.zero_le _, Nat.zero_le _⟩ dX0_findChoice_31 ?_
    refine g_istore C dX0_findChoice_34 (by decide) rfl ?_
    refine g_iload C 0 dX0_findChoice_36 rfl ?_
    refine g_if_eq C dX0_findChoice_38 (tgt := 49) (by decide) (fun c5 => ?_) (fun c5 => ?_)
    · have h := g_tt c5 h
      refine g_aload_n C 2 dX0_findChoice_49 rfl ?_
      refine g_aload_n C 3 dX0_findChoice_50 rfl ?_
      refine g_aload_n C 3 dX0_findChoice_51 rfl ?_
      refine g_iload_n C 4 dX0_findChoice_52 rfl ?_
      refine g_iconst (v := 2) C dX0_findChoice_53 (by decide) ?_
      obtain ⟨q6, eq6, h⟩ := g_bd h
      refine g_calliV C 1 [gi x2, gi 2] (kX2_fact hN eq6) qs_X0_94 (by omega) (by omega) rfl rfl rfl rfl (Nat.le_of_ble_eq_true rfl) ⟨Nat.zero_le _, Nat.zero_le _⟩ dX0_findChoice_54 ?_
      refine g_iload_n C 5 dX0_findChoice_57 rfl ?_
      refine g_iconst (v := 1) C dX0_findChoice_58 (by decide) ?_
      refine g_iadd C dX0_findChoice_59 ?_
      obtain ⟨q7, eq7, h⟩ := g_bd h
      refine g_calliV C 128 [gr 1, gi q6.2, gi (x3 + 1)] (hrec eq7) qs_X0_40 (by omega) (by omega) rfl rfl rfl rfl (Nat.le_of_ble_eq_true rfl) ⟨Nat.zero_le _, Nat.zero_le _⟩ dX0_findChoice_60 ?_
      refine g_istore C dX0_findChoice_63 (by decide) rfl ?_
      refine g_iload C 0 dX0_findChoice_65 rfl ?_
      refine g_iconst (v := (-1)) C dX0_findChoice_67 (by decide) ?_
      refine g_icmp_ne C dX0_findChoice_68 (tgt := 73) (by decide) (fun c8 => ?_) (fun c8 => ?_)
      · have h := g_ff c8 h
        refine g_aload_n C 3 dX0_findChoice_73 rfl ?_
        refine g_aload_n C 4 dX0_findChoice_74 rfl ?_
        refine g_aload_n C 4 dX0_findChoice_75 rfl ?_
        refine g_iload_n C 5 dX0_findChoice_76 rfl ?_
        refine g_iconst (v := 3) C dX0_findChoice_77 (by decide) ?_
        obtain ⟨q9, eq9, h⟩ := g_bd h
        refine g_calliV C 1 [gi x2, gi 3] (kX2_fact hN eq9) qs_X0_94 (by omega) (by omega) rfl rfl rfl rfl (Nat.le_of_ble_eq_true rfl) ⟨Nat.zero_le _, Nat.zero_le _⟩ dX0_findChoice_78 ?_
        refine g_iload_n C 6 dX0_findChoice_81 rfl ?_
        refine g_iconst (v := 1) C dX0_findChoice_82 (by decide) ?_
        refine g_iadd C dX0_findChoice_83 ?_
        obtain ⟨q10, eq10, h⟩ := g_bd h
        refine g_calliV C 128 [gr 1, gi q9.2, gi (x3 + 1)] (hrec eq10) qs_X0_40 (by omega) (by omega) rfl rfl rfl rfl (Nat.le_of_ble_eq_true rfl) ⟨Nat.zero_le _, Nat.zero_le _⟩ dX0_findChoice_84 ?_
        refine g_istore C dX0_findChoice_87 (by decide) rfl ?_
        refine g_iload C 0 dX0_findChoice_89 rfl ?_
        refine g_iconst (v := (-1)) C dX0_findChoice_91 (by decide) ?_
        refine g_icmp_ne C dX0_findChoice_92 (tgt := 97) (by decide) (fun c11 => ?_) (fun c11 => ?_)
        · have h := g_ff c11 h
          refine g_aload_n C 4 dX0_findChoice_97 rfl ?_
          refine g_get (v := gr 129) C 128 0 (by omega) rfl rfl gu_0 (by decide) qf_X0_12 rfl dX0_findChoice_98 ?_
          refine g_iload C 1 dX0_findChoice_101 rfl ?_
          refine g_iload C 0 dX0_findChoice_103 rfl ?_
          obtain ⟨q12, eq12, h⟩ := g_bd h
          refine g_calliV C 129 [gi q7.2, gi q10.2] (kX4_match hN eq12) qs_X0_73 (by omega) (by omega) rfl rfl rfl rfl (Nat.le_of_ble_eq_true rfl) ⟨Nat.zero_le _, Nat.zero_le _⟩ dX0_findChoice_105 ?_
          refine g_istore C dX0_findChoice_108 (by decide) rfl ?_
          refine g_iload C 0 dX0_findChoice_110 rfl ?_
          refine g_if_ne C dX0_findChoice_112 (tgt := 120) (by decide) (fun c13 => ?_) (fun c13 => ?_)
          · have h := g_ff c13 h
            refine g_aload_n C 4 dX0_findChoice_120 rfl ?_
            refine g_iload C 0 dX0_findChoice_121 rfl ?_
            refine g_iload_n C 6 dX0_findChoice_123 rfl ?_
            obtain ⟨q14, eq14, h⟩ := g_bd h
            refine g_calliV C 128 [gi q12.2, gi x2] (kX0_fail hN eq14) qs_X0_91 (by omega) (by omega) rfl rfl rfl rfl (Nat.le_of_ble_eq_true rfl) ⟨Nat.zero_le _, Nat.zero_le _⟩ dX0_findChoice_124 ?_
            refine g_sub [] rfl ?_
            exact wX0_findChoice_b127 hN hrec C hr h
          · have h := g_tt c13 h
            refine g_iload C 2 dX0_findChoice_115 rfl ?_
            refine g_goto C dX0_findChoice_117 (tgt := 127) (by decide) ?_
            refine g_sub [] rfl ?_
            exact wX0_findChoice_b127 hN hrec C hr h
        · have h := g_tt c11 h
          refine g_iconst (v := (-1)) C dX0_findChoice_95 (by decide) ?_
          obtain ⟨rfl, rfl⟩ := Prod.mk.inj (Option.some.inj h)
          exact g_reti C hr dX0_findChoice_96
      · have h := g_tt c8 h
        refine g_iconst (v := (-1)) C dX0_findChoice_71 (by decide) ?_
        obtain ⟨rfl, rfl⟩ := Prod.mk.inj (Option.some.inj h)
        exact g_reti C hr dX0_findChoice_72
    · have h := g_ff c5 h
      refine g_aload_n C 2 dX0_findChoice_41 rfl ?_
      refine g_iload C 0 dX0_findChoice_42 rfl ?_
      refine g_iload_n C 4 dX0_findChoice_44 rfl ?_
      obtain ⟨q15, eq15, h⟩ := g_bd h
      refine g_calliV C 128 [gi q4.2, gi x2] (kX0_fail hN eq15) qs_X0_91 (by omega) (by omega) rfl rfl rfl rfl (Nat.le_of_ble_eq_true rfl) ⟨Nat.zero_le _, Nat.zero_le _⟩ dX0_findChoice_45 ?_
      obtain ⟨rfl, rfl⟩ := Prod.mk.inj (Option.some.inj h)
      exact g_reti C hr dX0_findChoice_48
  · have h := g_tt c3 h
    refine g_iconst (v := (-1)) C dX0_findChoice_22 (by decide) ?_
    obtain ⟨rfl, rfl⟩ := Prod.mk.inj (Option.some.inj h)
    exact g_reti C hr dX0_findChoice_23

set_option maxHeartbeats 2000000 in
set_option maxRecDepth 20000 in
theorem kX0_findChoice {l : Launch} {D : va_G} {g : gT} {N : Nat} {ad ln : Nat → Nat} (hN : 183 ≤ N) {rec : gM → Int32 → Int32 → Option (gM × Int32)} {fu : Nat} (hrec : ∀ {A A' : gM} {y0 : Int32} {y1 : Int32} {r : Int32}, rec A y0 y1 = some (A', r) → gKi l yX0_find cX0_find 5 (some .int) (20 + 2 * fu) D g N ad ln A [gr 128, gr 1, gi y0, gi y1] A' r) {A A' : gM} {x2 : Int32} {x3 : Int32} {r : Int32} (h : mX0_findChoice rec A x2 x3 = some (A', r)) : gKi l yX0_findChoice cX0_findChoice 8 (some .int) ((20 + 2 * fu + 1)) D g N ad ln A [gr 128, gr 1, gi x2, gi x3] A' r := by
  refine g_meti (by decide) (Nat.le_of_ble_eq_true rfl) ?_
  intro p e s m args below meth c C hr
  refine g_sub [0, 1, 2, 3] rfl ?_
  exact wX0_findChoice_b0 hN hrec C hr h
def mX0_find_b179 (rec : gM → Int32 → Int32 → Option (gM × Int32)) (A : gM) (x4 : Int32) : Option (gM × Int32) :=
  some (A, x4)
def mX0_find_b157 (rec : gM → Int32 → Int32 → Option (gM × Int32)) (A : gM) (x2 : Int32) (x4 : Int32) : Option (gM × Int32) :=
  if x4 = (-1) then
  mX0_find_b179 rec A x4
  else
  (mX0_isTooLong A x4).bind fun q2 =>
  if q2.2 = 0 then
  mX0_find_b179 rec q2.1 x4
  else
  (mX0_fail q2.1 4 x2).bind fun q4 =>
  some (q4.1, q4.2)
def mX0_find_b0 (rec : gM → Int32 → Int32 → Option (gM × Int32)) (A : gM) (x2 : Int32) (x3 : Int32) : Option (gM × Int32) :=
  if x3 < 40 then
  (mX2_fact A x2 0).bind fun q2 =>
  if q2.2 = 1 then
  mX0_find_b157 rec q2.1 x2 1
  else if q2.2 = 2 then
  (mX0_findName q2.1 x2).bind fun q5 =>
  mX0_find_b157 rec q5.1 x2 q5.2
  else if q2.2 = 3 then
  (mX0_findWheel rec q2.1 x2 x3).bind fun q7 =>
  mX0_find_b157 rec q7.1 x2 q7.2
  else if q2.2 = 4 then
  (mX0_findTurning rec q2.1 x2 x3).bind fun q9 =>
  mX0_find_b157 rec q9.1 x2 q9.2
  else if q2.2 = 5 then
  (mX0_findTelling rec q2.1 x2 x3).bind fun q11 =>
  mX0_find_b157 rec q11.1 x2 q11.2
  else if q2.2 = 6 then
  (mX0_findAxle rec q2.1 x2 x3).bind fun q13 =>
  mX0_find_b157 rec q13.1 x2 q13.2
  else if q2.2 = 7 then
  (mX0_findEnd rec q2.1 x2 x3).bind fun q15 =>
  mX0_find_b157 rec q15.1 x2 q15.2
  else if q2.2 = 8 then
  (mX0_findChoice rec q2.1 x2 x3).bind fun q17 =>
  mX0_find_b157 rec q17.1 x2 q17.2
  else mX0_find_b157 rec q2.1 x2 0
  else
  (mX0_fail A 4 x2).bind fun q18 =>
  some (q18.1, q18.2)
def mX0_find_body (rec : gM → Int32 → Int32 → Option (gM × Int32)) (A : gM) (x2 : Int32) (x3 : Int32) : Option (gM × Int32) := mX0_find_b0 rec A x2 x3
def mX0_find : Nat → gM → Int32 → Int32 → Option (gM × Int32)
  | 0 => fun _ _ _ => none
  | f + 1 => mX0_find_body (mX0_find f)
set_option maxHeartbeats 2000000 in
set_option maxRecDepth 20000 in
theorem wX0_find_b179 (hN : 183 ≤ N) {rec : gM → Int32 → Int32 → Option (gM × Int32)} {fu : Nat} (hrec : ∀ {A A' : gM} {y0 : Int32} {y1 : Int32} {r : Int32}, rec A y0 y1 = some (A', r) → gKi l yX0_find cX0_find 5 (some .int) (20 + 2 * fu) D g N ad ln A [gr 128, gr 1, gi y0, gi y1] A' r) {A0 A' : gM} {r : Int32} (C : gC p R s m args meth c cX0_find RX0 5 D g (va_A (gw g ad ln A0 N) s.heap.size) (20 + 2 * fu + 2)) (hr : meth.sig.returnType = some .int)  {A : gM} {x4 : Int32} (h : mX0_find_b179 rec A x4 = some (A', r)) : gJ p l e R s m args below meth c (gEi below D g N ad ln A0 A' r args s) 5 D g (va_A (gw g ad ln A0 N) s.heap.size) N ad ln A [(4, gi x4)] 0 0 179 [] := by
  unfold mX0_find_b179 at h
  refine g_iload C 0 dX0_find_179 rfl ?_
  obtain ⟨rfl, rfl⟩ := Prod.mk.inj (Option.some.inj h)
  exact g_reti C hr dX0_find_181

set_option maxHeartbeats 2000000 in
set_option maxRecDepth 20000 in
theorem wX0_find_b157 (hN : 183 ≤ N) {rec : gM → Int32 → Int32 → Option (gM × Int32)} {fu : Nat} (hrec : ∀ {A A' : gM} {y0 : Int32} {y1 : Int32} {r : Int32}, rec A y0 y1 = some (A', r) → gKi l yX0_find cX0_find 5 (some .int) (20 + 2 * fu) D g N ad ln A [gr 128, gr 1, gi y0, gi y1] A' r) {A0 A' : gM} {r : Int32} (C : gC p R s m args meth c cX0_find RX0 5 D g (va_A (gw g ad ln A0 N) s.heap.size) (20 + 2 * fu + 2)) (hr : meth.sig.returnType = some .int)  {A : gM} {x2 : Int32} {x4 : Int32} (h : mX0_find_b157 rec A x2 x4 = some (A', r)) : gJ p l e R s m args below meth c (gEi below D g N ad ln A0 A' r args s) 5 D g (va_A (gw g ad ln A0 N) s.heap.size) N ad ln A [(0, gr 128), (2, gi x2), (4, gi x4)] 0 0 157 [] := by
  unfold mX0_find_b157 at h
  refine g_iload C 2 dX0_find_157 rfl ?_
  refine g_iconst (v := (-1)) C dX0_find_159 (by decide) ?_
  refine g_icmp_eq C dX0_find_160 (tgt := 179) (by decide) (fun c1 => ?_) (fun c1 => ?_)
  · have h := g_tt c1 h
    refine g_sub [2] rfl ?_
    exact wX0_find_b179 hN hrec C hr h
  · have h := g_ff c1 h
    refine g_aload_n C 0 dX0_find_163 rfl ?_
    refine g_iload C 2 dX0_find_164 rfl ?_
    obtain ⟨q2, eq2, h⟩ := g_bd h
    refine g_calliV C 128 [gi x4] (kX0_isTooLong hN eq2) qs_X0_77 (by omega) (by omega) rfl rfl rfl rfl (Nat.le_of_ble_eq_true rfl) ⟨Nat.zero_le _, Nat.zero_le _⟩ dX0_find_166 ?_
    refine g_if_eq C dX0_find_169 (tgt := 179) (by decide) (fun c3 => ?_) (fun c3 => ?_)
    · have h := g_tt c3 h
      refine g_sub [2] rfl ?_
      exact wX0_find_b179 hN hrec C hr h
    · have h := g_ff c3 h
      refine g_aload_n C 0 dX0_find_172 rfl ?_
      refine g_iconst (v := 4) C dX0_find_173 (by decide) ?_
      refine g_iload_n C 1 dX0_find_174 rfl ?_
      obtain ⟨q4, eq4, h⟩ := g_bd h
      refine g_calliV C 128 [gi 4, gi x2] (kX0_fail hN eq4) qs_X0_91 (by omega) (by omega) rfl rfl rfl rfl (Nat.le_of_ble_eq_true rfl) ⟨Nat.zero_le _, Nat.zero_le _⟩ dX0_find_175 ?_
      obtain ⟨rfl, rfl⟩ := Prod.mk.inj (Option.some.inj h)
      exact g_reti C hr dX0_find_178

set_option maxHeartbeats 2000000 in
set_option maxRecDepth 20000 in
theorem wX0_find_b0 (hN : 183 ≤ N) {rec : gM → Int32 → Int32 → Option (gM × Int32)} {fu : Nat} (hrec : ∀ {A A' : gM} {y0 : Int32} {y1 : Int32} {r : Int32}, rec A y0 y1 = some (A', r) → gKi l yX0_find cX0_find 5 (some .int) (20 + 2 * fu) D g N ad ln A [gr 128, gr 1, gi y0, gi y1] A' r) {A0 A' : gM} {r : Int32} (C : gC p R s m args meth c cX0_find RX0 5 D g (va_A (gw g ad ln A0 N) s.heap.size) (20 + 2 * fu + 2)) (hr : meth.sig.returnType = some .int)  {A : gM} {x2 : Int32} {x3 : Int32} (h : mX0_find_b0 rec A x2 x3 = some (A', r)) : gJ p l e R s m args below meth c (gEi below D g N ad ln A0 A' r args s) 5 D g (va_A (gw g ad ln A0 N) s.heap.size) N ad ln A [(0, gr 128), (1, gr 1), (2, gi x2), (3, gi x3)] 0 0 0 [] := by
  unfold mX0_find_b0 at h
  refine g_iload_n C 3 dX0_find_0 rfl ?_
  refine g_bipush (v := 40) C dX0_find_1 (by decide) ?_
  refine g_icmp_lt C dX0_find_3 (tgt := 13) (by decide) (fun c1 => ?_) (fun c1 => ?_)
  · have h := g_tt c1 h
    refine g_iconst (v := 0) C dX0_find_13 (by decide) ?_
    refine g_istore C dX0_find_14 (by decide) rfl ?_
    refine g_aload_n C 2 dX0_find_16 rfl ?_
    refine g_iload_n C 3 dX0_find_17 rfl ?_
    refine g_iconst (v := 0) C dX0_find_18 (by decide) ?_
    obtain ⟨q2, eq2, h⟩ := g_bd h
    refine g_calliV C 1 [gi x2, gi 0] (kX2_fact hN eq2) qs_X0_94 (by omega) (by omega) rfl rfl rfl rfl (Nat.le_of_ble_eq_true rfl) ⟨Nat.zero_le _, Nat.zero_le _⟩ dX0_find_19 ?_
    by_cases c3 : q2.2 = 1
    · have h := g_tt c3 h
      refine g_tableIn C dX0_find_22 (tgt := 68) (by rw [c3]; decide) (by rw [c3]; decide) (by rw [c3]; rfl) (by decide) ?_
      refine g_iconst (v := 1) C dX0_find_68 (by decide) ?_
      refine g_istore C dX0_find_69 (by decide) rfl ?_
      refine g_goto C dX0_find_71 (tgt := 157) (by decide) ?_
      refine g_sub [1, 3, 0] rfl ?_
      exact wX0_find_b157 hN hrec C hr h
    have h := g_ff c3 h
    by_cases c4 : q2.2 = 2
    · have h := g_tt c4 h
      refine g_tableIn C dX0_find_22 (tgt := 74) (by rw [c4]; decide) (by rw [c4]; decide) (by rw [c4]; rfl) (by decide) ?_
      refine g_aload_n C 1 dX0_find_74 rfl ?_
      refine g_aload_n C 2 dX0_find_75 rfl ?_
      refine g_iload_n C 3 dX0_find_76 rfl ?_
      obtain ⟨q5, eq5, h⟩ := g_bd h
      refine g_calliV C 128 [gr 1, gi x2] (kX0_findName hN eq5) qs_X0_97 (by omega) (by omega) rfl rfl rfl rfl (Nat.le_of_ble_eq_true rfl) ⟨Nat.zero_le _, Nat.zero_le _⟩ dX0_find_77 ?_
      refine g_istore C dX0_find_80 (by decide) rfl ?_
      refine g_goto C dX0_find_82 (tgt := 157) (by decide) ?_
      refine g_sub [1, 3, 0] rfl ?_
      exact wX0_find_b157 hN hrec C hr h
    have h := g_ff c4 h
    by_cases c6 : q2.2 = 3
    · have h := g_tt c6 h
      refine g_tableIn C dX0_find_22 (tgt := 85) (by rw [c6]; decide) (by rw [c6]; decide) (by rw [c6]; rfl) (by decide) ?_
      refine g_aload_n C 1 dX0_find_85 rfl ?_
      refine g_aload_n C 2 dX0_find_86 rfl ?_
      refine g_iload_n C 3 dX0_find_87 rfl ?_
      refine g_iload_n C 4 dX0_find_88 rfl ?_
      obtain ⟨q7, eq7, h⟩ := g_bd h
      refine g_calliV C 128 [gr 1, gi x2, gi x3] (kX0_findWheel hN hrec eq7) qs_X0_101 (by omega) (by omega) rfl rfl rfl rfl (Nat.le_of_ble_eq_true rfl) ⟨Nat.zero_le _, Nat.zero_le _⟩ dX0_find_89 ?_
      refine g_istore C dX0_find_92 (by decide) rfl ?_
      refine g_goto C dX0_find_94 (tgt := 157) (by decide) ?_
      refine g_sub [1, 3, 0] rfl ?_
      exact wX0_find_b157 hN hrec C hr h
    have h := g_ff c6 h
    by_cases c8 : q2.2 = 4
    · have h := g_tt c8 h
      refine g_tableIn C dX0_find_22 (tgt := 97) (by rw [c8]; decide) (by rw [c8]; decide) (by rw [c8]; rfl) (by decide) ?_
      refine g_aload_n C 1 dX0_find_97 rfl ?_
      refine g_aload_n C 2 dX0_find_98 rfl ?_
      refine g_iload_n C 3 dX0_find_99 rfl ?_
      refine g_iload_n C 4 dX0_find_100 rfl ?_
      obtain ⟨q9, eq9, h⟩ := g_bd h
      refine g_calliV C 128 [gr 1, gi x2, gi x3] (kX0_findTurning hN hrec eq9) qs_X0_104 (by omega) (by omega) rfl rfl rfl rfl (Nat.le_of_ble_eq_true rfl) ⟨Nat.zero_le _, Nat.zero_le _⟩ dX0_find_101 ?_
      refine g_istore C dX0_find_104 (by decide) rfl ?_
      refine g_goto C dX0_find_106 (tgt := 157) (by decide) ?_
      refine g_sub [1, 3, 0] rfl ?_
      exact wX0_find_b157 hN hrec C hr h
    have h := g_ff c8 h
    by_cases c10 : q2.2 = 5
    · have h := g_tt c10 h
      refine g_tableIn C dX0_find_22 (tgt := 109) (by rw [c10]; decide) (by rw [c10]; decide) (by rw [c10]; rfl) (by decide) ?_
      refine g_aload_n C 1 dX0_find_109 rfl ?_
      refine g_aload_n C 2 dX0_find_110 rfl ?_
      refine g_iload_n C 3 dX0_find_111 rfl ?_
      refine g_iload_n C 4 dX0_find_112 rfl ?_
      obtain ⟨q11, eq11, h⟩ := g_bd h
      refine g_calliV C 128 [gr 1, gi x2, gi x3] (kX0_findTelling hN hrec eq11) qs_X0_107 (by omega) (by omega) rfl rfl rfl rfl (Nat.le_of_ble_eq_true rfl) ⟨Nat.zero_le _, Nat.zero_le _⟩ dX0_find_113 ?_
      refine g_istore C dX0_find_116 (by decide) rfl ?_
      refine g_goto C dX0_find_118 (tgt := 157) (by decide) ?_
      refine g_sub [1, 3, 0] rfl ?_
      exact wX0_find_b157 hN hrec C hr h
    have h := g_ff c10 h
    by_cases c12 : q2.2 = 6
    · have h := g_tt c12 h
      refine g_tableIn C dX0_find_22 (tgt := 121) (by rw [c12]; decide) (by rw [c12]; decide) (by rw [c12]; rfl) (by decide) ?_
      refine g_aload_n C 1 dX0_find_121 rfl ?_
      refine g_aload_n C 2 dX0_find_122 rfl ?_
      refine g_iload_n C 3 dX0_find_123 rfl ?_
      refine g_iload_n C 4 dX0_find_124 rfl ?_
      obtain ⟨q13, eq13, h⟩ := g_bd h
      refine g_calliV C 128 [gr 1, gi x2, gi x3] (kX0_findAxle hN hrec eq13) qs_X0_110 (by omega) (by omega) rfl rfl rfl rfl (Nat.le_of_ble_eq_true rfl) ⟨Nat.zero_le _, Nat.zero_le _⟩ dX0_find_125 ?_
      refine g_istore C dX0_find_128 (by decide) rfl ?_
      refine g_goto C dX0_find_130 (tgt := 157) (by decide) ?_
      refine g_sub [1, 3, 0] rfl ?_
      exact wX0_find_b157 hN hrec C hr h
    have h := g_ff c12 h
    by_cases c14 : q2.2 = 7
    · have h := g_tt c14 h
      refine g_tableIn C dX0_find_22 (tgt := 133) (by rw [c14]; decide) (by rw [c14]; decide) (by rw [c14]; rfl) (by decide) ?_
      refine g_aload_n C 1 dX0_find_133 rfl ?_
      refine g_aload_n C 2 dX0_find_134 rfl ?_
      refine g_iload_n C 3 dX0_find_135 rfl ?_
      refine g_iload_n C 4 dX0_find_136 rfl ?_
      obtain ⟨q15, eq15, h⟩ := g_bd h
      refine g_calliV C 128 [gr 1, gi x2, gi x3] (kX0_findEnd hN hrec eq15) qs_X0_113 (by omega) (by omega) rfl rfl rfl rfl (Nat.le_of_ble_eq_true rfl) ⟨Nat.zero_le _, Nat.zero_le _⟩ dX0_find_137 ?_
      refine g_istore C dX0_find_140 (by decide) rfl ?_
      refine g_goto C dX0_find_142 (tgt := 157) (by decide) ?_
      refine g_sub [1, 3, 0] rfl ?_
      exact wX0_find_b157 hN hrec C hr h
    have h := g_ff c14 h
    by_cases c16 : q2.2 = 8
    · have h := g_tt c16 h
      refine g_tableIn C dX0_find_22 (tgt := 145) (by rw [c16]; decide) (by rw [c16]; decide) (by rw [c16]; rfl) (by decide) ?_
      refine g_aload_n C 1 dX0_find_145 rfl ?_
      refine g_aload_n C 2 dX0_find_146 rfl ?_
      refine g_iload_n C 3 dX0_find_147 rfl ?_
      refine g_iload_n C 4 dX0_find_148 rfl ?_
      obtain ⟨q17, eq17, h⟩ := g_bd h
      refine g_calliV C 128 [gr 1, gi x2, gi x3] (kX0_findChoice hN hrec eq17) qs_X0_116 (by omega) (by omega) rfl rfl rfl rfl (Nat.le_of_ble_eq_true rfl) ⟨Nat.zero_le _, Nat.zero_le _⟩ dX0_find_149 ?_
      refine g_istore C dX0_find_152 (by decide) rfl ?_
      refine g_goto C dX0_find_154 (tgt := 157) (by decide) ?_
      refine g_sub [1, 3, 0] rfl ?_
      exact wX0_find_b157 hN hrec C hr h
    have h := g_ff c16 h
    refine g_tableOut C dX0_find_22 (tgt := 157) (g_sw1_8 c3 c4 c6 c8 c10 c12 c14 c16) (by decide) ?_
    refine g_sub [1, 3, 0] rfl ?_
    exact wX0_find_b157 hN hrec C hr h
  · have h := g_ff c1 h
    refine g_aload_n C 0 dX0_find_6 rfl ?_
    refine g_iconst (v := 4) C dX0_find_7 (by decide) ?_
    refine g_iload_n C 2 dX0_find_8 rfl ?_
    obtain ⟨q18, eq18, h⟩ := g_bd h
    refine g_calliV C 128 [gi 4, gi x2] (kX0_fail hN eq18) qs_X0_91 (by omega) (by omega) rfl rfl rfl rfl (Nat.le_of_ble_eq_true rfl) ⟨Nat.zero_le _, Nat.zero_le _⟩ dX0_find_9 ?_
    obtain ⟨rfl, rfl⟩ := Prod.mk.inj (Option.some.inj h)
    exact g_reti C hr dX0_find_12

set_option maxHeartbeats 2000000 in
set_option maxRecDepth 20000 in
theorem kX0_find_body {l : Launch} {D : va_G} {g : gT} {N : Nat} {ad ln : Nat → Nat} (hN : 183 ≤ N) {rec : gM → Int32 → Int32 → Option (gM × Int32)} {fu : Nat} (hrec : ∀ {A A' : gM} {y0 : Int32} {y1 : Int32} {r : Int32}, rec A y0 y1 = some (A', r) → gKi l yX0_find cX0_find 5 (some .int) (20 + 2 * fu) D g N ad ln A [gr 128, gr 1, gi y0, gi y1] A' r) {A A' : gM} {x2 : Int32} {x3 : Int32} {r : Int32} (h : mX0_find_body rec A x2 x3 = some (A', r)) : gKi l yX0_find cX0_find 5 (some .int) ((20 + 2 * fu + 2)) D g N ad ln A [gr 128, gr 1, gi x2, gi x3] A' r := by
  refine g_meti (by decide) (Nat.le_of_ble_eq_true rfl) ?_
  intro p e s m args below meth c C hr
  refine g_sub [0, 1, 2, 3] rfl ?_
  exact wX0_find_b0 hN hrec C hr h
set_option maxHeartbeats 2000000 in
set_option maxRecDepth 20000 in
theorem kX0_find {l : Launch} {D : va_G} {g : gT} {N : Nat} {ad ln : Nat → Nat} (hN : 183 ≤ N) : ∀ (f : Nat) {A A' : gM} {x2 : Int32} {x3 : Int32} {r : Int32}, mX0_find f A x2 x3 = some (A', r) → gKi l yX0_find cX0_find 5 (some .int) (20 + 2 * f) D g N ad ln A [gr 128, gr 1, gi x2, gi x3] A' r
  | 0, _, _, _, _, _, h => by cases h
  | f + 1, _, _, _, _, _, h => kX0_find_body hN (fun h => kX0_find hN f h) h
def mX0_settle_b0 (A : gM) (x2 : Int32) : Option (gM) :=
  (mX4_clear A).bind fun q1 =>
  (mX1_clear q1).bind fun q2 =>
  g_let (g_up q2 128 3 0) fun A3 =>
  g_let (g_up A3 128 4 (-1)) fun A4 =>
  (mX0_find 41 A4 x2 0).bind fun q5 =>
  if q5.2 = (-1) then
  (mX3_putFault q5.1 x2 (q5.1 128 3) (q5.1 128 4)).bind fun q10 =>
  some q10
  else
  (mX4_forgetMarks q5.1).bind fun q7 =>
  (mX4_write q7 q5.2).bind fun q8 =>
  (mX3_putRow q8.1 x2 q8.2).bind fun q9 =>
  some q9
def mX0_settle (A : gM) (x2 : Int32) : Option (gM) := mX0_settle_b0 A x2
set_option maxHeartbeats 2000000 in
set_option maxRecDepth 20000 in
theorem wX0_settle_b0 (hN : 183 ≤ N) {A0 A' : gM} (C : gC p R s m args meth c cX0_settle RX0 5 D g (va_A (gw g ad ln A0 N) s.heap.size) 103) (hr : meth.sig.returnType = none)  {A : gM} {x2 : Int32} (h : mX0_settle_b0 A x2 = some A') : gJ p l e R s m args below meth c (gEv below D g N ad ln A0 A' args s) 5 D g (va_A (gw g ad ln A0 N) s.heap.size) N ad ln A [(0, gr 128), (1, gr 1), (2, gi x2), (3, gr 43)] 0 0 0 [] := by
  unfold mX0_settle_b0 at h
  refine g_aload_n C 0 dX0_settle_0 rfl ?_
  refine g_get (v := gr 129) C 128 0 (by omega) rfl rfl gu_0 (by decide) qf_X0_12 rfl dX0_settle_1 ?_
  obtain ⟨q1, eq1, h⟩ := g_bd h
  refine g_callvV C 129 [] (kX4_clear hN eq1) qs_X0_29 (by omega) (by omega) rfl rfl rfl rfl (Nat.le_of_ble_eq_true rfl) ⟨Nat.zero_le _, Nat.zero_le _⟩ dX0_settle_4 ?_
  refine g_aload_n C 0 dX0_settle_7 rfl ?_
  refine g_get (v := gr 138) C 128 1 (by omega) rfl rfl gu_0 (by decide) qf_X0_21 rfl dX0_settle_8 ?_
  obtain ⟨q2, eq2, h⟩ := g_bd h
  refine g_callvV C 138 [] (kX1_clear hN eq2) qs_X0_32 (by omega) (by omega) rfl rfl rfl rfl (Nat.le_of_ble_eq_true rfl) ⟨Nat.zero_le _, Nat.zero_le _⟩ dX0_settle_11 ?_
  refine g_aload_n C 0 dX0_settle_14 rfl ?_
  refine g_iconst (v := 0) C dX0_settle_15 (by decide) ?_
  obtain ⟨A3, eA3, h⟩ := g_lt h
  refine g_put C 128 3 tyX0 tyX0_ok nmX0 (by omega) rfl rfl gu_0 (by decide) qf_X0_33 rfl (by decide +kernel) (Nat.le_of_ble_eq_true rfl) rfl eA3 dX0_settle_16 ?_
  refine g_aload_n C 0 dX0_settle_19 rfl ?_
  refine g_iconst (v := (-1)) C dX0_settle_20 (by decide) ?_
  obtain ⟨A4, eA4, h⟩ := g_lt h
  refine g_put C 128 4 tyX0 tyX0_ok nmX0 (by omega) rfl rfl gu_0 (by decide) qf_X0_37 rfl (by decide +kernel) (Nat.le_of_ble_eq_true rfl) rfl eA4 dX0_settle_21 ?_
  refine g_aload_n C 0 dX0_settle_24 rfl ?_
  refine g_aload_n C 1 dX0_settle_25 rfl ?_
  refine g_iload_n C 2 dX0_settle_26 rfl ?_
  refine g_iconst (v := 0) C dX0_settle_27 (by decide) ?_
  obtain ⟨q5, eq5, h⟩ := g_bd h
  refine g_calliV C 128 [gr 1, gi x2, gi 0] (kX0_find hN 41 eq5) qs_X0_40 (by omega) (by omega) rfl rfl rfl rfl (Nat.le_of_ble_eq_true rfl) ⟨Nat.zero_le _, Nat.zero_le _⟩ dX0_settle_28 ?_
  refine g_istore C dX0_settle_31 (by decide) rfl ?_
  refine g_iload C 0 dX0_settle_33 rfl ?_
  refine g_iconst (v := (-1)) C dX0_settle_35 (by decide) ?_
  refine g_icmp_ne C dX0_settle_36 (tgt := 53) (by decide) (fun c6 => ?_) (fun c6 => ?_)
  · have h := g_ff c6 h
    refine g_aload_n C 1 dX0_settle_53 rfl ?_
    refine g_get (v := gr 129) C 128 0 (by omega) rfl rfl gu_0 (by decide) qf_X0_12 rfl dX0_settle_54 ?_
    obtain ⟨q7, eq7, h⟩ := g_bd h
    refine g_callvV C 129 [] (kX4_forgetMarks hN eq7) qs_X0_50 (by omega) (by omega) rfl rfl rfl rfl (Nat.le_of_ble_eq_true rfl) ⟨Nat.zero_le _, Nat.zero_le _⟩ dX0_settle_57 ?_
    refine g_aload_n C 4 dX0_settle_60 rfl ?_
    refine g_iload_n C 3 dX0_settle_61 rfl ?_
    refine g_aload_n C 1 dX0_settle_62 rfl ?_
    refine g_get (v := gr 182) C 128 2 (by omega) rfl rfl gu_0 (by decide) qf_X0_25 rfl dX0_settle_63 ?_
    refine g_aload_n C 1 dX0_settle_66 rfl ?_
    refine g_get (v := gr 129) C 128 0 (by omega) rfl rfl gu_0 (by decide) qf_X0_12 rfl dX0_settle_67 ?_
    refine g_iload C 0 dX0_settle_70 rfl ?_
    refine g_aload_n C 1 dX0_settle_72 rfl ?_
    refine g_get (v := gr 182) C 128 2 (by omega) rfl rfl gu_0 (by decide) qf_X0_25 rfl dX0_settle_73 ?_
    obtain ⟨q8, eq8, h⟩ := g_bd h
    refine g_calliV C 129 [gi q5.2, gr 182] (kX4_write hN eq8) qs_X0_53 (by omega) (by omega) rfl rfl rfl rfl (Nat.le_of_ble_eq_true rfl) ⟨Nat.zero_le _, Nat.zero_le _⟩ dX0_settle_76 ?_
    obtain ⟨q9, eq9, h⟩ := g_bd h
    refine g_callvV C 43 [gi x2, gr 182, gi q8.2] (kX3_putRow hN eq9) qs_X0_57 (by omega) (by omega) rfl rfl rfl rfl (Nat.le_of_ble_eq_true rfl) ⟨Nat.zero_le _, Nat.zero_le _⟩ dX0_settle_79 ?_
    obtain rfl := Option.some.inj h
    exact g_retv C hr dX0_settle_82
  · have h := g_tt c6 h
    refine g_aload_n C 4 dX0_settle_39 rfl ?_
    refine g_iload_n C 3 dX0_settle_40 rfl ?_
    refine g_aload_n C 1 dX0_settle_41 rfl ?_
    refine g_get (v := gi (q5.1 128 3)) C 128 3 (by omega) rfl rfl gu_0 (by decide) qf_X0_33 rfl dX0_settle_42 ?_
    refine g_aload_n C 1 dX0_settle_45 rfl ?_
    refine g_get (v := gi (q5.1 128 4)) C 128 4 (by omega) rfl rfl gu_0 (by decide) qf_X0_37 rfl dX0_settle_46 ?_
    obtain ⟨q10, eq10, h⟩ := g_bd h
    refine g_callvV C 43 [gi x2, gi (q5.1 128 3), gi (q5.1 128 4)] (kX3_putFault hN eq10) qs_X0_44 (by omega) (by omega) rfl rfl rfl rfl (Nat.le_of_ble_eq_true rfl) ⟨Nat.zero_le _, Nat.zero_le _⟩ dX0_settle_49 ?_
    obtain rfl := Option.some.inj h
    exact g_retv C hr dX0_settle_52

set_option maxHeartbeats 2000000 in
set_option maxRecDepth 20000 in
theorem kX0_settle {l : Launch} {D : va_G} {g : gT} {N : Nat} {ad ln : Nat → Nat} (hN : 183 ≤ N) {A A' : gM} {x2 : Int32} (h : mX0_settle A x2 = some A') : gKv l yX0_settle cX0_settle 5 (none) (103) D g N ad ln A [gr 128, gr 1, gi x2, gr 43] A' := by
  refine g_metv (by decide) (Nat.le_of_ble_eq_true rfl) ?_
  intro p e s m args below meth c C hr
  refine g_sub [0, 1, 2, 3] rfl ?_
  exact wX0_settle_b0 hN C hr h
end T0
end
section
theorem qf_X5_10 : Cond.fieldLink RX5 10 (TX5 0).1 (TX5 0).2.1 (TX5 0).2.2.1 ∈ gtb := g_tb (List.mem_of_getElem? (i := 172) (by decide +kernel)) (by decide +kernel)
theorem qf_X5_19 : Cond.fieldLink RX5 19 (TX5 1).1 (TX5 1).2.1 (TX5 1).2.2.1 ∈ gtb := g_tb (List.mem_of_getElem? (i := 173) (by decide +kernel)) (by decide +kernel)
theorem qf_X5_26 : Cond.fieldLink RX5 26 (TX5 2).1 (TX5 2).2.1 (TX5 2).2.2.1 ∈ gtb := g_tb (List.mem_of_getElem? (i := 174) (by decide +kernel)) (by decide +kernel)
theorem qs_X5_102 : g_site RX5 RX0 102 yX0_faultOfTurning cX0_faultOfTurning 8 (some .int) 3 := ⟨g_tb (List.mem_of_getElem? (i := 593) (by decide +kernel)) (by decide +kernel), g_tb (List.mem_of_getElem? (i := 594) (by decide +kernel)) (by decide +kernel), g_tb (List.mem_of_getElem? (i := 595) (by decide +kernel)) (by decide +kernel), g_tb (List.mem_of_getElem? (i := 36) (by decide +kernel)) (by decide +kernel), g_tb (List.mem_of_getElem? (i := 596) (by decide +kernel)) (by decide +kernel), ⟨rfl, by decide, by decide, by decide +kernel⟩, by decide⟩
theorem qs_X5_30 : g_site RX5 RX5 30 yX5_needBetween cX5_needBetween 4 (none) 3 := ⟨g_tb (List.mem_of_getElem? (i := 186) (by decide +kernel)) (by decide +kernel), g_tb (List.mem_of_getElem? (i := 188) (by decide +kernel)) (by decide +kernel), g_tb (List.mem_of_getElem? (i := 0) (by decide +kernel)) (by decide +kernel), g_tb (List.mem_of_getElem? (i := 33) (by decide +kernel)) (by decide +kernel), g_tb (List.mem_of_getElem? (i := 189) (by decide +kernel)) (by decide +kernel), ⟨rfl, by decide, by decide, by decide +kernel⟩, by decide⟩
theorem qs_X5_34 : g_site RX5 RX5 34 yX5_add cX5_add 8 (some .int) 5 := ⟨g_tb (List.mem_of_getElem? (i := 253) (by decide +kernel)) (by decide +kernel), g_tb (List.mem_of_getElem? (i := 255) (by decide +kernel)) (by decide +kernel), g_tb (List.mem_of_getElem? (i := 2) (by decide +kernel)) (by decide +kernel), g_tb (List.mem_of_getElem? (i := 33) (by decide +kernel)) (by decide +kernel), g_tb (List.mem_of_getElem? (i := 256) (by decide +kernel)) (by decide +kernel), ⟨rfl, by decide, by decide, by decide +kernel⟩, by decide⟩
theorem qs_X5_38 : g_site RX5 RX5 38 yX5_needPart cX5_needPart 2 (none) 1 := ⟨g_tb (List.mem_of_getElem? (i := 495) (by decide +kernel)) (by decide +kernel), g_tb (List.mem_of_getElem? (i := 497) (by decide +kernel)) (by decide +kernel), g_tb (List.mem_of_getElem? (i := 26) (by decide +kernel)) (by decide +kernel), g_tb (List.mem_of_getElem? (i := 33) (by decide +kernel)) (by decide +kernel), g_tb (List.mem_of_getElem? (i := 498) (by decide +kernel)) (by decide +kernel), ⟨rfl, by decide, by decide, by decide +kernel⟩, by decide⟩
theorem qs_X5_42 : g_site RX5 RX2 42 yX2_made cX2_made 1 (some .int) 0 := ⟨g_tb (List.mem_of_getElem? (i := 269) (by decide +kernel)) (by decide +kernel), g_tb (List.mem_of_getElem? (i := 270) (by decide +kernel)) (by decide +kernel), g_tb (List.mem_of_getElem? (i := 271) (by decide +kernel)) (by decide +kernel), g_tb (List.mem_of_getElem? (i := 34) (by decide +kernel)) (by decide +kernel), g_tb (List.mem_of_getElem? (i := 272) (by decide +kernel)) (by decide +kernel), ⟨rfl, by decide, by decide, by decide +kernel⟩, by decide⟩
theorem qs_X5_49 : g_site RX5 RX2 49 yX2_dropLast cX2_dropLast 1 (none) 0 := ⟨g_tb (List.mem_of_getElem? (i := 542) (by decide +kernel)) (by decide +kernel), g_tb (List.mem_of_getElem? (i := 543) (by decide +kernel)) (by decide +kernel), g_tb (List.mem_of_getElem? (i := 544) (by decide +kernel)) (by decide +kernel), g_tb (List.mem_of_getElem? (i := 34) (by decide +kernel)) (by decide +kernel), g_tb (List.mem_of_getElem? (i := 545) (by decide +kernel)) (by decide +kernel), ⟨rfl, by decide, by decide, by decide +kernel⟩, by decide⟩
theorem qs_X5_52 : g_site RX5 RX5 52 yX5_needPlace cX5_needPlace 3 (none) 2 := ⟨g_tb (List.mem_of_getElem? (i := 499) (by decide +kernel)) (by decide +kernel), g_tb (List.mem_of_getElem? (i := 501) (by decide +kernel)) (by decide +kernel), g_tb (List.mem_of_getElem? (i := 27) (by decide +kernel)) (by decide +kernel), g_tb (List.mem_of_getElem? (i := 33) (by decide +kernel)) (by decide +kernel), g_tb (List.mem_of_getElem? (i := 502) (by decide +kernel)) (by decide +kernel), ⟨rfl, by decide, by decide, by decide +kernel⟩, by decide⟩
theorem qs_X5_56 : g_site RX5 RX2 56 yX2_fact cX2_fact 4 (some .int) 2 := ⟨g_tb (List.mem_of_getElem? (i := 550) (by decide +kernel)) (by decide +kernel), g_tb (List.mem_of_getElem? (i := 266) (by decide +kernel)) (by decide +kernel), g_tb (List.mem_of_getElem? (i := 267) (by decide +kernel)) (by decide +kernel), g_tb (List.mem_of_getElem? (i := 34) (by decide +kernel)) (by decide +kernel), g_tb (List.mem_of_getElem? (i := 268) (by decide +kernel)) (by decide +kernel), ⟨rfl, by decide, by decide, by decide +kernel⟩, by decide⟩
theorem qs_X5_60 : g_site RX5 RX3 60 yX3_fact cX3_fact 4 (some .int) 2 := ⟨g_tb (List.mem_of_getElem? (i := 555) (by decide +kernel)) (by decide +kernel), g_tb (List.mem_of_getElem? (i := 556) (by decide +kernel)) (by decide +kernel), g_tb (List.mem_of_getElem? (i := 557) (by decide +kernel)) (by decide +kernel), g_tb (List.mem_of_getElem? (i := 35) (by decide +kernel)) (by decide +kernel), g_tb (List.mem_of_getElem? (i := 558) (by decide +kernel)) (by decide +kernel), ⟨rfl, by decide, by decide, by decide +kernel⟩, by decide⟩
theorem qs_X5_61 : g_site RX5 RX3 61 yX3_codeAt cX3_codeAt 4 (some .int) 2 := ⟨g_tb (List.mem_of_getElem? (i := 563) (by decide +kernel)) (by decide +kernel), g_tb (List.mem_of_getElem? (i := 469) (by decide +kernel)) (by decide +kernel), g_tb (List.mem_of_getElem? (i := 470) (by decide +kernel)) (by decide +kernel), g_tb (List.mem_of_getElem? (i := 35) (by decide +kernel)) (by decide +kernel), g_tb (List.mem_of_getElem? (i := 471) (by decide +kernel)) (by decide +kernel), ⟨rfl, by decide, by decide, by decide +kernel⟩, by decide⟩
theorem qs_X5_64 : g_site RX5 RX5 64 yX5_counted cX5_counted 4 (some .int) 1 := ⟨g_tb (List.mem_of_getElem? (i := 568) (by decide +kernel)) (by decide +kernel), g_tb (List.mem_of_getElem? (i := 570) (by decide +kernel)) (by decide +kernel), g_tb (List.mem_of_getElem? (i := 28) (by decide +kernel)) (by decide +kernel), g_tb (List.mem_of_getElem? (i := 33) (by decide +kernel)) (by decide +kernel), g_tb (List.mem_of_getElem? (i := 571) (by decide +kernel)) (by decide +kernel), ⟨rfl, by decide, by decide, by decide +kernel⟩, by decide⟩
theorem qs_X5_68 : g_site RX5 RX5 68 yX5_bothTyped cX5_bothTyped 3 (some .boolean) 2 := ⟨g_tb (List.mem_of_getElem? (i := 576) (by decide +kernel)) (by decide +kernel), g_tb (List.mem_of_getElem? (i := 578) (by decide +kernel)) (by decide +kernel), g_tb (List.mem_of_getElem? (i := 29) (by decide +kernel)) (by decide +kernel), g_tb (List.mem_of_getElem? (i := 33) (by decide +kernel)) (by decide +kernel), g_tb (List.mem_of_getElem? (i := 579) (by decide +kernel)) (by decide +kernel), ⟨rfl, by decide, by decide, by decide +kernel⟩, by decide⟩
theorem qs_X5_72 : g_site RX5 RX3 72 yX3_alike cX3_alike 5 (some .boolean) 2 := ⟨g_tb (List.mem_of_getElem? (i := 580) (by decide +kernel)) (by decide +kernel), g_tb (List.mem_of_getElem? (i := 581) (by decide +kernel)) (by decide +kernel), g_tb (List.mem_of_getElem? (i := 582) (by decide +kernel)) (by decide +kernel), g_tb (List.mem_of_getElem? (i := 35) (by decide +kernel)) (by decide +kernel), g_tb (List.mem_of_getElem? (i := 583) (by decide +kernel)) (by decide +kernel), ⟨rfl, by decide, by decide, by decide +kernel⟩, by decide⟩
theorem qs_X5_78 : g_site RX5 RX5 78 yX5_faultOfTurning cX5_faultOfTurning 4 (some .int) 2 := ⟨g_tb (List.mem_of_getElem? (i := 589) (by decide +kernel)) (by decide +kernel), g_tb (List.mem_of_getElem? (i := 591) (by decide +kernel)) (by decide +kernel), g_tb (List.mem_of_getElem? (i := 30) (by decide +kernel)) (by decide +kernel), g_tb (List.mem_of_getElem? (i := 33) (by decide +kernel)) (by decide +kernel), g_tb (List.mem_of_getElem? (i := 592) (by decide +kernel)) (by decide +kernel), ⟨rfl, by decide, by decide, by decide +kernel⟩, by decide⟩
theorem qs_X5_91 : g_site RX5 RX2 91 yX2_sizeOver cX2_sizeOver 4 (some .int) 3 := ⟨g_tb (List.mem_of_getElem? (i := 257) (by decide +kernel)) (by decide +kernel), g_tb (List.mem_of_getElem? (i := 258) (by decide +kernel)) (by decide +kernel), g_tb (List.mem_of_getElem? (i := 259) (by decide +kernel)) (by decide +kernel), g_tb (List.mem_of_getElem? (i := 34) (by decide +kernel)) (by decide +kernel), g_tb (List.mem_of_getElem? (i := 260) (by decide +kernel)) (by decide +kernel), ⟨rfl, by decide, by decide, by decide +kernel⟩, by decide⟩
theorem qs_X5_95 : g_site RX5 RX2 95 yX2_append cX2_append 7 (some .int) 5 := ⟨g_tb (List.mem_of_getElem? (i := 288) (by decide +kernel)) (by decide +kernel), g_tb (List.mem_of_getElem? (i := 289) (by decide +kernel)) (by decide +kernel), g_tb (List.mem_of_getElem? (i := 290) (by decide +kernel)) (by decide +kernel), g_tb (List.mem_of_getElem? (i := 34) (by decide +kernel)) (by decide +kernel), g_tb (List.mem_of_getElem? (i := 291) (by decide +kernel)) (by decide +kernel), ⟨rfl, by decide, by decide, by decide +kernel⟩, by decide⟩
theorem qs_X5_98 : g_site RX5 RX0 98 yX0_settle cX0_settle 5 (none) 3 := ⟨g_tb (List.mem_of_getElem? (i := 300) (by decide +kernel)) (by decide +kernel), g_tb (List.mem_of_getElem? (i := 301) (by decide +kernel)) (by decide +kernel), g_tb (List.mem_of_getElem? (i := 302) (by decide +kernel)) (by decide +kernel), g_tb (List.mem_of_getElem? (i := 36) (by decide +kernel)) (by decide +kernel), g_tb (List.mem_of_getElem? (i := 303) (by decide +kernel)) (by decide +kernel), ⟨rfl, by decide, by decide, by decide +kernel⟩, by decide⟩
theorem qtk_X5_46 : Cond.classLink RX5 46 (g_xn 2) ∈ gtb := g_tb (List.mem_of_getElem? (i := 273) (by decide +kernel)) (by decide +kernel)
theorem qtg_X5_46 : ∀ w ∈ (vx_at0 RX5 48 (g_xn 2) ["java/lang/RuntimeException", "java/lang/Exception"]).filter goodWord, w ∈ gtb := by decide +kernel
theorem qtn_X5_46 : ∀ w ∈ (vx_at0 RX5 48 (g_xn 2) ["java/lang/RuntimeException", "java/lang/Exception"]).filter (fun w => !goodWord w), w ∈ gxw := by decide +kernel
theorem qto_X5_46 : ∀ w ∈ Cond.classLink RX5 46 (g_xn 2) :: Cond.initialized (g_xn 2) :: vx_at0 RX5 48 (g_xn 2) ["java/lang/RuntimeException", "java/lang/Exception"], vx_ot w = true := by decide +kernel
theorem qti_2 : Cond.initialized (g_xn 2) ∈ gtb := g_tb (List.mem_of_getElem? (i := 44) (by decide +kernel)) (by decide +kernel)
theorem qtk_X5_85 : Cond.classLink RX5 85 (g_xn 0) ∈ gtb := g_tb (List.mem_of_getElem? (i := 503) (by decide +kernel)) (by decide +kernel)
theorem qtg_X5_85 : ∀ w ∈ (vx_at0 RX5 87 (g_xn 0) ["java/lang/RuntimeException", "java/lang/Exception"]).filter goodWord, w ∈ gtb := by decide +kernel
theorem qtn_X5_85 : ∀ w ∈ (vx_at0 RX5 87 (g_xn 0) ["java/lang/RuntimeException", "java/lang/Exception"]).filter (fun w => !goodWord w), w ∈ gxw := by decide +kernel
theorem qto_X5_85 : ∀ w ∈ Cond.classLink RX5 85 (g_xn 0) :: Cond.initialized (g_xn 0) :: vx_at0 RX5 87 (g_xn 0) ["java/lang/RuntimeException", "java/lang/Exception"], vx_ot w = true := by decide +kernel
theorem qti_0 : Cond.initialized (g_xn 0) ∈ gtb := g_tb (List.mem_of_getElem? (i := 45) (by decide +kernel)) (by decide +kernel)
theorem qtk_X5_88 : Cond.classLink RX5 88 (g_xn 1) ∈ gtb := g_tb (List.mem_of_getElem? (i := 190) (by decide +kernel)) (by decide +kernel)
theorem qtg_X5_88 : ∀ w ∈ (vx_at0 RX5 90 (g_xn 1) ["java/lang/RuntimeException", "java/lang/Exception"]).filter goodWord, w ∈ gtb := by decide +kernel
theorem qtn_X5_88 : ∀ w ∈ (vx_at0 RX5 90 (g_xn 1) ["java/lang/RuntimeException", "java/lang/Exception"]).filter (fun w => !goodWord w), w ∈ gxw := by decide +kernel
theorem qto_X5_88 : ∀ w ∈ Cond.classLink RX5 88 (g_xn 1) :: Cond.initialized (g_xn 1) :: vx_at0 RX5 90 (g_xn 1) ["java/lang/RuntimeException", "java/lang/Exception"], vx_ot w = true := by decide +kernel
theorem qti_1 : Cond.initialized (g_xn 1) ∈ gtb := g_tb (List.mem_of_getElem? (i := 43) (by decide +kernel)) (by decide +kernel)
theorem gu_5 : ∀ w ∈ wsX50, w ∈ gtb := by decide +kernel
theorem dX5_counted_0 : decode cX5_counted 0 = .ok (.iload_n 1, 1) := by decide +kernel
theorem dX5_counted_1 : decode cX5_counted 1 = .ok (.ifCond .ne 11, 3) := by decide +kernel
theorem dX5_counted_4 : decode cX5_counted 4 = .ok (.aload_n 0, 1) := by decide +kernel
theorem dX5_counted_5 : decode cX5_counted 5 = .ok (.getfield 10, 3) := by decide +kernel
theorem dX5_counted_8 : decode cX5_counted 8 = .ok (.invokevirtual 42, 3) := by decide +kernel
theorem dX5_counted_11 : decode cX5_counted 11 = .ok (.ireturn, 1) := by decide +kernel
theorem dX5_counted_12 : decode cX5_counted 12 = .ok (.iconst 0, 1) := by decide +kernel
theorem dX5_counted_13 : decode cX5_counted 13 = .ok (.istore_n 2, 1) := by decide +kernel
theorem dX5_counted_14 : decode cX5_counted 14 = .ok (.iconst 0, 1) := by decide +kernel
theorem dX5_counted_15 : decode cX5_counted 15 = .ok (.istore_n 3, 1) := by decide +kernel
theorem dX5_counted_16 : decode cX5_counted 16 = .ok (.iload_n 3, 1) := by decide +kernel
theorem dX5_counted_17 : decode cX5_counted 17 = .ok (.aload_n 0, 1) := by decide +kernel
theorem dX5_counted_18 : decode cX5_counted 18 = .ok (.getfield 10, 3) := by decide +kernel
theorem dX5_counted_21 : decode cX5_counted 21 = .ok (.invokevirtual 42, 3) := by decide +kernel
theorem dX5_counted_24 : decode cX5_counted 24 = .ok (.if_icmp .ge 27, 3) := by decide +kernel
theorem dX5_counted_27 : decode cX5_counted 27 = .ok (.aload_n 0, 1) := by decide +kernel
theorem dX5_counted_28 : decode cX5_counted 28 = .ok (.getfield 19, 3) := by decide +kernel
theorem dX5_counted_31 : decode cX5_counted 31 = .ok (.iload_n 3, 1) := by decide +kernel
theorem dX5_counted_32 : decode cX5_counted 32 = .ok (.iconst 0, 1) := by decide +kernel
theorem dX5_counted_33 : decode cX5_counted 33 = .ok (.invokevirtual 60, 3) := by decide +kernel
theorem dX5_counted_36 : decode cX5_counted 36 = .ok (.iload_n 1, 1) := by decide +kernel
theorem dX5_counted_37 : decode cX5_counted 37 = .ok (.iconst 1, 1) := by decide +kernel
theorem dX5_counted_38 : decode cX5_counted 38 = .ok (.isub, 1) := by decide +kernel
theorem dX5_counted_39 : decode cX5_counted 39 = .ok (.if_icmp .ne 6, 3) := by decide +kernel
theorem dX5_counted_42 : decode cX5_counted 42 = .ok (.iinc 2 1, 3) := by decide +kernel
theorem dX5_counted_45 : decode cX5_counted 45 = .ok (.iinc 3 1, 3) := by decide +kernel
theorem dX5_counted_48 : decode cX5_counted 48 = .ok (.goto (-32), 3) := by decide +kernel
theorem dX5_counted_51 : decode cX5_counted 51 = .ok (.iload_n 2, 1) := by decide +kernel
theorem dX5_counted_52 : decode cX5_counted 52 = .ok (.ireturn, 1) := by decide +kernel
theorem dX5_bothTyped_0 : decode cX5_bothTyped 0 = .ok (.aload_n 0, 1) := by decide +kernel
theorem dX5_bothTyped_1 : decode cX5_bothTyped 1 = .ok (.getfield 19, 3) := by decide +kernel
theorem dX5_bothTyped_4 : decode cX5_bothTyped 4 = .ok (.iload_n 1, 1) := by decide +kernel
theorem dX5_bothTyped_5 : decode cX5_bothTyped 5 = .ok (.iconst 0, 1) := by decide +kernel
theorem dX5_bothTyped_6 : decode cX5_bothTyped 6 = .ok (.invokevirtual 60, 3) := by decide +kernel
theorem dX5_bothTyped_9 : decode cX5_bothTyped 9 = .ok (.ifCond .ne 19, 3) := by decide +kernel
theorem dX5_bothTyped_12 : decode cX5_bothTyped 12 = .ok (.aload_n 0, 1) := by decide +kernel
theorem dX5_bothTyped_13 : decode cX5_bothTyped 13 = .ok (.getfield 19, 3) := by decide +kernel
theorem dX5_bothTyped_16 : decode cX5_bothTyped 16 = .ok (.iload_n 2, 1) := by decide +kernel
theorem dX5_bothTyped_17 : decode cX5_bothTyped 17 = .ok (.iconst 0, 1) := by decide +kernel
theorem dX5_bothTyped_18 : decode cX5_bothTyped 18 = .ok (.invokevirtual 60, 3) := by decide +kernel
theorem dX5_bothTyped_21 : decode cX5_bothTyped 21 = .ok (.ifCond .ne 7, 3) := by decide +kernel
theorem dX5_bothTyped_24 : decode cX5_bothTyped 24 = .ok (.iconst 1, 1) := by decide +kernel
theorem dX5_bothTyped_25 : decode cX5_bothTyped 25 = .ok (.goto 4, 3) := by decide +kernel
theorem dX5_bothTyped_28 : decode cX5_bothTyped 28 = .ok (.iconst 0, 1) := by decide +kernel
theorem dX5_bothTyped_29 : decode cX5_bothTyped 29 = .ok (.ireturn, 1) := by decide +kernel
theorem dX5_faultOfTurning_0 : decode cX5_faultOfTurning 0 = .ok (.aload_n 0, 1) := by decide +kernel
theorem dX5_faultOfTurning_1 : decode cX5_faultOfTurning 1 = .ok (.getfield 19, 3) := by decide +kernel
theorem dX5_faultOfTurning_4 : decode cX5_faultOfTurning 4 = .ok (.iload_n 1, 1) := by decide +kernel
theorem dX5_faultOfTurning_5 : decode cX5_faultOfTurning 5 = .ok (.iconst 0, 1) := by decide +kernel
theorem dX5_faultOfTurning_6 : decode cX5_faultOfTurning 6 = .ok (.invokevirtual 60, 3) := by decide +kernel
theorem dX5_faultOfTurning_9 : decode cX5_faultOfTurning 9 = .ok (.istore_n 3, 1) := by decide +kernel
theorem dX5_faultOfTurning_10 : decode cX5_faultOfTurning 10 = .ok (.iload_n 3, 1) := by decide +kernel
theorem dX5_faultOfTurning_11 : decode cX5_faultOfTurning 11 = .ok (.ifCond .ne 13, 3) := by decide +kernel
theorem dX5_faultOfTurning_14 : decode cX5_faultOfTurning 14 = .ok (.aload_n 0, 1) := by decide +kernel
theorem dX5_faultOfTurning_15 : decode cX5_faultOfTurning 15 = .ok (.getfield 19, 3) := by decide +kernel
theorem dX5_faultOfTurning_18 : decode cX5_faultOfTurning 18 = .ok (.iload_n 2, 1) := by decide +kernel
theorem dX5_faultOfTurning_19 : decode cX5_faultOfTurning 19 = .ok (.iconst 0, 1) := by decide +kernel
theorem dX5_faultOfTurning_20 : decode cX5_faultOfTurning 20 = .ok (.invokevirtual 60, 3) := by decide +kernel
theorem dX5_faultOfTurning_23 : decode cX5_faultOfTurning 23 = .ok (.istore_n 3, 1) := by decide +kernel
theorem dX5_faultOfTurning_24 : decode cX5_faultOfTurning 24 = .ok (.iload_n 3, 1) := by decide +kernel
theorem dX5_faultOfTurning_25 : decode cX5_faultOfTurning 25 = .ok (.ifCond .ne 19, 3) := by decide +kernel
theorem dX5_faultOfTurning_28 : decode cX5_faultOfTurning 28 = .ok (.aload_n 0, 1) := by decide +kernel
theorem dX5_faultOfTurning_29 : decode cX5_faultOfTurning 29 = .ok (.getfield 26, 3) := by decide +kernel
theorem dX5_faultOfTurning_32 : decode cX5_faultOfTurning 32 = .ok (.aload_n 0, 1) := by decide +kernel
theorem dX5_faultOfTurning_33 : decode cX5_faultOfTurning 33 = .ok (.getfield 19, 3) := by decide +kernel
theorem dX5_faultOfTurning_36 : decode cX5_faultOfTurning 36 = .ok (.iload_n 1, 1) := by decide +kernel
theorem dX5_faultOfTurning_37 : decode cX5_faultOfTurning 37 = .ok (.iload_n 2, 1) := by decide +kernel
theorem dX5_faultOfTurning_38 : decode cX5_faultOfTurning 38 = .ok (.invokevirtual 102, 3) := by decide +kernel
theorem dX5_faultOfTurning_41 : decode cX5_faultOfTurning 41 = .ok (.goto 4, 3) := by decide +kernel
theorem dX5_faultOfTurning_44 : decode cX5_faultOfTurning 44 = .ok (.iload_n 3, 1) := by decide +kernel
theorem dX5_faultOfTurning_45 : decode cX5_faultOfTurning 45 = .ok (.ireturn, 1) := by decide +kernel
theorem dX5_needPlace_0 : decode cX5_needPlace 0 = .ok (.iload_n 1, 1) := by decide +kernel
theorem dX5_needPlace_1 : decode cX5_needPlace 1 = .ok (.ifCond .lt 8, 3) := by decide +kernel
theorem dX5_needPlace_4 : decode cX5_needPlace 4 = .ok (.iload_n 1, 1) := by decide +kernel
theorem dX5_needPlace_5 : decode cX5_needPlace 5 = .ok (.iload_n 2, 1) := by decide +kernel
theorem dX5_needPlace_6 : decode cX5_needPlace 6 = .ok (.if_icmp .lt 11, 3) := by decide +kernel
theorem dX5_needPlace_9 : decode cX5_needPlace 9 = .ok (.new 85, 3) := by decide +kernel
theorem dX5_needPlace_12 : decode cX5_needPlace 12 = .ok (.dup, 1) := by decide +kernel
theorem dX5_needPlace_13 : decode cX5_needPlace 13 = .ok (.invokespecial 87, 3) := by decide +kernel
theorem dX5_needPlace_16 : decode cX5_needPlace 16 = .ok (.athrow, 1) := by decide +kernel
theorem dX5_needPlace_17 : decode cX5_needPlace 17 = .ok (.return_, 1) := by decide +kernel
theorem dX5_needPart_0 : decode cX5_needPart 0 = .ok (.aload_n 0, 1) := by decide +kernel
theorem dX5_needPart_1 : decode cX5_needPart 1 = .ok (.iload_n 1, 1) := by decide +kernel
theorem dX5_needPart_2 : decode cX5_needPart 2 = .ok (.aload_n 0, 1) := by decide +kernel
theorem dX5_needPart_3 : decode cX5_needPart 3 = .ok (.getfield 10, 3) := by decide +kernel
theorem dX5_needPart_6 : decode cX5_needPart 6 = .ok (.invokevirtual 42, 3) := by decide +kernel
theorem dX5_needPart_9 : decode cX5_needPart 9 = .ok (.invokevirtual 52, 3) := by decide +kernel
theorem dX5_needPart_12 : decode cX5_needPart 12 = .ok (.return_, 1) := by decide +kernel
theorem dX5_needBetween_0 : decode cX5_needBetween 0 = .ok (.iload_n 1, 1) := by decide +kernel
theorem dX5_needBetween_1 : decode cX5_needBetween 1 = .ok (.iload_n 2, 1) := by decide +kernel
theorem dX5_needBetween_2 : decode cX5_needBetween 2 = .ok (.if_icmp .lt 8, 3) := by decide +kernel
theorem dX5_needBetween_5 : decode cX5_needBetween 5 = .ok (.iload_n 1, 1) := by decide +kernel
theorem dX5_needBetween_6 : decode cX5_needBetween 6 = .ok (.iload_n 3, 1) := by decide +kernel
theorem dX5_needBetween_7 : decode cX5_needBetween 7 = .ok (.if_icmp .le 11, 3) := by decide +kernel
theorem dX5_needBetween_10 : decode cX5_needBetween 10 = .ok (.new 88, 3) := by decide +kernel
theorem dX5_needBetween_13 : decode cX5_needBetween 13 = .ok (.dup, 1) := by decide +kernel
theorem dX5_needBetween_14 : decode cX5_needBetween 14 = .ok (.invokespecial 90, 3) := by decide +kernel
theorem dX5_needBetween_17 : decode cX5_needBetween 17 = .ok (.athrow, 1) := by decide +kernel
theorem dX5_needBetween_18 : decode cX5_needBetween 18 = .ok (.return_, 1) := by decide +kernel
theorem dX5_add_0 : decode cX5_add 0 = .ok (.aload_n 0, 1) := by decide +kernel
theorem dX5_add_1 : decode cX5_add 1 = .ok (.getfield 10, 3) := by decide +kernel
theorem dX5_add_4 : decode cX5_add 4 = .ok (.iload_n 3, 1) := by decide +kernel
theorem dX5_add_5 : decode cX5_add 5 = .ok (.iload 4, 2) := by decide +kernel
theorem dX5_add_7 : decode cX5_add 7 = .ok (.iload 5, 2) := by decide +kernel
theorem dX5_add_9 : decode cX5_add 9 = .ok (.invokevirtual 91, 3) := by decide +kernel
theorem dX5_add_12 : decode cX5_add 12 = .ok (.istore 6, 2) := by decide +kernel
theorem dX5_add_14 : decode cX5_add 14 = .ok (.aload_n 0, 1) := by decide +kernel
theorem dX5_add_15 : decode cX5_add 15 = .ok (.getfield 10, 3) := by decide +kernel
theorem dX5_add_18 : decode cX5_add 18 = .ok (.invokevirtual 42, 3) := by decide +kernel
theorem dX5_add_21 : decode cX5_add 21 = .ok (.bipush 40, 2) := by decide +kernel
theorem dX5_add_23 : decode cX5_add 23 = .ok (.if_icmp .ge 10, 3) := by decide +kernel
theorem dX5_add_26 : decode cX5_add 26 = .ok (.iload 6, 2) := by decide +kernel
theorem dX5_add_28 : decode cX5_add 28 = .ok (.bipush 60, 2) := by decide +kernel
theorem dX5_add_30 : decode cX5_add 30 = .ok (.if_icmp .le 11, 3) := by decide +kernel
theorem dX5_add_33 : decode cX5_add 33 = .ok (.new 46, 3) := by decide +kernel
theorem dX5_add_36 : decode cX5_add 36 = .ok (.dup, 1) := by decide +kernel
theorem dX5_add_37 : decode cX5_add 37 = .ok (.invokespecial 48, 3) := by decide +kernel
theorem dX5_add_40 : decode cX5_add 40 = .ok (.athrow, 1) := by decide +kernel
theorem dX5_add_41 : decode cX5_add 41 = .ok (.aload_n 0, 1) := by decide +kernel
theorem dX5_add_42 : decode cX5_add 42 = .ok (.getfield 10, 3) := by decide +kernel
theorem dX5_add_45 : decode cX5_add 45 = .ok (.iload_n 1, 1) := by decide +kernel
theorem dX5_add_46 : decode cX5_add 46 = .ok (.iload_n 2, 1) := by decide +kernel
theorem dX5_add_47 : decode cX5_add 47 = .ok (.iload_n 3, 1) := by decide +kernel
theorem dX5_add_48 : decode cX5_add 48 = .ok (.iload 4, 2) := by decide +kernel
theorem dX5_add_50 : decode cX5_add 50 = .ok (.iload 5, 2) := by decide +kernel
theorem dX5_add_52 : decode cX5_add 52 = .ok (.invokevirtual 95, 3) := by decide +kernel
theorem dX5_add_55 : decode cX5_add 55 = .ok (.istore 7, 2) := by decide +kernel
theorem dX5_add_57 : decode cX5_add 57 = .ok (.aload_n 0, 1) := by decide +kernel
theorem dX5_add_58 : decode cX5_add 58 = .ok (.getfield 26, 3) := by decide +kernel
theorem dX5_add_61 : decode cX5_add 61 = .ok (.aload_n 0, 1) := by decide +kernel
theorem dX5_add_62 : decode cX5_add 62 = .ok (.getfield 10, 3) := by decide +kernel
theorem dX5_add_65 : decode cX5_add 65 = .ok (.iload 7, 2) := by decide +kernel
theorem dX5_add_67 : decode cX5_add 67 = .ok (.aload_n 0, 1) := by decide +kernel
theorem dX5_add_68 : decode cX5_add 68 = .ok (.getfield 19, 3) := by decide +kernel
theorem dX5_add_71 : decode cX5_add 71 = .ok (.invokevirtual 98, 3) := by decide +kernel
theorem dX5_add_74 : decode cX5_add 74 = .ok (.iload 7, 2) := by decide +kernel
theorem dX5_add_76 : decode cX5_add 76 = .ok (.ireturn, 1) := by decide +kernel
theorem dX5_plain_0 : decode cX5_plain 0 = .ok (.aload_n 0, 1) := by decide +kernel
theorem dX5_plain_1 : decode cX5_plain 1 = .ok (.iload_n 1, 1) := by decide +kernel
theorem dX5_plain_2 : decode cX5_plain 2 = .ok (.iconst 0, 1) := by decide +kernel
theorem dX5_plain_3 : decode cX5_plain 3 = .ok (.iconst 1, 1) := by decide +kernel
theorem dX5_plain_4 : decode cX5_plain 4 = .ok (.invokevirtual 30, 3) := by decide +kernel
theorem dX5_plain_7 : decode cX5_plain 7 = .ok (.aload_n 0, 1) := by decide +kernel
theorem dX5_plain_8 : decode cX5_plain 8 = .ok (.iload_n 1, 1) := by decide +kernel
theorem dX5_plain_9 : decode cX5_plain 9 = .ok (.ifCond .ne 7, 3) := by decide +kernel
theorem dX5_plain_12 : decode cX5_plain 12 = .ok (.iconst 0, 1) := by decide +kernel
theorem dX5_plain_13 : decode cX5_plain 13 = .ok (.goto 4, 3) := by decide +kernel
theorem dX5_plain_16 : decode cX5_plain 16 = .ok (.iconst 1, 1) := by decide +kernel
theorem dX5_plain_17 : decode cX5_plain 17 = .ok (.iconst (-1), 1) := by decide +kernel
theorem dX5_plain_18 : decode cX5_plain 18 = .ok (.iconst (-1), 1) := by decide +kernel
theorem dX5_plain_19 : decode cX5_plain 19 = .ok (.iconst (-1), 1) := by decide +kernel
theorem dX5_plain_20 : decode cX5_plain 20 = .ok (.iconst (-1), 1) := by decide +kernel
theorem dX5_plain_21 : decode cX5_plain 21 = .ok (.invokevirtual 34, 3) := by decide +kernel
theorem dX5_plain_24 : decode cX5_plain 24 = .ok (.ireturn, 1) := by decide +kernel
theorem dX5_name_0 : decode cX5_name 0 = .ok (.aload_n 0, 1) := by decide +kernel
theorem dX5_name_1 : decode cX5_name 1 = .ok (.iload_n 1, 1) := by decide +kernel
theorem dX5_name_2 : decode cX5_name 2 = .ok (.iconst 0, 1) := by decide +kernel
theorem dX5_name_3 : decode cX5_name 3 = .ok (.bipush 9, 2) := by decide +kernel
theorem dX5_name_5 : decode cX5_name 5 = .ok (.invokevirtual 30, 3) := by decide +kernel
theorem dX5_name_8 : decode cX5_name 8 = .ok (.aload_n 0, 1) := by decide +kernel
theorem dX5_name_9 : decode cX5_name 9 = .ok (.iconst 2, 1) := by decide +kernel
theorem dX5_name_10 : decode cX5_name 10 = .ok (.iload_n 1, 1) := by decide +kernel
theorem dX5_name_11 : decode cX5_name 11 = .ok (.iconst (-1), 1) := by decide +kernel
theorem dX5_name_12 : decode cX5_name 12 = .ok (.iconst (-1), 1) := by decide +kernel
theorem dX5_name_13 : decode cX5_name 13 = .ok (.iconst (-1), 1) := by decide +kernel
theorem dX5_name_14 : decode cX5_name 14 = .ok (.invokevirtual 34, 3) := by decide +kernel
theorem dX5_name_17 : decode cX5_name 17 = .ok (.ireturn, 1) := by decide +kernel
theorem dX5_wheel_0 : decode cX5_wheel 0 = .ok (.aload_n 0, 1) := by decide +kernel
theorem dX5_wheel_1 : decode cX5_wheel 1 = .ok (.iload_n 2, 1) := by decide +kernel
theorem dX5_wheel_2 : decode cX5_wheel 2 = .ok (.invokevirtual 38, 3) := by decide +kernel
theorem dX5_wheel_5 : decode cX5_wheel 5 = .ok (.aload_n 0, 1) := by decide +kernel
theorem dX5_wheel_6 : decode cX5_wheel 6 = .ok (.iload_n 1, 1) := by decide +kernel
theorem dX5_wheel_7 : decode cX5_wheel 7 = .ok (.iconst 0, 1) := by decide +kernel
theorem dX5_wheel_8 : decode cX5_wheel 8 = .ok (.bipush 9, 2) := by decide +kernel
theorem dX5_wheel_10 : decode cX5_wheel 10 = .ok (.invokevirtual 30, 3) := by decide +kernel
theorem dX5_wheel_13 : decode cX5_wheel 13 = .ok (.aload_n 0, 1) := by decide +kernel
theorem dX5_wheel_14 : decode cX5_wheel 14 = .ok (.iconst 3, 1) := by decide +kernel
theorem dX5_wheel_15 : decode cX5_wheel 15 = .ok (.iload_n 1, 1) := by decide +kernel
theorem dX5_wheel_16 : decode cX5_wheel 16 = .ok (.iload_n 2, 1) := by decide +kernel
theorem dX5_wheel_17 : decode cX5_wheel 17 = .ok (.iconst (-1), 1) := by decide +kernel
theorem dX5_wheel_18 : decode cX5_wheel 18 = .ok (.iconst (-1), 1) := by decide +kernel
theorem dX5_wheel_19 : decode cX5_wheel 19 = .ok (.invokevirtual 34, 3) := by decide +kernel
theorem dX5_wheel_22 : decode cX5_wheel 22 = .ok (.ireturn, 1) := by decide +kernel
theorem dX5_turn_0 : decode cX5_turn 0 = .ok (.aload_n 0, 1) := by decide +kernel
theorem dX5_turn_1 : decode cX5_turn 1 = .ok (.iload_n 1, 1) := by decide +kernel
theorem dX5_turn_2 : decode cX5_turn 2 = .ok (.invokevirtual 38, 3) := by decide +kernel
theorem dX5_turn_5 : decode cX5_turn 5 = .ok (.aload_n 0, 1) := by decide +kernel
theorem dX5_turn_6 : decode cX5_turn 6 = .ok (.iload_n 2, 1) := by decide +kernel
theorem dX5_turn_7 : decode cX5_turn 7 = .ok (.invokevirtual 38, 3) := by decide +kernel
theorem dX5_turn_10 : decode cX5_turn 10 = .ok (.aload_n 0, 1) := by decide +kernel
theorem dX5_turn_11 : decode cX5_turn 11 = .ok (.iconst 4, 1) := by decide +kernel
theorem dX5_turn_12 : decode cX5_turn 12 = .ok (.iconst (-1), 1) := by decide +kernel
theorem dX5_turn_13 : decode cX5_turn 13 = .ok (.iload_n 1, 1) := by decide +kernel
theorem dX5_turn_14 : decode cX5_turn 14 = .ok (.iload_n 2, 1) := by decide +kernel
theorem dX5_turn_15 : decode cX5_turn 15 = .ok (.iconst (-1), 1) := by decide +kernel
theorem dX5_turn_16 : decode cX5_turn 16 = .ok (.invokevirtual 34, 3) := by decide +kernel
theorem dX5_turn_19 : decode cX5_turn 19 = .ok (.ireturn, 1) := by decide +kernel
theorem dX5_tell_0 : decode cX5_tell 0 = .ok (.aload_n 0, 1) := by decide +kernel
theorem dX5_tell_1 : decode cX5_tell 1 = .ok (.iload_n 2, 1) := by decide +kernel
theorem dX5_tell_2 : decode cX5_tell 2 = .ok (.invokevirtual 38, 3) := by decide +kernel
theorem dX5_tell_5 : decode cX5_tell 5 = .ok (.aload_n 0, 1) := by decide +kernel
theorem dX5_tell_6 : decode cX5_tell 6 = .ok (.iload_n 3, 1) := by decide +kernel
theorem dX5_tell_7 : decode cX5_tell 7 = .ok (.invokevirtual 38, 3) := by decide +kernel
theorem dX5_tell_10 : decode cX5_tell 10 = .ok (.aload_n 0, 1) := by decide +kernel
theorem dX5_tell_11 : decode cX5_tell 11 = .ok (.iload_n 1, 1) := by decide +kernel
theorem dX5_tell_12 : decode cX5_tell 12 = .ok (.iconst 0, 1) := by decide +kernel
theorem dX5_tell_13 : decode cX5_tell 13 = .ok (.bipush 9, 2) := by decide +kernel
theorem dX5_tell_15 : decode cX5_tell 15 = .ok (.invokevirtual 30, 3) := by decide +kernel
theorem dX5_tell_18 : decode cX5_tell 18 = .ok (.aload_n 0, 1) := by decide +kernel
theorem dX5_tell_19 : decode cX5_tell 19 = .ok (.iconst 5, 1) := by decide +kernel
theorem dX5_tell_20 : decode cX5_tell 20 = .ok (.iload_n 1, 1) := by decide +kernel
theorem dX5_tell_21 : decode cX5_tell 21 = .ok (.iload_n 2, 1) := by decide +kernel
theorem dX5_tell_22 : decode cX5_tell 22 = .ok (.iload_n 3, 1) := by decide +kernel
theorem dX5_tell_23 : decode cX5_tell 23 = .ok (.iconst (-1), 1) := by decide +kernel
theorem dX5_tell_24 : decode cX5_tell 24 = .ok (.invokevirtual 34, 3) := by decide +kernel
theorem dX5_tell_27 : decode cX5_tell 27 = .ok (.ireturn, 1) := by decide +kernel
theorem dX5_axle_0 : decode cX5_axle 0 = .ok (.aload_n 0, 1) := by decide +kernel
theorem dX5_axle_1 : decode cX5_axle 1 = .ok (.iload_n 1, 1) := by decide +kernel
theorem dX5_axle_2 : decode cX5_axle 2 = .ok (.invokevirtual 38, 3) := by decide +kernel
theorem dX5_axle_5 : decode cX5_axle 5 = .ok (.aload_n 0, 1) := by decide +kernel
theorem dX5_axle_6 : decode cX5_axle 6 = .ok (.iload_n 2, 1) := by decide +kernel
theorem dX5_axle_7 : decode cX5_axle 7 = .ok (.invokevirtual 38, 3) := by decide +kernel
theorem dX5_axle_10 : decode cX5_axle 10 = .ok (.aload_n 0, 1) := by decide +kernel
theorem dX5_axle_11 : decode cX5_axle 11 = .ok (.bipush 6, 2) := by decide +kernel
theorem dX5_axle_13 : decode cX5_axle 13 = .ok (.iconst (-1), 1) := by decide +kernel
theorem dX5_axle_14 : decode cX5_axle 14 = .ok (.iload_n 1, 1) := by decide +kernel
theorem dX5_axle_15 : decode cX5_axle 15 = .ok (.iload_n 2, 1) := by decide +kernel
theorem dX5_axle_16 : decode cX5_axle 16 = .ok (.iconst (-1), 1) := by decide +kernel
theorem dX5_axle_17 : decode cX5_axle 17 = .ok (.invokevirtual 34, 3) := by decide +kernel
theorem dX5_axle_20 : decode cX5_axle 20 = .ok (.ireturn, 1) := by decide +kernel
theorem dX5_end_0 : decode cX5_end 0 = .ok (.aload_n 0, 1) := by decide +kernel
theorem dX5_end_1 : decode cX5_end 1 = .ok (.iload_n 1, 1) := by decide +kernel
theorem dX5_end_2 : decode cX5_end 2 = .ok (.invokevirtual 38, 3) := by decide +kernel
theorem dX5_end_5 : decode cX5_end 5 = .ok (.aload_n 0, 1) := by decide +kernel
theorem dX5_end_6 : decode cX5_end 6 = .ok (.iload_n 2, 1) := by decide +kernel
theorem dX5_end_7 : decode cX5_end 7 = .ok (.iconst 0, 1) := by decide +kernel
theorem dX5_end_8 : decode cX5_end 8 = .ok (.iconst 1, 1) := by decide +kernel
theorem dX5_end_9 : decode cX5_end 9 = .ok (.invokevirtual 30, 3) := by decide +kernel
theorem dX5_end_12 : decode cX5_end 12 = .ok (.aload_n 0, 1) := by decide +kernel
theorem dX5_end_13 : decode cX5_end 13 = .ok (.bipush 7, 2) := by decide +kernel
theorem dX5_end_15 : decode cX5_end 15 = .ok (.iload_n 2, 1) := by decide +kernel
theorem dX5_end_16 : decode cX5_end 16 = .ok (.iload_n 1, 1) := by decide +kernel
theorem dX5_end_17 : decode cX5_end 17 = .ok (.iconst (-1), 1) := by decide +kernel
theorem dX5_end_18 : decode cX5_end 18 = .ok (.iconst (-1), 1) := by decide +kernel
theorem dX5_end_19 : decode cX5_end 19 = .ok (.invokevirtual 34, 3) := by decide +kernel
theorem dX5_end_22 : decode cX5_end 22 = .ok (.ireturn, 1) := by decide +kernel
theorem dX5_either_0 : decode cX5_either 0 = .ok (.aload_n 0, 1) := by decide +kernel
theorem dX5_either_1 : decode cX5_either 1 = .ok (.iload_n 1, 1) := by decide +kernel
theorem dX5_either_2 : decode cX5_either 2 = .ok (.invokevirtual 38, 3) := by decide +kernel
theorem dX5_either_5 : decode cX5_either 5 = .ok (.aload_n 0, 1) := by decide +kernel
theorem dX5_either_6 : decode cX5_either 6 = .ok (.iload_n 2, 1) := by decide +kernel
theorem dX5_either_7 : decode cX5_either 7 = .ok (.invokevirtual 38, 3) := by decide +kernel
theorem dX5_either_10 : decode cX5_either 10 = .ok (.aload_n 0, 1) := by decide +kernel
theorem dX5_either_11 : decode cX5_either 11 = .ok (.iload_n 3, 1) := by decide +kernel
theorem dX5_either_12 : decode cX5_either 12 = .ok (.invokevirtual 38, 3) := by decide +kernel
theorem dX5_either_15 : decode cX5_either 15 = .ok (.aload_n 0, 1) := by decide +kernel
theorem dX5_either_16 : decode cX5_either 16 = .ok (.bipush 8, 2) := by decide +kernel
theorem dX5_either_18 : decode cX5_either 18 = .ok (.iconst (-1), 1) := by decide +kernel
theorem dX5_either_19 : decode cX5_either 19 = .ok (.iload_n 1, 1) := by decide +kernel
theorem dX5_either_20 : decode cX5_either 20 = .ok (.iload_n 2, 1) := by decide +kernel
theorem dX5_either_21 : decode cX5_either 21 = .ok (.iload_n 3, 1) := by decide +kernel
theorem dX5_either_22 : decode cX5_either 22 = .ok (.invokevirtual 34, 3) := by decide +kernel
theorem dX5_either_25 : decode cX5_either 25 = .ok (.ireturn, 1) := by decide +kernel
theorem dX5_undo_0 : decode cX5_undo 0 = .ok (.aload_n 0, 1) := by decide +kernel
theorem dX5_undo_1 : decode cX5_undo 1 = .ok (.getfield 10, 3) := by decide +kernel
theorem dX5_undo_4 : decode cX5_undo 4 = .ok (.invokevirtual 42, 3) := by decide +kernel
theorem dX5_undo_7 : decode cX5_undo 7 = .ok (.iconst 1, 1) := by decide +kernel
theorem dX5_undo_8 : decode cX5_undo 8 = .ok (.isub, 1) := by decide +kernel
theorem dX5_undo_9 : decode cX5_undo 9 = .ok (.istore_n 1, 1) := by decide +kernel
theorem dX5_undo_10 : decode cX5_undo 10 = .ok (.iload_n 1, 1) := by decide +kernel
theorem dX5_undo_11 : decode cX5_undo 11 = .ok (.ifCond .ge 11, 3) := by decide +kernel
theorem dX5_undo_14 : decode cX5_undo 14 = .ok (.new 46, 3) := by decide +kernel
theorem dX5_undo_17 : decode cX5_undo 17 = .ok (.dup, 1) := by decide +kernel
theorem dX5_undo_18 : decode cX5_undo 18 = .ok (.invokespecial 48, 3) := by decide +kernel
theorem dX5_undo_21 : decode cX5_undo 21 = .ok (.athrow, 1) := by decide +kernel
theorem dX5_undo_22 : decode cX5_undo 22 = .ok (.aload_n 0, 1) := by decide +kernel
theorem dX5_undo_23 : decode cX5_undo 23 = .ok (.getfield 10, 3) := by decide +kernel
theorem dX5_undo_26 : decode cX5_undo 26 = .ok (.invokevirtual 49, 3) := by decide +kernel
theorem dX5_undo_29 : decode cX5_undo 29 = .ok (.iload_n 1, 1) := by decide +kernel
theorem dX5_undo_30 : decode cX5_undo 30 = .ok (.ireturn, 1) := by decide +kernel
theorem dX5_part_0 : decode cX5_part 0 = .ok (.aload_n 0, 1) := by decide +kernel
theorem dX5_part_1 : decode cX5_part 1 = .ok (.iload_n 1, 1) := by decide +kernel
theorem dX5_part_2 : decode cX5_part 2 = .ok (.invokevirtual 38, 3) := by decide +kernel
theorem dX5_part_5 : decode cX5_part 5 = .ok (.aload_n 0, 1) := by decide +kernel
theorem dX5_part_6 : decode cX5_part 6 = .ok (.iload_n 2, 1) := by decide +kernel
theorem dX5_part_7 : decode cX5_part 7 = .ok (.bipush 7, 2) := by decide +kernel
theorem dX5_part_9 : decode cX5_part 9 = .ok (.invokevirtual 52, 3) := by decide +kernel
theorem dX5_part_12 : decode cX5_part 12 = .ok (.aload_n 0, 1) := by decide +kernel
theorem dX5_part_13 : decode cX5_part 13 = .ok (.getfield 10, 3) := by decide +kernel
theorem dX5_part_16 : decode cX5_part 16 = .ok (.iload_n 1, 1) := by decide +kernel
theorem dX5_part_17 : decode cX5_part 17 = .ok (.iload_n 2, 1) := by decide +kernel
theorem dX5_part_18 : decode cX5_part 18 = .ok (.invokevirtual 56, 3) := by decide +kernel
theorem dX5_part_21 : decode cX5_part 21 = .ok (.ireturn, 1) := by decide +kernel
theorem dX5_type_0 : decode cX5_type 0 = .ok (.aload_n 0, 1) := by decide +kernel
theorem dX5_type_1 : decode cX5_type 1 = .ok (.iload_n 1, 1) := by decide +kernel
theorem dX5_type_2 : decode cX5_type 2 = .ok (.invokevirtual 38, 3) := by decide +kernel
theorem dX5_type_5 : decode cX5_type 5 = .ok (.aload_n 0, 1) := by decide +kernel
theorem dX5_type_6 : decode cX5_type 6 = .ok (.iload_n 2, 1) := by decide +kernel
theorem dX5_type_7 : decode cX5_type 7 = .ok (.iconst 5, 1) := by decide +kernel
theorem dX5_type_8 : decode cX5_type 8 = .ok (.invokevirtual 52, 3) := by decide +kernel
theorem dX5_type_11 : decode cX5_type 11 = .ok (.aload_n 0, 1) := by decide +kernel
theorem dX5_type_12 : decode cX5_type 12 = .ok (.getfield 19, 3) := by decide +kernel
theorem dX5_type_15 : decode cX5_type 15 = .ok (.iload_n 1, 1) := by decide +kernel
theorem dX5_type_16 : decode cX5_type 16 = .ok (.iload_n 2, 1) := by decide +kernel
theorem dX5_type_17 : decode cX5_type 17 = .ok (.invokevirtual 60, 3) := by decide +kernel
theorem dX5_type_20 : decode cX5_type 20 = .ok (.ireturn, 1) := by decide +kernel
theorem dX5_code_0 : decode cX5_code 0 = .ok (.aload_n 0, 1) := by decide +kernel
theorem dX5_code_1 : decode cX5_code 1 = .ok (.iload_n 1, 1) := by decide +kernel
theorem dX5_code_2 : decode cX5_code 2 = .ok (.invokevirtual 38, 3) := by decide +kernel
theorem dX5_code_5 : decode cX5_code 5 = .ok (.aload_n 0, 1) := by decide +kernel
theorem dX5_code_6 : decode cX5_code 6 = .ok (.iload_n 2, 1) := by decide +kernel
theorem dX5_code_7 : decode cX5_code 7 = .ok (.aload_n 0, 1) := by decide +kernel
theorem dX5_code_8 : decode cX5_code 8 = .ok (.getfield 19, 3) := by decide +kernel
theorem dX5_code_11 : decode cX5_code 11 = .ok (.iload_n 1, 1) := by decide +kernel
theorem dX5_code_12 : decode cX5_code 12 = .ok (.iconst 2, 1) := by decide +kernel
theorem dX5_code_13 : decode cX5_code 13 = .ok (.invokevirtual 60, 3) := by decide +kernel
theorem dX5_code_16 : decode cX5_code 16 = .ok (.invokevirtual 52, 3) := by decide +kernel
theorem dX5_code_19 : decode cX5_code 19 = .ok (.aload_n 0, 1) := by decide +kernel
theorem dX5_code_20 : decode cX5_code 20 = .ok (.getfield 19, 3) := by decide +kernel
theorem dX5_code_23 : decode cX5_code 23 = .ok (.iload_n 1, 1) := by decide +kernel
theorem dX5_code_24 : decode cX5_code 24 = .ok (.iload_n 2, 1) := by decide +kernel
theorem dX5_code_25 : decode cX5_code 25 = .ok (.invokevirtual 61, 3) := by decide +kernel
theorem dX5_code_28 : decode cX5_code 28 = .ok (.ireturn, 1) := by decide +kernel
theorem dX5_count_0 : decode cX5_count 0 = .ok (.aload_n 0, 1) := by decide +kernel
theorem dX5_count_1 : decode cX5_count 1 = .ok (.iload_n 1, 1) := by decide +kernel
theorem dX5_count_2 : decode cX5_count 2 = .ok (.bipush 6, 2) := by decide +kernel
theorem dX5_count_4 : decode cX5_count 4 = .ok (.invokevirtual 52, 3) := by decide +kernel
theorem dX5_count_7 : decode cX5_count 7 = .ok (.aload_n 0, 1) := by decide +kernel
theorem dX5_count_8 : decode cX5_count 8 = .ok (.iload_n 1, 1) := by decide +kernel
theorem dX5_count_9 : decode cX5_count 9 = .ok (.invokevirtual 64, 3) := by decide +kernel
theorem dX5_count_12 : decode cX5_count 12 = .ok (.ireturn, 1) := by decide +kernel
theorem dX5_same_0 : decode cX5_same 0 = .ok (.aload_n 0, 1) := by decide +kernel
theorem dX5_same_1 : decode cX5_same 1 = .ok (.iload_n 1, 1) := by decide +kernel
theorem dX5_same_2 : decode cX5_same 2 = .ok (.invokevirtual 38, 3) := by decide +kernel
theorem dX5_same_5 : decode cX5_same 5 = .ok (.aload_n 0, 1) := by decide +kernel
theorem dX5_same_6 : decode cX5_same 6 = .ok (.iload_n 2, 1) := by decide +kernel
theorem dX5_same_7 : decode cX5_same 7 = .ok (.invokevirtual 38, 3) := by decide +kernel
theorem dX5_same_10 : decode cX5_same 10 = .ok (.aload_n 0, 1) := by decide +kernel
theorem dX5_same_11 : decode cX5_same 11 = .ok (.iload_n 1, 1) := by decide +kernel
theorem dX5_same_12 : decode cX5_same 12 = .ok (.iload_n 2, 1) := by decide +kernel
theorem dX5_same_13 : decode cX5_same 13 = .ok (.invokevirtual 68, 3) := by decide +kernel
theorem dX5_same_16 : decode cX5_same 16 = .ok (.ifCond .eq 19, 3) := by decide +kernel
theorem dX5_same_19 : decode cX5_same 19 = .ok (.aload_n 0, 1) := by decide +kernel
theorem dX5_same_20 : decode cX5_same 20 = .ok (.getfield 19, 3) := by decide +kernel
theorem dX5_same_23 : decode cX5_same 23 = .ok (.iload_n 1, 1) := by decide +kernel
theorem dX5_same_24 : decode cX5_same 24 = .ok (.iload_n 2, 1) := by decide +kernel
theorem dX5_same_25 : decode cX5_same 25 = .ok (.invokevirtual 72, 3) := by decide +kernel
theorem dX5_same_28 : decode cX5_same 28 = .ok (.ifCond .eq 7, 3) := by decide +kernel
theorem dX5_same_31 : decode cX5_same 31 = .ok (.iconst 1, 1) := by decide +kernel
theorem dX5_same_32 : decode cX5_same 32 = .ok (.goto 4, 3) := by decide +kernel
theorem dX5_same_35 : decode cX5_same 35 = .ok (.iconst 0, 1) := by decide +kernel
theorem dX5_same_36 : decode cX5_same 36 = .ok (.ireturn, 1) := by decide +kernel
theorem dX5_goes_0 : decode cX5_goes 0 = .ok (.aload_n 0, 1) := by decide +kernel
theorem dX5_goes_1 : decode cX5_goes 1 = .ok (.iload_n 1, 1) := by decide +kernel
theorem dX5_goes_2 : decode cX5_goes 2 = .ok (.invokevirtual 38, 3) := by decide +kernel
theorem dX5_goes_5 : decode cX5_goes 5 = .ok (.aload_n 0, 1) := by decide +kernel
theorem dX5_goes_6 : decode cX5_goes 6 = .ok (.iload_n 2, 1) := by decide +kernel
theorem dX5_goes_7 : decode cX5_goes 7 = .ok (.invokevirtual 38, 3) := by decide +kernel
theorem dX5_goes_10 : decode cX5_goes 10 = .ok (.aload_n 0, 1) := by decide +kernel
theorem dX5_goes_11 : decode cX5_goes 11 = .ok (.iload_n 1, 1) := by decide +kernel
theorem dX5_goes_12 : decode cX5_goes 12 = .ok (.iload_n 2, 1) := by decide +kernel
theorem dX5_goes_13 : decode cX5_goes 13 = .ok (.invokevirtual 78, 3) := by decide +kernel
theorem dX5_goes_16 : decode cX5_goes 16 = .ok (.ireturn, 1) := by decide +kernel
section T5
variable {p : Program} {l : Launch} {e : Env} {R : Room} {s : State} {m : MethodId} {args : Array Value} {below : List Frame} {meth : Method} {c : Code} {D : va_G} {g : gT} {N : Nat} {ad ln : Nat → Nat}
def mX5_counted_b45 (K16 : gM → Int32 → Int32 → Int32 → Option (gM × Int32)) (A : gM) (x1 : Int32) (x2 : Int32) (x3 : Int32) : Option (gM × Int32) :=
  g_let (x3 + 1) fun v1 =>
  K16 A x1 x2 v1
def mX5_counted_b16 (K16 : gM → Int32 → Int32 → Int32 → Option (gM × Int32)) (A : gM) (x1 : Int32) (x2 : Int32) (x3 : Int32) : Option (gM × Int32) :=
  (mX2_made A).bind fun q1 =>
  if q1.2 ≤ x3 then
  some (q1.1, x2)
  else
  (mX3_fact q1.1 x3 0).bind fun q3 =>
  if q3.2 = (x1 - 1) then
  g_let (x2 + 1) fun v5 =>
  mX5_counted_b45 K16 q3.1 x1 v5 x3
  else
  mX5_counted_b45 K16 q3.1 x1 x2 x3
def mX5_counted_L16 : Nat → gM → Int32 → Int32 → Int32 → Option (gM × Int32)
  | 0 => fun _ _ _ _ => none
  | f + 1 => mX5_counted_b16 (mX5_counted_L16 f)
def mX5_counted_b0 (A : gM) (x1 : Int32) : Option (gM × Int32) :=
  if x1 = 0 then
  (mX2_made A).bind fun q2 =>
  some (q2.1, q2.2)
  else
  mX5_counted_L16 gF A x1 0 0
def mX5_counted (A : gM) (x1 : Int32) : Option (gM × Int32) := mX5_counted_b0 A x1
set_option maxHeartbeats 2000000 in
set_option maxRecDepth 20000 in
theorem wX5_counted_b45 (hN : 183 ≤ N) {A0 A' : gM} {r : Int32} (C : gC p R s m args meth c cX5_counted RX5 4 D g (va_A (gw g ad ln A0 N) s.heap.size) 1) (hr : meth.sig.returnType = some .int) {K16 : gM → Int32 → Int32 → Int32 → Option (gM × Int32)} (hK16 : ∀ {A : gM} {x1 : Int32} {x2 : Int32} {x3 : Int32}, K16 A x1 x2 x3 = some (A', r) → gJ p l e R s m args below meth c (gEi below D g N ad ln A0 A' r args s) 4 D g (va_A (gw g ad ln A0 N) s.heap.size) N ad ln A [(0, gr 0), (1, gi x1), (2, gi x2), (3, gi x3)] 0 0 16 []) {A : gM} {x1 : Int32} {x2 : Int32} {x3 : Int32} (h : mX5_counted_b45 K16 A x1 x2 x3 = some (A', r)) : gJ p l e R s m args below meth c (gEi below D g N ad ln A0 A' r args s) 4 D g (va_A (gw g ad ln A0 N) s.heap.size) N ad ln A [(0, gr 0), (1, gi x1), (2, gi x2), (3, gi x3)] 0 0 45 [] := by
  unfold mX5_counted_b45 at h
  obtain ⟨v1, ev1, h⟩ := g_lt h
  refine g_iinc C 3 dX5_counted_45 rfl ev1 (by decide) rfl ?_
  refine g_goto C dX5_counted_48 (tgt := 16) (by decide) ?_
  refine g_sub [1, 2, 3, 0] rfl ?_
  exact hK16 h

set_option maxHeartbeats 2000000 in
set_option maxRecDepth 20000 in
theorem wX5_counted_b16 (hN : 183 ≤ N) {A0 A' : gM} {r : Int32} (C : gC p R s m args meth c cX5_counted RX5 4 D g (va_A (gw g ad ln A0 N) s.heap.size) 1) (hr : meth.sig.returnType = some .int) {K16 : gM → Int32 → Int32 → Int32 → Option (gM × Int32)} (hK16 : ∀ {A : gM} {x1 : Int32} {x2 : Int32} {x3 : Int32}, K16 A x1 x2 x3 = some (A', r) → gJ p l e R s m args below meth c (gEi below D g N ad ln A0 A' r args s) 4 D g (va_A (gw g ad ln A0 N) s.heap.size) N ad ln A [(0, gr 0), (1, gi x1), (2, gi x2), (3, gi x3)] 0 0 16 []) {A : gM} {x1 : Int32} {x2 : Int32} {x3 : Int32} (h : mX5_counted_b16 K16 A x1 x2 x3 = some (A', r)) : gJ p l e R s m args below meth c (gEi below D g N ad ln A0 A' r args s) 4 D g (va_A (gw g ad ln A0 N) s.heap.size) N ad ln A [(0, gr 0), (1, gi x1), (2, gi x2), (3, gi x3)] 0 0 16 [] := by
  unfold mX5_counted_b16 at h
  refine g_iload_n C 3 dX5_counted_16 rfl ?_
  refine g_aload_n C 0 dX5_counted_17 rfl ?_
  refine g_get (v := gr 1) C 0 0 (by omega) rfl rfl gu_5 (by decide) qf_X5_10 rfl dX5_counted_18 ?_
  obtain ⟨q1, eq1, h⟩ := g_bd h
  refine g_calliV C 1 [] (kX2_made hN eq1) qs_X5_42 (by omega) (by omega) rfl rfl rfl rfl (Nat.le_of_ble_eq_true rfl) ⟨Nat.zero_le _, Nat.zero_le _⟩ dX5_counted_21 ?_
  refine g_icmp_ge C dX5_counted_24 (tgt := 51) (by decide) (fun c2 => ?_) (fun c2 => ?_)
  · have h := g_tt c2 h
    refine g_iload_n C 2 dX5_counted_51 rfl ?_
    obtain ⟨rfl, rfl⟩ := Prod.mk.inj (Option.some.inj h)
    exact g_reti C hr dX5_counted_52
  · have h := g_ff c2 h
    refine g_aload_n C 0 dX5_counted_27 rfl ?_
    refine g_get (v := gr 43) C 0 1 (by omega) rfl rfl gu_5 (by decide) qf_X5_19 rfl dX5_counted_28 ?_
    refine g_iload_n C 3 dX5_counted_31 rfl ?_
    refine g_iconst (v := 0) C dX5_counted_32 (by decide) ?_
    obtain ⟨q3, eq3, h⟩ := g_bd h
    refine g_calliV C 43 [gi x3, gi 0] (kX3_fact hN eq3) qs_X5_60 (by omega) (by omega) rfl rfl rfl rfl (Nat.le_of_ble_eq_true rfl) ⟨Nat.zero_le _, Nat.zero_le _⟩ dX5_counted_33 ?_
    refine g_iload_n C 1 dX5_counted_36 rfl ?_
    refine g_iconst (v := 1) C dX5_counted_37 (by decide) ?_
    refine g_isub C dX5_counted_38 ?_
    refine g_icmp_ne C dX5_counted_39 (tgt := 45) (by decide) (fun c4 => ?_) (fun c4 => ?_)
    · have h := g_ff c4 h
      refine g_sub [0, 1, 2, 3] rfl ?_
      exact wX5_counted_b45 hN C hr hK16 h
    · have h := g_tt c4 h
      obtain ⟨v5, ev5, h⟩ := g_lt h
      refine g_iinc C 2 dX5_counted_42 rfl ev5 (by decide) rfl ?_
      refine g_sub [1, 2, 0, 3] rfl ?_
      exact wX5_counted_b45 hN C hr hK16 h

set_option maxHeartbeats 2000000 in
set_option maxRecDepth 20000 in
theorem wX5_counted_L16 (hN : 183 ≤ N) {A0 A' : gM} {r : Int32} (C : gC p R s m args meth c cX5_counted RX5 4 D g (va_A (gw g ad ln A0 N) s.heap.size) 1) (hr : meth.sig.returnType = some .int)  : ∀ (f : Nat) {A : gM} {x1 : Int32} {x2 : Int32} {x3 : Int32}, mX5_counted_L16 f A x1 x2 x3 = some (A', r) → gJ p l e R s m args below meth c (gEi below D g N ad ln A0 A' r args s) 4 D g (va_A (gw g ad ln A0 N) s.heap.size) N ad ln A [(0, gr 0), (1, gi x1), (2, gi x2), (3, gi x3)] 0 0 16 []
  | 0, A, x1, x2, x3, h => by cases h
  | f + 1, A, x1, x2, x3, h => wX5_counted_b16 hN C hr (fun {A} {x1} {x2} {x3} h => wX5_counted_L16 hN C hr f h) h
set_option maxHeartbeats 2000000 in
set_option maxRecDepth 20000 in
theorem wX5_counted_b0 (hN : 183 ≤ N) {A0 A' : gM} {r : Int32} (C : gC p R s m args meth c cX5_counted RX5 4 D g (va_A (gw g ad ln A0 N) s.heap.size) 1) (hr : meth.sig.returnType = some .int)  {A : gM} {x1 : Int32} (h : mX5_counted_b0 A x1 = some (A', r)) : gJ p l e R s m args below meth c (gEi below D g N ad ln A0 A' r args s) 4 D g (va_A (gw g ad ln A0 N) s.heap.size) N ad ln A [(0, gr 0), (1, gi x1)] 0 0 0 [] := by
  unfold mX5_counted_b0 at h
  refine g_iload_n C 1 dX5_counted_0 rfl ?_
  refine g_if_ne C dX5_counted_1 (tgt := 12) (by decide) (fun c1 => ?_) (fun c1 => ?_)
  · have h := g_ff c1 h
    refine g_iconst (v := 0) C dX5_counted_12 (by decide) ?_
    refine g_istore_n C dX5_counted_13 (by decide) rfl ?_
    refine g_iconst (v := 0) C dX5_counted_14 (by decide) ?_
    refine g_istore_n C dX5_counted_15 (by decide) rfl ?_
    refine g_sub [2, 3, 1, 0] rfl ?_
    exact wX5_counted_L16 hN C hr gF h
  · have h := g_tt c1 h
    refine g_aload_n C 0 dX5_counted_4 rfl ?_
    refine g_get (v := gr 1) C 0 0 (by omega) rfl rfl gu_5 (by decide) qf_X5_10 rfl dX5_counted_5 ?_
    obtain ⟨q2, eq2, h⟩ := g_bd h
    refine g_calliV C 1 [] (kX2_made hN eq2) qs_X5_42 (by omega) (by omega) rfl rfl rfl rfl (Nat.le_of_ble_eq_true rfl) ⟨Nat.zero_le _, Nat.zero_le _⟩ dX5_counted_8 ?_
    obtain ⟨rfl, rfl⟩ := Prod.mk.inj (Option.some.inj h)
    exact g_reti C hr dX5_counted_11

set_option maxHeartbeats 2000000 in
set_option maxRecDepth 20000 in
theorem kX5_counted {l : Launch} {D : va_G} {g : gT} {N : Nat} {ad ln : Nat → Nat} (hN : 183 ≤ N) {A A' : gM} {x1 : Int32} {r : Int32} (h : mX5_counted A x1 = some (A', r)) : gKi l yX5_counted cX5_counted 4 (some .int) (1) D g N ad ln A [gr 0, gi x1] A' r := by
  refine g_meti (by decide) (Nat.le_of_ble_eq_true rfl) ?_
  intro p e s m args below meth c C hr
  refine g_sub [0, 1] rfl ?_
  exact wX5_counted_b0 hN C hr h
def mX5_bothTyped_b29 (A : gM) (s0 : Int32) : Option (gM × Int32) :=
  if (s0 : Int32) = 0 ∨ (s0 : Int32) = 1 then some (A, s0) else none
def mX5_bothTyped_b28 (A : gM) : Option (gM × Int32) :=
  mX5_bothTyped_b29 A 0
def mX5_bothTyped_b0 (A : gM) (x1 : Int32) (x2 : Int32) : Option (gM × Int32) :=
  (mX3_fact A x1 0).bind fun q1 =>
  if q1.2 = 0 then
  (mX3_fact q1.1 x2 0).bind fun q3 =>
  if q3.2 = 0 then
  mX5_bothTyped_b29 q3.1 1
  else
  mX5_bothTyped_b28 q3.1
  else
  mX5_bothTyped_b28 q1.1
def mX5_bothTyped (A : gM) (x1 : Int32) (x2 : Int32) : Option (gM × Int32) := mX5_bothTyped_b0 A x1 x2
set_option maxHeartbeats 2000000 in
set_option maxRecDepth 20000 in
theorem wX5_bothTyped_b29 (hN : 183 ≤ N) {A0 A' : gM} {r : Int32} (C : gC p R s m args meth c cX5_bothTyped RX5 3 D g (va_A (gw g ad ln A0 N) s.heap.size) 1) (hr : meth.sig.returnType = some .boolean)  {A : gM} {s0 : Int32} (h : mX5_bothTyped_b29 A s0 = some (A', r)) : gJ p l e R s m args below meth c (gEi below D g N ad ln A0 A' r args s) 3 D g (va_A (gw g ad ln A0 N) s.heap.size) N ad ln A [] 0 0 29 [gi s0] := by
  unfold mX5_bothTyped_b29 at h
  obtain ⟨hz1, h⟩ := g_gd h
  obtain ⟨rfl, rfl⟩ := Prod.mk.inj (Option.some.inj h)
  exact g_retz C hr hz1 dX5_bothTyped_29

set_option maxHeartbeats 2000000 in
set_option maxRecDepth 20000 in
theorem wX5_bothTyped_b28 (hN : 183 ≤ N) {A0 A' : gM} {r : Int32} (C : gC p R s m args meth c cX5_bothTyped RX5 3 D g (va_A (gw g ad ln A0 N) s.heap.size) 1) (hr : meth.sig.returnType = some .boolean)  {A : gM} (h : mX5_bothTyped_b28 A = some (A', r)) : gJ p l e R s m args below meth c (gEi below D g N ad ln A0 A' r args s) 3 D g (va_A (gw g ad ln A0 N) s.heap.size) N ad ln A [] 0 0 28 [] := by
  unfold mX5_bothTyped_b28 at h
  refine g_iconst (v := 0) C dX5_bothTyped_28 (by decide) ?_
  refine g_sub [] rfl ?_
  exact wX5_bothTyped_b29 hN C hr h

set_option maxHeartbeats 2000000 in
set_option maxRecDepth 20000 in
theorem wX5_bothTyped_b0 (hN : 183 ≤ N) {A0 A' : gM} {r : Int32} (C : gC p R s m args meth c cX5_bothTyped RX5 3 D g (va_A (gw g ad ln A0 N) s.heap.size) 1) (hr : meth.sig.returnType = some .boolean)  {A : gM} {x1 : Int32} {x2 : Int32} (h : mX5_bothTyped_b0 A x1 x2 = some (A', r)) : gJ p l e R s m args below meth c (gEi below D g N ad ln A0 A' r args s) 3 D g (va_A (gw g ad ln A0 N) s.heap.size) N ad ln A [(0, gr 0), (1, gi x1), (2, gi x2)] 0 0 0 [] := by
  unfold mX5_bothTyped_b0 at h
  refine g_aload_n C 0 dX5_bothTyped_0 rfl ?_
  refine g_get (v := gr 43) C 0 1 (by omega) rfl rfl gu_5 (by decide) qf_X5_19 rfl dX5_bothTyped_1 ?_
  refine g_iload_n C 1 dX5_bothTyped_4 rfl ?_
  refine g_iconst (v := 0) C dX5_bothTyped_5 (by decide) ?_
  obtain ⟨q1, eq1, h⟩ := g_bd h
  refine g_calliV C 43 [gi x1, gi 0] (kX3_fact hN eq1) qs_X5_60 (by omega) (by omega) rfl rfl rfl rfl (Nat.le_of_ble_eq_true rfl) ⟨Nat.zero_le _, Nat.zero_le _⟩ dX5_bothTyped_6 ?_
  refine g_if_ne C dX5_bothTyped_9 (tgt := 28) (by decide) (fun c2 => ?_) (fun c2 => ?_)
  · have h := g_ff c2 h
    refine g_sub [] rfl ?_
    exact wX5_bothTyped_b28 hN C hr h
  · have h := g_tt c2 h
    refine g_aload_n C 0 dX5_bothTyped_12 rfl ?_
    refine g_get (v := gr 43) C 0 1 (by omega) rfl rfl gu_5 (by decide) qf_X5_19 rfl dX5_bothTyped_13 ?_
    refine g_iload_n C 2 dX5_bothTyped_16 rfl ?_
    refine g_iconst (v := 0) C dX5_bothTyped_17 (by decide) ?_
    obtain ⟨q3, eq3, h⟩ := g_bd h
    refine g_calliV C 43 [gi x2, gi 0] (kX3_fact hN eq3) qs_X5_60 (by omega) (by omega) rfl rfl rfl rfl (Nat.le_of_ble_eq_true rfl) ⟨Nat.zero_le _, Nat.zero_le _⟩ dX5_bothTyped_18 ?_
    refine g_if_ne C dX5_bothTyped_21 (tgt := 28) (by decide) (fun c4 => ?_) (fun c4 => ?_)
    · have h := g_ff c4 h
      refine g_sub [] rfl ?_
      exact wX5_bothTyped_b28 hN C hr h
    · have h := g_tt c4 h
      refine g_iconst (v := 1) C dX5_bothTyped_24 (by decide) ?_
      refine g_goto C dX5_bothTyped_25 (tgt := 29) (by decide) ?_
      refine g_sub [] rfl ?_
      exact wX5_bothTyped_b29 hN C hr h

set_option maxHeartbeats 2000000 in
set_option maxRecDepth 20000 in
theorem kX5_bothTyped {l : Launch} {D : va_G} {g : gT} {N : Nat} {ad ln : Nat → Nat} (hN : 183 ≤ N) {A A' : gM} {x1 : Int32} {x2 : Int32} {r : Int32} (h : mX5_bothTyped A x1 x2 = some (A', r)) : gKi l yX5_bothTyped cX5_bothTyped 3 (some .boolean) (1) D g N ad ln A [gr 0, gi x1, gi x2] A' r := by
  refine g_meti (by decide) (Nat.le_of_ble_eq_true rfl) ?_
  intro p e s m args below meth c C hr
  refine g_sub [0, 1, 2] rfl ?_
  exact wX5_bothTyped_b0 hN C hr h
def mX5_faultOfTurning_b45 (A : gM) (s0 : Int32) : Option (gM × Int32) :=
  some (A, s0)
def mX5_faultOfTurning_b24 (A : gM) (x1 : Int32) (x2 : Int32) (x3 : Int32) : Option (gM × Int32) :=
  if x3 = 0 then
  (mX0_faultOfTurning A x1 x2).bind fun q2 =>
  mX5_faultOfTurning_b45 q2.1 q2.2
  else
  mX5_faultOfTurning_b45 A x3
def mX5_faultOfTurning_b0 (A : gM) (x1 : Int32) (x2 : Int32) : Option (gM × Int32) :=
  (mX3_fact A x1 0).bind fun q1 =>
  if q1.2 = 0 then
  (mX3_fact q1.1 x2 0).bind fun q3 =>
  mX5_faultOfTurning_b24 q3.1 x1 x2 q3.2
  else
  mX5_faultOfTurning_b24 q1.1 x1 x2 q1.2
def mX5_faultOfTurning (A : gM) (x1 : Int32) (x2 : Int32) : Option (gM × Int32) := mX5_faultOfTurning_b0 A x1 x2
set_option maxHeartbeats 2000000 in
set_option maxRecDepth 20000 in
theorem wX5_faultOfTurning_b45 (hN : 183 ≤ N) {A0 A' : gM} {r : Int32} (C : gC p R s m args meth c cX5_faultOfTurning RX5 4 D g (va_A (gw g ad ln A0 N) s.heap.size) 6) (hr : meth.sig.returnType = some .int)  {A : gM} {s0 : Int32} (h : mX5_faultOfTurning_b45 A s0 = some (A', r)) : gJ p l e R s m args below meth c (gEi below D g N ad ln A0 A' r args s) 4 D g (va_A (gw g ad ln A0 N) s.heap.size) N ad ln A [] 0 0 45 [gi s0] := by
  unfold mX5_faultOfTurning_b45 at h
  obtain ⟨rfl, rfl⟩ := Prod.mk.inj (Option.some.inj h)
  exact g_reti C hr dX5_faultOfTurning_45

set_option maxHeartbeats 2000000 in
set_option maxRecDepth 20000 in
theorem wX5_faultOfTurning_b24 (hN : 183 ≤ N) {A0 A' : gM} {r : Int32} (C : gC p R s m args meth c cX5_faultOfTurning RX5 4 D g (va_A (gw g ad ln A0 N) s.heap.size) 6) (hr : meth.sig.returnType = some .int)  {A : gM} {x1 : Int32} {x2 : Int32} {x3 : Int32} (h : mX5_faultOfTurning_b24 A x1 x2 x3 = some (A', r)) : gJ p l e R s m args below meth c (gEi below D g N ad ln A0 A' r args s) 4 D g (va_A (gw g ad ln A0 N) s.heap.size) N ad ln A [(0, gr 0), (1, gi x1), (2, gi x2), (3, gi x3)] 0 0 24 [] := by
  unfold mX5_faultOfTurning_b24 at h
  refine g_iload_n C 3 dX5_faultOfTurning_24 rfl ?_
  refine g_if_ne C dX5_faultOfTurning_25 (tgt := 44) (by decide) (fun c1 => ?_) (fun c1 => ?_)
  · have h := g_ff c1 h
    refine g_iload_n C 3 dX5_faultOfTurning_44 rfl ?_
    refine g_sub [] rfl ?_
    exact wX5_faultOfTurning_b45 hN C hr h
  · have h := g_tt c1 h
    refine g_aload_n C 0 dX5_faultOfTurning_28 rfl ?_
    refine g_get (v := gr 128) C 0 2 (by omega) rfl rfl gu_5 (by decide) qf_X5_26 rfl dX5_faultOfTurning_29 ?_
    refine g_aload_n C 0 dX5_faultOfTurning_32 rfl ?_
    refine g_get (v := gr 43) C 0 1 (by omega) rfl rfl gu_5 (by decide) qf_X5_19 rfl dX5_faultOfTurning_33 ?_
    refine g_iload_n C 1 dX5_faultOfTurning_36 rfl ?_
    refine g_iload_n C 2 dX5_faultOfTurning_37 rfl ?_
    obtain ⟨q2, eq2, h⟩ := g_bd h
    refine g_calliV C 128 [gr 43, gi x1, gi x2] (kX0_faultOfTurning hN eq2) qs_X5_102 (by omega) (by omega) rfl rfl rfl rfl (Nat.le_of_ble_eq_true rfl) ⟨Nat.zero_le _, Nat.zero_le _⟩ dX5_faultOfTurning_38 ?_
    refine g_goto C dX5_faultOfTurning_41 (tgt := 45) (by decide) ?_
    refine g_sub [] rfl ?_
    exact wX5_faultOfTurning_b45 hN C hr h

set_option maxHeartbeats 2000000 in
set_option maxRecDepth 20000 in
theorem wX5_faultOfTurning_b0 (hN : 183 ≤ N) {A0 A' : gM} {r : Int32} (C : gC p R s m args meth c cX5_faultOfTurning RX5 4 D g (va_A (gw g ad ln A0 N) s.heap.size) 6) (hr : meth.sig.returnType = some .int)  {A : gM} {x1 : Int32} {x2 : Int32} (h : mX5_faultOfTurning_b0 A x1 x2 = some (A', r)) : gJ p l e R s m args below meth c (gEi below D g N ad ln A0 A' r args s) 4 D g (va_A (gw g ad ln A0 N) s.heap.size) N ad ln A [(0, gr 0), (1, gi x1), (2, gi x2)] 0 0 0 [] := by
  unfold mX5_faultOfTurning_b0 at h
  refine g_aload_n C 0 dX5_faultOfTurning_0 rfl ?_
  refine g_get (v := gr 43) C 0 1 (by omega) rfl rfl gu_5 (by decide) qf_X5_19 rfl dX5_faultOfTurning_1 ?_
  refine g_iload_n C 1 dX5_faultOfTurning_4 rfl ?_
  refine g_iconst (v := 0) C dX5_faultOfTurning_5 (by decide) ?_
  obtain ⟨q1, eq1, h⟩ := g_bd h
  refine g_calliV C 43 [gi x1, gi 0] (kX3_fact hN eq1) qs_X5_60 (by omega) (by omega) rfl rfl rfl rfl (Nat.le_of_ble_eq_true rfl) ⟨Nat.zero_le _, Nat.zero_le _⟩ dX5_faultOfTurning_6 ?_
  refine g_istore_n C dX5_faultOfTurning_9 (by decide) rfl ?_
  refine g_iload_n C 0 dX5_faultOfTurning_10 rfl ?_
  refine g_if_ne C dX5_faultOfTurning_11 (tgt := 24) (by decide) (fun c2 => ?_) (fun c2 => ?_)
  · have h := g_ff c2 h
    refine g_sub [1, 2, 3, 0] rfl ?_
    exact wX5_faultOfTurning_b24 hN C hr h
  · have h := g_tt c2 h
    refine g_aload_n C 1 dX5_faultOfTurning_14 rfl ?_
    refine g_get (v := gr 43) C 0 1 (by omega) rfl rfl gu_5 (by decide) qf_X5_19 rfl dX5_faultOfTurning_15 ?_
    refine g_iload_n C 3 dX5_faultOfTurning_18 rfl ?_
    refine g_iconst (v := 0) C dX5_faultOfTurning_19 (by decide) ?_
    obtain ⟨q3, eq3, h⟩ := g_bd h
    refine g_calliV C 43 [gi x2, gi 0] (kX3_fact hN eq3) qs_X5_60 (by omega) (by omega) rfl rfl rfl rfl (Nat.le_of_ble_eq_true rfl) ⟨Nat.zero_le _, Nat.zero_le _⟩ dX5_faultOfTurning_20 ?_
    refine g_istore_n C dX5_faultOfTurning_23 (by decide) rfl ?_
    refine g_sub [1, 2, 3, 0] rfl ?_
    exact wX5_faultOfTurning_b24 hN C hr h

set_option maxHeartbeats 2000000 in
set_option maxRecDepth 20000 in
theorem kX5_faultOfTurning {l : Launch} {D : va_G} {g : gT} {N : Nat} {ad ln : Nat → Nat} (hN : 183 ≤ N) {A A' : gM} {x1 : Int32} {x2 : Int32} {r : Int32} (h : mX5_faultOfTurning A x1 x2 = some (A', r)) : gKi l yX5_faultOfTurning cX5_faultOfTurning 4 (some .int) (6) D g N ad ln A [gr 0, gi x1, gi x2] A' r := by
  refine g_meti (by decide) (Nat.le_of_ble_eq_true rfl) ?_
  intro p e s m args below meth c C hr
  refine g_sub [0, 1, 2] rfl ?_
  exact wX5_faultOfTurning_b0 hN C hr h
def mX5_needPlace_b9 (A : gM) : Option (gM × (Int32 ⊕ Nat)) :=
  some (A, .inr 0)
def mX5_needPlace_b0 (A : gM) (x1 : Int32) (x2 : Int32) : Option (gM × (Int32 ⊕ Nat)) :=
  if x1 < 0 then
  mX5_needPlace_b9 A
  else
  if x1 < x2 then
  some (A, .inl 0)
  else
  mX5_needPlace_b9 A
def mX5_needPlace (A : gM) (x1 : Int32) (x2 : Int32) : Option (gM × (Int32 ⊕ Nat)) := mX5_needPlace_b0 A x1 x2
set_option maxHeartbeats 2000000 in
set_option maxRecDepth 20000 in
theorem wX5_needPlace_b9 (hN : 183 ≤ N) {A0 A' : gM} {res : Int32 ⊕ Nat} (C : gC p (g_rmx 6 1 (6 * 1)) s m args meth c cX5_needPlace RX5 3 D g (va_A (gw g ad ln A0 N) s.heap.size) 6) (CX : gCX l s c (va_A (gw g ad ln A0 N) s.heap.size)) (hr : meth.sig.returnType = none)  {A : gM} (h : mX5_needPlace_b9 A = some (A', res)) : gJ p l e (g_rmx 6 1 (6 * 1)) s m args below meth c (gEXv below D g N ad ln A0 A' res 1 args s) 3 D g (va_A (gw g ad ln A0 N) s.heap.size) N ad ln A [] 0 0 9 [] := by
  unfold mX5_needPlace_b9 at h
  obtain ⟨rfl, hres⟩ := Prod.mk.inj (Option.some.inj h)
  exact g_throwv C CX 0 (by decide) qtk_X5_85 qti_0 qtg_X5_85 qtn_X5_85 qto_X5_85 hres.symm (by decide) (Nat.le_of_ble_eq_true rfl) ⟨Nat.le_of_ble_eq_true rfl, Nat.le_of_ble_eq_true rfl⟩ ⟨Nat.le_of_ble_eq_true rfl, Nat.le_of_ble_eq_true rfl⟩ dX5_needPlace_9 dX5_needPlace_12 dX5_needPlace_13 dX5_needPlace_16

set_option maxHeartbeats 2000000 in
set_option maxRecDepth 20000 in
theorem wX5_needPlace_b0 (hN : 183 ≤ N) {A0 A' : gM} {res : Int32 ⊕ Nat} (C : gC p (g_rmx 6 1 (6 * 1)) s m args meth c cX5_needPlace RX5 3 D g (va_A (gw g ad ln A0 N) s.heap.size) 6) (CX : gCX l s c (va_A (gw g ad ln A0 N) s.heap.size)) (hr : meth.sig.returnType = none)  {A : gM} {x1 : Int32} {x2 : Int32} (h : mX5_needPlace_b0 A x1 x2 = some (A', res)) : gJ p l e (g_rmx 6 1 (6 * 1)) s m args below meth c (gEXv below D g N ad ln A0 A' res 1 args s) 3 D g (va_A (gw g ad ln A0 N) s.heap.size) N ad ln A [(1, gi x1), (2, gi x2)] 0 0 0 [] := by
  unfold mX5_needPlace_b0 at h
  refine g_iload_n C 0 dX5_needPlace_0 rfl ?_
  refine g_if_lt C dX5_needPlace_1 (tgt := 9) (by decide) (fun c1 => ?_) (fun c1 => ?_)
  · have h := g_tt c1 h
    refine g_sub [] rfl ?_
    refine g_widen (k2 := 0) (n2 := 0) (Nat.le_of_ble_eq_true rfl) (Nat.le_of_ble_eq_true rfl) ?_
    exact wX5_needPlace_b9 hN C CX hr h
  · have h := g_ff c1 h
    refine g_iload_n C 0 dX5_needPlace_4 rfl ?_
    refine g_iload_n C 1 dX5_needPlace_5 rfl ?_
    refine g_icmp_lt C dX5_needPlace_6 (tgt := 17) (by decide) (fun c2 => ?_) (fun c2 => ?_)
    · have h := g_tt c2 h
      obtain ⟨rfl, hres⟩ := Prod.mk.inj (Option.some.inj h)
      exact g_retXv C hres.symm (Nat.le_of_ble_eq_true rfl) (Nat.le_of_ble_eq_true rfl) hr dX5_needPlace_17
    · have h := g_ff c2 h
      refine g_sub [] rfl ?_
      refine g_widen (k2 := 0) (n2 := 0) (Nat.le_of_ble_eq_true rfl) (Nat.le_of_ble_eq_true rfl) ?_
      exact wX5_needPlace_b9 hN C CX hr h

set_option maxHeartbeats 2000000 in
set_option maxRecDepth 20000 in
theorem kX5_needPlace {l : Launch} {D : va_G} {g : gT} {N : Nat} {ad ln : Nat → Nat} (hN : 183 ≤ N) (hl : l.stackTraces = false) {A A' : gM} {x1 : Int32} {x2 : Int32} {res : Int32 ⊕ Nat} (h : mX5_needPlace A x1 x2 = some (A', res)) : gXv l yX5_needPlace cX5_needPlace 3 (none) (6) 1 D g N ad ln A [gr 0, gi x1, gi x2] A' res := by
  refine g_metXv hl (by decide) (Nat.le_of_ble_eq_true rfl) ?_
  intro p e s m args below meth c C CX hr
  refine g_sub [1, 2] rfl ?_
  exact wX5_needPlace_b0 hN C CX hr h
def mX5_needPart_b0 (A : gM) (x1 : Int32) : Option (gM × (Int32 ⊕ Nat)) :=
  (mX2_made A).bind fun q1 =>
  (mX5_needPlace q1.1 x1 q1.2).bind fun q2 => g_tr q2 fun _ =>
  some (q2.1, .inl 0)
def mX5_needPart (A : gM) (x1 : Int32) : Option (gM × (Int32 ⊕ Nat)) := mX5_needPart_b0 A x1
set_option maxHeartbeats 2000000 in
set_option maxRecDepth 20000 in
theorem wX5_needPart_b0 (hN : 183 ≤ N) {A0 A' : gM} {res : Int32 ⊕ Nat} (C : gC p (g_rmx 7 1 (6 * 1)) s m args meth c cX5_needPart RX5 2 D g (va_A (gw g ad ln A0 N) s.heap.size) 7) (CX : gCX l s c (va_A (gw g ad ln A0 N) s.heap.size)) (hr : meth.sig.returnType = none)  {A : gM} {x1 : Int32} (h : mX5_needPart_b0 A x1 = some (A', res)) : gJ p l e (g_rmx 7 1 (6 * 1)) s m args below meth c (gEXv below D g N ad ln A0 A' res 1 args s) 2 D g (va_A (gw g ad ln A0 N) s.heap.size) N ad ln A [(0, gr 0), (1, gi x1)] 0 0 0 [] := by
  unfold mX5_needPart_b0 at h
  refine g_aload_n C 0 dX5_needPart_0 rfl ?_
  refine g_iload_n C 1 dX5_needPart_1 rfl ?_
  refine g_aload_n C 0 dX5_needPart_2 rfl ?_
  refine g_get (v := gr 1) C 0 0 (by omega) rfl rfl gu_5 (by decide) qf_X5_10 rfl dX5_needPart_3 ?_
  obtain ⟨q1, eq1, h⟩ := g_bd h
  refine g_calliV C 1 [] (kX2_made hN eq1) qs_X5_42 (by omega) (by omega) rfl rfl rfl rfl (Nat.le_of_ble_eq_true rfl) ⟨Nat.le_of_ble_eq_true rfl, Nat.le_of_ble_eq_true rfl⟩ dX5_needPart_6 ?_
  obtain ⟨q2, eq2, h⟩ := g_bd h
  refine g_callvXv C CX 0 [gi x1, gi q1.2] (kX5_needPlace hN CX.1 eq2) qs_X5_52 (by omega) (by omega) rfl rfl rfl rfl (Nat.le_of_ble_eq_true rfl) ⟨Nat.le_of_ble_eq_true rfl, Nat.le_of_ble_eq_true rfl⟩ ⟨Nat.le_of_ble_eq_true rfl, Nat.le_of_ble_eq_true rfl⟩ dX5_needPart_9 (fun k hk => g_trx h hk) (fun r3 hr3 => ?_)
  have h := g_trr h hr3
  obtain ⟨rfl, hres⟩ := Prod.mk.inj (Option.some.inj h)
  exact g_retXv C hres.symm (Nat.le_of_ble_eq_true rfl) (Nat.le_of_ble_eq_true rfl) hr dX5_needPart_12

set_option maxHeartbeats 2000000 in
set_option maxRecDepth 20000 in
theorem kX5_needPart {l : Launch} {D : va_G} {g : gT} {N : Nat} {ad ln : Nat → Nat} (hN : 183 ≤ N) (hl : l.stackTraces = false) {A A' : gM} {x1 : Int32} {res : Int32 ⊕ Nat} (h : mX5_needPart A x1 = some (A', res)) : gXv l yX5_needPart cX5_needPart 2 (none) (7) 1 D g N ad ln A [gr 0, gi x1] A' res := by
  refine g_metXv hl (by decide) (Nat.le_of_ble_eq_true rfl) ?_
  intro p e s m args below meth c C CX hr
  refine g_sub [0, 1] rfl ?_
  exact wX5_needPart_b0 hN C CX hr h
def mX5_needBetween_b10 (A : gM) : Option (gM × (Int32 ⊕ Nat)) :=
  some (A, .inr 1)
def mX5_needBetween_b0 (A : gM) (x1 : Int32) (x2 : Int32) (x3 : Int32) : Option (gM × (Int32 ⊕ Nat)) :=
  if x1 < x2 then
  mX5_needBetween_b10 A
  else
  if x1 ≤ x3 then
  some (A, .inl 0)
  else
  mX5_needBetween_b10 A
def mX5_needBetween (A : gM) (x1 : Int32) (x2 : Int32) (x3 : Int32) : Option (gM × (Int32 ⊕ Nat)) := mX5_needBetween_b0 A x1 x2 x3
set_option maxHeartbeats 2000000 in
set_option maxRecDepth 20000 in
theorem wX5_needBetween_b10 (hN : 183 ≤ N) {A0 A' : gM} {res : Int32 ⊕ Nat} (C : gC p (g_rmx 6 1 (6 * 1)) s m args meth c cX5_needBetween RX5 4 D g (va_A (gw g ad ln A0 N) s.heap.size) 6) (CX : gCX l s c (va_A (gw g ad ln A0 N) s.heap.size)) (hr : meth.sig.returnType = none)  {A : gM} (h : mX5_needBetween_b10 A = some (A', res)) : gJ p l e (g_rmx 6 1 (6 * 1)) s m args below meth c (gEXv below D g N ad ln A0 A' res 1 args s) 4 D g (va_A (gw g ad ln A0 N) s.heap.size) N ad ln A [] 0 0 10 [] := by
  unfold mX5_needBetween_b10 at h
  obtain ⟨rfl, hres⟩ := Prod.mk.inj (Option.some.inj h)
  exact g_throwv C CX 1 (by decide) qtk_X5_88 qti_1 qtg_X5_88 qtn_X5_88 qto_X5_88 hres.symm (by decide) (Nat.le_of_ble_eq_true rfl) ⟨Nat.le_of_ble_eq_true rfl, Nat.le_of_ble_eq_true rfl⟩ ⟨Nat.le_of_ble_eq_true rfl, Nat.le_of_ble_eq_true rfl⟩ dX5_needBetween_10 dX5_needBetween_13 dX5_needBetween_14 dX5_needBetween_17

set_option maxHeartbeats 2000000 in
set_option maxRecDepth 20000 in
theorem wX5_needBetween_b0 (hN : 183 ≤ N) {A0 A' : gM} {res : Int32 ⊕ Nat} (C : gC p (g_rmx 6 1 (6 * 1)) s m args meth c cX5_needBetween RX5 4 D g (va_A (gw g ad ln A0 N) s.heap.size) 6) (CX : gCX l s c (va_A (gw g ad ln A0 N) s.heap.size)) (hr : meth.sig.returnType = none)  {A : gM} {x1 : Int32} {x2 : Int32} {x3 : Int32} (h : mX5_needBetween_b0 A x1 x2 x3 = some (A', res)) : gJ p l e (g_rmx 6 1 (6 * 1)) s m args below meth c (gEXv below D g N ad ln A0 A' res 1 args s) 4 D g (va_A (gw g ad ln A0 N) s.heap.size) N ad ln A [(1, gi x1), (2, gi x2), (3, gi x3)] 0 0 0 [] := by
  unfold mX5_needBetween_b0 at h
  refine g_iload_n C 0 dX5_needBetween_0 rfl ?_
  refine g_iload_n C 1 dX5_needBetween_1 rfl ?_
  refine g_icmp_lt C dX5_needBetween_2 (tgt := 10) (by decide) (fun c1 => ?_) (fun c1 => ?_)
  · have h := g_tt c1 h
    refine g_sub [] rfl ?_
    refine g_widen (k2 := 0) (n2 := 0) (Nat.le_of_ble_eq_true rfl) (Nat.le_of_ble_eq_true rfl) ?_
    exact wX5_needBetween_b10 hN C CX hr h
  · have h := g_ff c1 h
    refine g_iload_n C 0 dX5_needBetween_5 rfl ?_
    refine g_iload_n C 2 dX5_needBetween_6 rfl ?_
    refine g_icmp_le C dX5_needBetween_7 (tgt := 18) (by decide) (fun c2 => ?_) (fun c2 => ?_)
    · have h := g_tt c2 h
      obtain ⟨rfl, hres⟩ := Prod.mk.inj (Option.some.inj h)
      exact g_retXv C hres.symm (Nat.le_of_ble_eq_true rfl) (Nat.le_of_ble_eq_true rfl) hr dX5_needBetween_18
    · have h := g_ff c2 h
      refine g_sub [] rfl ?_
      refine g_widen (k2 := 0) (n2 := 0) (Nat.le_of_ble_eq_true rfl) (Nat.le_of_ble_eq_true rfl) ?_
      exact wX5_needBetween_b10 hN C CX hr h

set_option maxHeartbeats 2000000 in
set_option maxRecDepth 20000 in
theorem kX5_needBetween {l : Launch} {D : va_G} {g : gT} {N : Nat} {ad ln : Nat → Nat} (hN : 183 ≤ N) (hl : l.stackTraces = false) {A A' : gM} {x1 : Int32} {x2 : Int32} {x3 : Int32} {res : Int32 ⊕ Nat} (h : mX5_needBetween A x1 x2 x3 = some (A', res)) : gXv l yX5_needBetween cX5_needBetween 4 (none) (6) 1 D g N ad ln A [gr 0, gi x1, gi x2, gi x3] A' res := by
  refine g_metXv hl (by decide) (Nat.le_of_ble_eq_true rfl) ?_
  intro p e s m args below meth c C CX hr
  refine g_sub [1, 2, 3] rfl ?_
  exact wX5_needBetween_b0 hN C CX hr h
def mX5_add_b33 (A : gM) : Option (gM × (Int32 ⊕ Nat)) :=
  some (A, .inr 2)
def mX5_add_b0 (A : gM) (x1 : Int32) (x2 : Int32) (x3 : Int32) (x4 : Int32) (x5 : Int32) : Option (gM × (Int32 ⊕ Nat)) :=
  (mX2_sizeOver A x3 x4 x5).bind fun q1 =>
  (mX2_made q1.1).bind fun q2 =>
  if 40 ≤ q2.2 then
  mX5_add_b33 q2.1
  else
  if q1.2 ≤ 60 then
  (mX2_append q2.1 x1 x2 x3 x4 x5).bind fun q5 =>
  (mX0_settle q5.1 q5.2).bind fun q6 =>
  some (q6, .inl q5.2)
  else
  mX5_add_b33 q2.1
def mX5_add (A : gM) (x1 : Int32) (x2 : Int32) (x3 : Int32) (x4 : Int32) (x5 : Int32) : Option (gM × (Int32 ⊕ Nat)) := mX5_add_b0 A x1 x2 x3 x4 x5
set_option maxHeartbeats 2000000 in
set_option maxRecDepth 20000 in
theorem wX5_add_b33 (hN : 183 ≤ N) {A0 A' : gM} {res : Int32 ⊕ Nat} (C : gC p (g_rmx 104 1 (6 * 1)) s m args meth c cX5_add RX5 8 D g (va_A (gw g ad ln A0 N) s.heap.size) 104) (CX : gCX l s c (va_A (gw g ad ln A0 N) s.heap.size)) (hr : meth.sig.returnType = some .int)  {A : gM} (h : mX5_add_b33 A = some (A', res)) : gJ p l e (g_rmx 104 1 (6 * 1)) s m args below meth c (gEXi below D g N ad ln A0 A' res 1 args s) 8 D g (va_A (gw g ad ln A0 N) s.heap.size) N ad ln A [] 0 0 33 [] := by
  unfold mX5_add_b33 at h
  obtain ⟨rfl, hres⟩ := Prod.mk.inj (Option.some.inj h)
  exact g_throwi C CX 2 (by decide) qtk_X5_46 qti_2 qtg_X5_46 qtn_X5_46 qto_X5_46 hres.symm (by decide) (Nat.le_of_ble_eq_true rfl) ⟨Nat.le_of_ble_eq_true rfl, Nat.le_of_ble_eq_true rfl⟩ ⟨Nat.le_of_ble_eq_true rfl, Nat.le_of_ble_eq_true rfl⟩ dX5_add_33 dX5_add_36 dX5_add_37 dX5_add_40

set_option maxHeartbeats 2000000 in
set_option maxRecDepth 20000 in
theorem wX5_add_b0 (hN : 183 ≤ N) {A0 A' : gM} {res : Int32 ⊕ Nat} (C : gC p (g_rmx 104 1 (6 * 1)) s m args meth c cX5_add RX5 8 D g (va_A (gw g ad ln A0 N) s.heap.size) 104) (CX : gCX l s c (va_A (gw g ad ln A0 N) s.heap.size)) (hr : meth.sig.returnType = some .int)  {A : gM} {x1 : Int32} {x2 : Int32} {x3 : Int32} {x4 : Int32} {x5 : Int32} (h : mX5_add_b0 A x1 x2 x3 x4 x5 = some (A', res)) : gJ p l e (g_rmx 104 1 (6 * 1)) s m args below meth c (gEXi below D g N ad ln A0 A' res 1 args s) 8 D g (va_A (gw g ad ln A0 N) s.heap.size) N ad ln A [(0, gr 0), (1, gi x1), (2, gi x2), (3, gi x3), (4, gi x4), (5, gi x5)] 0 0 0 [] := by
  unfold mX5_add_b0 at h
  refine g_aload_n C 0 dX5_add_0 rfl ?_
  refine g_get (v := gr 1) C 0 0 (by omega) rfl rfl gu_5 (by decide) qf_X5_10 rfl dX5_add_1 ?_
  refine g_iload_n C 3 dX5_add_4 rfl ?_
  refine g_iload C 4 dX5_add_5 rfl ?_
  refine g_iload C 5 dX5_add_7 rfl ?_
  obtain ⟨q1, eq1, h⟩ := g_bd h
  refine g_calliV C 1 [gi x3, gi x4, gi x5] (kX2_sizeOver hN eq1) qs_X5_91 (by omega) (by omega) rfl rfl rfl rfl (Nat.le_of_ble_eq_true rfl) ⟨Nat.le_of_ble_eq_true rfl, Nat.le_of_ble_eq_true rfl⟩ dX5_add_9 ?_
  refine g_istore C dX5_add_12 (by decide) rfl ?_
  refine g_aload_n C 1 dX5_add_14 rfl ?_
  refine g_get (v := gr 1) C 0 0 (by omega) rfl rfl gu_5 (by decide) qf_X5_10 rfl dX5_add_15 ?_
  obtain ⟨q2, eq2, h⟩ := g_bd h
  refine g_calliV C 1 [] (kX2_made hN eq2) qs_X5_42 (by omega) (by omega) rfl rfl rfl rfl (Nat.le_of_ble_eq_true rfl) ⟨Nat.le_of_ble_eq_true rfl, Nat.le_of_ble_eq_true rfl⟩ dX5_add_18 ?_
  refine g_bipush (v := 40) C dX5_add_21 (by decide) ?_
  refine g_icmp_ge C dX5_add_23 (tgt := 33) (by decide) (fun c3 => ?_) (fun c3 => ?_)
  · have h := g_tt c3 h
    refine g_sub [] rfl ?_
    refine g_widen (k2 := 0) (n2 := 0) (Nat.le_of_ble_eq_true rfl) (Nat.le_of_ble_eq_true rfl) ?_
    exact wX5_add_b33 hN C CX hr h
  · have h := g_ff c3 h
    refine g_iload C 0 dX5_add_26 rfl ?_
    refine g_bipush (v := 60) C dX5_add_28 (by decide) ?_
    refine g_icmp_le C dX5_add_30 (tgt := 41) (by decide) (fun c4 => ?_) (fun c4 => ?_)
    · have h := g_tt c4 h
      refine g_aload_n C 1 dX5_add_41 rfl ?_
      refine g_get (v := gr 1) C 0 0 (by omega) rfl rfl gu_5 (by decide) qf_X5_10 rfl dX5_add_42 ?_
      refine g_iload_n C 2 dX5_add_45 rfl ?_
      refine g_iload_n C 3 dX5_add_46 rfl ?_
      refine g_iload_n C 4 dX5_add_47 rfl ?_
      refine g_iload C 5 dX5_add_48 rfl ?_
      refine g_iload C 6 dX5_add_50 rfl ?_
      obtain ⟨q5, eq5, h⟩ := g_bd h
      refine g_calliV C 1 [gi x1, gi x2, gi x3, gi x4, gi x5] (kX2_append hN eq5) qs_X5_95 (by omega) (by omega) rfl rfl rfl rfl (Nat.le_of_ble_eq_true rfl) ⟨Nat.le_of_ble_eq_true rfl, Nat.le_of_ble_eq_true rfl⟩ dX5_add_52 ?_
      refine g_istore C dX5_add_55 (by decide) rfl ?_
      refine g_aload_n C 2 dX5_add_57 rfl ?_
      refine g_get (v := gr 128) C 0 2 (by omega) rfl rfl gu_5 (by decide) qf_X5_26 rfl dX5_add_58 ?_
      refine g_aload_n C 2 dX5_add_61 rfl ?_
      refine g_get (v := gr 1) C 0 0 (by omega) rfl rfl gu_5 (by decide) qf_X5_10 rfl dX5_add_62 ?_
      refine g_iload C 0 dX5_add_65 rfl ?_
      refine g_aload_n C 2 dX5_add_67 rfl ?_
      refine g_get (v := gr 43) C 0 1 (by omega) rfl rfl gu_5 (by decide) qf_X5_19 rfl dX5_add_68 ?_
      obtain ⟨q6, eq6, h⟩ := g_bd h
      refine g_callvV C 128 [gr 1, gi q5.2, gr 43] (kX0_settle hN eq6) qs_X5_98 (by omega) (by omega) rfl rfl rfl rfl (Nat.le_of_ble_eq_true rfl) ⟨Nat.le_of_ble_eq_true rfl, Nat.le_of_ble_eq_true rfl⟩ dX5_add_71 ?_
      refine g_iload C 0 dX5_add_74 rfl ?_
      obtain ⟨rfl, hres⟩ := Prod.mk.inj (Option.some.inj h)
      exact g_retXi C hres.symm (Nat.le_of_ble_eq_true rfl) (Nat.le_of_ble_eq_true rfl) hr dX5_add_76
    · have h := g_ff c4 h
      refine g_sub [] rfl ?_
      refine g_widen (k2 := 0) (n2 := 0) (Nat.le_of_ble_eq_true rfl) (Nat.le_of_ble_eq_true rfl) ?_
      exact wX5_add_b33 hN C CX hr h

set_option maxHeartbeats 2000000 in
set_option maxRecDepth 20000 in
theorem kX5_add {l : Launch} {D : va_G} {g : gT} {N : Nat} {ad ln : Nat → Nat} (hN : 183 ≤ N) (hl : l.stackTraces = false) {A A' : gM} {x1 : Int32} {x2 : Int32} {x3 : Int32} {x4 : Int32} {x5 : Int32} {res : Int32 ⊕ Nat} (h : mX5_add A x1 x2 x3 x4 x5 = some (A', res)) : gXi l yX5_add cX5_add 8 (some .int) (104) 1 D g N ad ln A [gr 0, gi x1, gi x2, gi x3, gi x4, gi x5] A' res := by
  refine g_metXi hl (by decide) (Nat.le_of_ble_eq_true rfl) ?_
  intro p e s m args below meth c C CX hr
  refine g_sub [0, 1, 2, 3, 4, 5] rfl ?_
  exact wX5_add_b0 hN C CX hr h
def mX5_plain_b17 (A : gM) (s1 : Int32) : Option (gM × (Int32 ⊕ Nat)) :=
  (mX5_add A s1 (-1) (-1) (-1) (-1)).bind fun q1 => g_tr q1 fun r2 =>
  some (q1.1, .inl r2)
def mX5_plain_b0 (A : gM) (x1 : Int32) : Option (gM × (Int32 ⊕ Nat)) :=
  (mX5_needBetween A x1 0 1).bind fun q1 => g_tr q1 fun _ =>
  if x1 = 0 then
  mX5_plain_b17 q1.1 0
  else
  mX5_plain_b17 q1.1 1
def mX5_plain (A : gM) (x1 : Int32) : Option (gM × (Int32 ⊕ Nat)) := mX5_plain_b0 A x1
set_option maxHeartbeats 2000000 in
set_option maxRecDepth 20000 in
theorem wX5_plain_b17 (hN : 183 ≤ N) {A0 A' : gM} {res : Int32 ⊕ Nat} (C : gC p (g_rmx 105 2 (6 * 2)) s m args meth c cX5_plain RX5 2 D g (va_A (gw g ad ln A0 N) s.heap.size) 105) (CX : gCX l s c (va_A (gw g ad ln A0 N) s.heap.size)) (hr : meth.sig.returnType = some .int)  {A : gM} {s1 : Int32} (h : mX5_plain_b17 A s1 = some (A', res)) : gJ p l e (g_rmx 105 2 (6 * 2)) s m args below meth c (gEXi below D g N ad ln A0 A' res 2 args s) 2 D g (va_A (gw g ad ln A0 N) s.heap.size) N ad ln A [] 1 6 17 [gi s1, gr 0] := by
  unfold mX5_plain_b17 at h
  refine g_iconst (v := (-1)) C dX5_plain_17 (by decide) ?_
  refine g_iconst (v := (-1)) C dX5_plain_18 (by decide) ?_
  refine g_iconst (v := (-1)) C dX5_plain_19 (by decide) ?_
  refine g_iconst (v := (-1)) C dX5_plain_20 (by decide) ?_
  obtain ⟨q1, eq1, h⟩ := g_bd h
  refine g_calliXi C CX 0 [gi s1, gi (-1), gi (-1), gi (-1), gi (-1)] (kX5_add hN CX.1 eq1) qs_X5_34 (by omega) (by omega) rfl rfl rfl rfl (Nat.le_of_ble_eq_true rfl) ⟨Nat.le_of_ble_eq_true rfl, Nat.le_of_ble_eq_true rfl⟩ ⟨Nat.le_of_ble_eq_true rfl, Nat.le_of_ble_eq_true rfl⟩ dX5_plain_21 (fun k hk => g_trx h hk) (fun r2 hr2 => ?_)
  have h := g_trr h hr2
  obtain ⟨rfl, hres⟩ := Prod.mk.inj (Option.some.inj h)
  exact g_retXi C hres.symm (Nat.le_of_ble_eq_true rfl) (Nat.le_of_ble_eq_true rfl) hr dX5_plain_24

set_option maxHeartbeats 2000000 in
set_option maxRecDepth 20000 in
theorem wX5_plain_b0 (hN : 183 ≤ N) {A0 A' : gM} {res : Int32 ⊕ Nat} (C : gC p (g_rmx 105 2 (6 * 2)) s m args meth c cX5_plain RX5 2 D g (va_A (gw g ad ln A0 N) s.heap.size) 105) (CX : gCX l s c (va_A (gw g ad ln A0 N) s.heap.size)) (hr : meth.sig.returnType = some .int)  {A : gM} {x1 : Int32} (h : mX5_plain_b0 A x1 = some (A', res)) : gJ p l e (g_rmx 105 2 (6 * 2)) s m args below meth c (gEXi below D g N ad ln A0 A' res 2 args s) 2 D g (va_A (gw g ad ln A0 N) s.heap.size) N ad ln A [(0, gr 0), (1, gi x1)] 0 0 0 [] := by
  unfold mX5_plain_b0 at h
  refine g_aload_n C 0 dX5_plain_0 rfl ?_
  refine g_iload_n C 1 dX5_plain_1 rfl ?_
  refine g_iconst (v := 0) C dX5_plain_2 (by decide) ?_
  refine g_iconst (v := 1) C dX5_plain_3 (by decide) ?_
  obtain ⟨q1, eq1, h⟩ := g_bd h
  refine g_callvXi C CX 0 [gi x1, gi 0, gi 1] (kX5_needBetween hN CX.1 eq1) qs_X5_30 (by omega) (by omega) rfl rfl rfl rfl (Nat.le_of_ble_eq_true rfl) ⟨Nat.le_of_ble_eq_true rfl, Nat.le_of_ble_eq_true rfl⟩ ⟨Nat.le_of_ble_eq_true rfl, Nat.le_of_ble_eq_true rfl⟩ dX5_plain_4 (fun k hk => g_trx h hk) (fun r2 hr2 => ?_)
  have h := g_trr h hr2
  refine g_aload_n C 0 dX5_plain_7 rfl ?_
  refine g_iload_n C 1 dX5_plain_8 rfl ?_
  refine g_if_ne C dX5_plain_9 (tgt := 16) (by decide) (fun c3 => ?_) (fun c3 => ?_)
  · have h := g_ff c3 h
    refine g_iconst (v := 1) C dX5_plain_16 (by decide) ?_
    refine g_sub [] rfl ?_
    refine g_widen (k2 := 1) (n2 := 6) (Nat.le_of_ble_eq_true rfl) (Nat.le_of_ble_eq_true rfl) ?_
    exact wX5_plain_b17 hN C CX hr h
  · have h := g_tt c3 h
    refine g_iconst (v := 0) C dX5_plain_12 (by decide) ?_
    refine g_goto C dX5_plain_13 (tgt := 17) (by decide) ?_
    refine g_sub [] rfl ?_
    refine g_widen (k2 := 1) (n2 := 6) (Nat.le_of_ble_eq_true rfl) (Nat.le_of_ble_eq_true rfl) ?_
    exact wX5_plain_b17 hN C CX hr h

set_option maxHeartbeats 2000000 in
set_option maxRecDepth 20000 in
theorem kX5_plain {l : Launch} {D : va_G} {g : gT} {N : Nat} {ad ln : Nat → Nat} (hN : 183 ≤ N) (hl : l.stackTraces = false) {A A' : gM} {x1 : Int32} {res : Int32 ⊕ Nat} (h : mX5_plain A x1 = some (A', res)) : gXi l yX5_plain cX5_plain 2 (some .int) (105) 2 D g N ad ln A [gr 0, gi x1] A' res := by
  refine g_metXi hl (by decide) (Nat.le_of_ble_eq_true rfl) ?_
  intro p e s m args below meth c C CX hr
  refine g_sub [0, 1] rfl ?_
  exact wX5_plain_b0 hN C CX hr h
def mX5_name_b0 (A : gM) (x1 : Int32) : Option (gM × (Int32 ⊕ Nat)) :=
  (mX5_needBetween A x1 0 9).bind fun q1 => g_tr q1 fun _ =>
  (mX5_add q1.1 2 x1 (-1) (-1) (-1)).bind fun q3 => g_tr q3 fun r4 =>
  some (q3.1, .inl r4)
def mX5_name (A : gM) (x1 : Int32) : Option (gM × (Int32 ⊕ Nat)) := mX5_name_b0 A x1
set_option maxHeartbeats 2000000 in
set_option maxRecDepth 20000 in
theorem wX5_name_b0 (hN : 183 ≤ N) {A0 A' : gM} {res : Int32 ⊕ Nat} (C : gC p (g_rmx 105 2 (6 * 2)) s m args meth c cX5_name RX5 2 D g (va_A (gw g ad ln A0 N) s.heap.size) 105) (CX : gCX l s c (va_A (gw g ad ln A0 N) s.heap.size)) (hr : meth.sig.returnType = some .int)  {A : gM} {x1 : Int32} (h : mX5_name_b0 A x1 = some (A', res)) : gJ p l e (g_rmx 105 2 (6 * 2)) s m args below meth c (gEXi below D g N ad ln A0 A' res 2 args s) 2 D g (va_A (gw g ad ln A0 N) s.heap.size) N ad ln A [(0, gr 0), (1, gi x1)] 0 0 0 [] := by
  unfold mX5_name_b0 at h
  refine g_aload_n C 0 dX5_name_0 rfl ?_
  refine g_iload_n C 1 dX5_name_1 rfl ?_
  refine g_iconst (v := 0) C dX5_name_2 (by decide) ?_
  refine g_bipush (v := 9) C dX5_name_3 (by decide) ?_
  obtain ⟨q1, eq1, h⟩ := g_bd h
  refine g_callvXi C CX 0 [gi x1, gi 0, gi 9] (kX5_needBetween hN CX.1 eq1) qs_X5_30 (by omega) (by omega) rfl rfl rfl rfl (Nat.le_of_ble_eq_true rfl) ⟨Nat.le_of_ble_eq_true rfl, Nat.le_of_ble_eq_true rfl⟩ ⟨Nat.le_of_ble_eq_true rfl, Nat.le_of_ble_eq_true rfl⟩ dX5_name_5 (fun k hk => g_trx h hk) (fun r2 hr2 => ?_)
  have h := g_trr h hr2
  refine g_aload_n C 0 dX5_name_8 rfl ?_
  refine g_iconst (v := 2) C dX5_name_9 (by decide) ?_
  refine g_iload_n C 1 dX5_name_10 rfl ?_
  refine g_iconst (v := (-1)) C dX5_name_11 (by decide) ?_
  refine g_iconst (v := (-1)) C dX5_name_12 (by decide) ?_
  refine g_iconst (v := (-1)) C dX5_name_13 (by decide) ?_
  obtain ⟨q3, eq3, h⟩ := g_bd h
  refine g_calliXi C CX 0 [gi 2, gi x1, gi (-1), gi (-1), gi (-1)] (kX5_add hN CX.1 eq3) qs_X5_34 (by omega) (by omega) rfl rfl rfl rfl (Nat.le_of_ble_eq_true rfl) ⟨Nat.le_of_ble_eq_true rfl, Nat.le_of_ble_eq_true rfl⟩ ⟨Nat.le_of_ble_eq_true rfl, Nat.le_of_ble_eq_true rfl⟩ dX5_name_14 (fun k hk => g_trx h hk) (fun r4 hr4 => ?_)
  have h := g_trr h hr4
  obtain ⟨rfl, hres⟩ := Prod.mk.inj (Option.some.inj h)
  exact g_retXi C hres.symm (Nat.le_of_ble_eq_true rfl) (Nat.le_of_ble_eq_true rfl) hr dX5_name_17

set_option maxHeartbeats 2000000 in
set_option maxRecDepth 20000 in
theorem kX5_name {l : Launch} {D : va_G} {g : gT} {N : Nat} {ad ln : Nat → Nat} (hN : 183 ≤ N) (hl : l.stackTraces = false) {A A' : gM} {x1 : Int32} {res : Int32 ⊕ Nat} (h : mX5_name A x1 = some (A', res)) : gXi l yX5_name cX5_name 2 (some .int) (105) 2 D g N ad ln A [gr 0, gi x1] A' res := by
  refine g_metXi hl (by decide) (Nat.le_of_ble_eq_true rfl) ?_
  intro p e s m args below meth c C CX hr
  refine g_sub [0, 1] rfl ?_
  exact wX5_name_b0 hN C CX hr h
def mX5_wheel_b0 (A : gM) (x1 : Int32) (x2 : Int32) : Option (gM × (Int32 ⊕ Nat)) :=
  (mX5_needPart A x2).bind fun q1 => g_tr q1 fun _ =>
  (mX5_needBetween q1.1 x1 0 9).bind fun q3 => g_tr q3 fun _ =>
  (mX5_add q3.1 3 x1 x2 (-1) (-1)).bind fun q5 => g_tr q5 fun r6 =>
  some (q5.1, .inl r6)
def mX5_wheel (A : gM) (x1 : Int32) (x2 : Int32) : Option (gM × (Int32 ⊕ Nat)) := mX5_wheel_b0 A x1 x2
set_option maxHeartbeats 2000000 in
set_option maxRecDepth 20000 in
theorem wX5_wheel_b0 (hN : 183 ≤ N) {A0 A' : gM} {res : Int32 ⊕ Nat} (C : gC p (g_rmx 105 3 (6 * 3)) s m args meth c cX5_wheel RX5 3 D g (va_A (gw g ad ln A0 N) s.heap.size) 105) (CX : gCX l s c (va_A (gw g ad ln A0 N) s.heap.size)) (hr : meth.sig.returnType = some .int)  {A : gM} {x1 : Int32} {x2 : Int32} (h : mX5_wheel_b0 A x1 x2 = some (A', res)) : gJ p l e (g_rmx 105 3 (6 * 3)) s m args below meth c (gEXi below D g N ad ln A0 A' res 3 args s) 3 D g (va_A (gw g ad ln A0 N) s.heap.size) N ad ln A [(0, gr 0), (1, gi x1), (2, gi x2)] 0 0 0 [] := by
  unfold mX5_wheel_b0 at h
  refine g_aload_n C 0 dX5_wheel_0 rfl ?_
  refine g_iload_n C 2 dX5_wheel_1 rfl ?_
  obtain ⟨q1, eq1, h⟩ := g_bd h
  refine g_callvXi C CX 0 [gi x2] (kX5_needPart hN CX.1 eq1) qs_X5_38 (by omega) (by omega) rfl rfl rfl rfl (Nat.le_of_ble_eq_true rfl) ⟨Nat.le_of_ble_eq_true rfl, Nat.le_of_ble_eq_true rfl⟩ ⟨Nat.le_of_ble_eq_true rfl, Nat.le_of_ble_eq_true rfl⟩ dX5_wheel_2 (fun k hk => g_trx h hk) (fun r2 hr2 => ?_)
  have h := g_trr h hr2
  refine g_aload_n C 0 dX5_wheel_5 rfl ?_
  refine g_iload_n C 1 dX5_wheel_6 rfl ?_
  refine g_iconst (v := 0) C dX5_wheel_7 (by decide) ?_
  refine g_bipush (v := 9) C dX5_wheel_8 (by decide) ?_
  obtain ⟨q3, eq3, h⟩ := g_bd h
  refine g_callvXi C CX 0 [gi x1, gi 0, gi 9] (kX5_needBetween hN CX.1 eq3) qs_X5_30 (by omega) (by omega) rfl rfl rfl rfl (Nat.le_of_ble_eq_true rfl) ⟨Nat.le_of_ble_eq_true rfl, Nat.le_of_ble_eq_true rfl⟩ ⟨Nat.le_of_ble_eq_true rfl, Nat.le_of_ble_eq_true rfl⟩ dX5_wheel_10 (fun k hk => g_trx h hk) (fun r4 hr4 => ?_)
  have h := g_trr h hr4
  refine g_aload_n C 0 dX5_wheel_13 rfl ?_
  refine g_iconst (v := 3) C dX5_wheel_14 (by decide) ?_
  refine g_iload_n C 1 dX5_wheel_15 rfl ?_
  refine g_iload_n C 2 dX5_wheel_16 rfl ?_
  refine g_iconst (v := (-1)) C dX5_wheel_17 (by decide) ?_
  refine g_iconst (v := (-1)) C dX5_wheel_18 (by decide) ?_
  obtain ⟨q5, eq5, h⟩ := g_bd h
  refine g_calliXi C CX 0 [gi 3, gi x1, gi x2, gi (-1), gi (-1)] (kX5_add hN CX.1 eq5) qs_X5_34 (by omega) (by omega) rfl rfl rfl rfl (Nat.le_of_ble_eq_true rfl) ⟨Nat.le_of_ble_eq_true rfl, Nat.le_of_ble_eq_true rfl⟩ ⟨Nat.le_of_ble_eq_true rfl, Nat.le_of_ble_eq_true rfl⟩ dX5_wheel_19 (fun k hk => g_trx h hk) (fun r6 hr6 => ?_)
  have h := g_trr h hr6
  obtain ⟨rfl, hres⟩ := Prod.mk.inj (Option.some.inj h)
  exact g_retXi C hres.symm (Nat.le_of_ble_eq_true rfl) (Nat.le_of_ble_eq_true rfl) hr dX5_wheel_22

set_option maxHeartbeats 2000000 in
set_option maxRecDepth 20000 in
theorem kX5_wheel {l : Launch} {D : va_G} {g : gT} {N : Nat} {ad ln : Nat → Nat} (hN : 183 ≤ N) (hl : l.stackTraces = false) {A A' : gM} {x1 : Int32} {x2 : Int32} {res : Int32 ⊕ Nat} (h : mX5_wheel A x1 x2 = some (A', res)) : gXi l yX5_wheel cX5_wheel 3 (some .int) (105) 3 D g N ad ln A [gr 0, gi x1, gi x2] A' res := by
  refine g_metXi hl (by decide) (Nat.le_of_ble_eq_true rfl) ?_
  intro p e s m args below meth c C CX hr
  refine g_sub [0, 1, 2] rfl ?_
  exact wX5_wheel_b0 hN C CX hr h
def mX5_turn_b0 (A : gM) (x1 : Int32) (x2 : Int32) : Option (gM × (Int32 ⊕ Nat)) :=
  (mX5_needPart A x1).bind fun q1 => g_tr q1 fun _ =>
  (mX5_needPart q1.1 x2).bind fun q3 => g_tr q3 fun _ =>
  (mX5_add q3.1 4 (-1) x1 x2 (-1)).bind fun q5 => g_tr q5 fun r6 =>
  some (q5.1, .inl r6)
def mX5_turn (A : gM) (x1 : Int32) (x2 : Int32) : Option (gM × (Int32 ⊕ Nat)) := mX5_turn_b0 A x1 x2
set_option maxHeartbeats 2000000 in
set_option maxRecDepth 20000 in
theorem wX5_turn_b0 (hN : 183 ≤ N) {A0 A' : gM} {res : Int32 ⊕ Nat} (C : gC p (g_rmx 105 3 (6 * 3)) s m args meth c cX5_turn RX5 3 D g (va_A (gw g ad ln A0 N) s.heap.size) 105) (CX : gCX l s c (va_A (gw g ad ln A0 N) s.heap.size)) (hr : meth.sig.returnType = some .int)  {A : gM} {x1 : Int32} {x2 : Int32} (h : mX5_turn_b0 A x1 x2 = some (A', res)) : gJ p l e (g_rmx 105 3 (6 * 3)) s m args below meth c (gEXi below D g N ad ln A0 A' res 3 args s) 3 D g (va_A (gw g ad ln A0 N) s.heap.size) N ad ln A [(0, gr 0), (1, gi x1), (2, gi x2)] 0 0 0 [] := by
  unfold mX5_turn_b0 at h
  refine g_aload_n C 0 dX5_turn_0 rfl ?_
  refine g_iload_n C 1 dX5_turn_1 rfl ?_
  obtain ⟨q1, eq1, h⟩ := g_bd h
  refine g_callvXi C CX 0 [gi x1] (kX5_needPart hN CX.1 eq1) qs_X5_38 (by omega) (by omega) rfl rfl rfl rfl (Nat.le_of_ble_eq_true rfl) ⟨Nat.le_of_ble_eq_true rfl, Nat.le_of_ble_eq_true rfl⟩ ⟨Nat.le_of_ble_eq_true rfl, Nat.le_of_ble_eq_true rfl⟩ dX5_turn_2 (fun k hk => g_trx h hk) (fun r2 hr2 => ?_)
  have h := g_trr h hr2
  refine g_aload_n C 0 dX5_turn_5 rfl ?_
  refine g_iload_n C 2 dX5_turn_6 rfl ?_
  obtain ⟨q3, eq3, h⟩ := g_bd h
  refine g_callvXi C CX 0 [gi x2] (kX5_needPart hN CX.1 eq3) qs_X5_38 (by omega) (by omega) rfl rfl rfl rfl (Nat.le_of_ble_eq_true rfl) ⟨Nat.le_of_ble_eq_true rfl, Nat.le_of_ble_eq_true rfl⟩ ⟨Nat.le_of_ble_eq_true rfl, Nat.le_of_ble_eq_true rfl⟩ dX5_turn_7 (fun k hk => g_trx h hk) (fun r4 hr4 => ?_)
  have h := g_trr h hr4
  refine g_aload_n C 0 dX5_turn_10 rfl ?_
  refine g_iconst (v := 4) C dX5_turn_11 (by decide) ?_
  refine g_iconst (v := (-1)) C dX5_turn_12 (by decide) ?_
  refine g_iload_n C 1 dX5_turn_13 rfl ?_
  refine g_iload_n C 2 dX5_turn_14 rfl ?_
  refine g_iconst (v := (-1)) C dX5_turn_15 (by decide) ?_
  obtain ⟨q5, eq5, h⟩ := g_bd h
  refine g_calliXi C CX 0 [gi 4, gi (-1), gi x1, gi x2, gi (-1)] (kX5_add hN CX.1 eq5) qs_X5_34 (by omega) (by omega) rfl rfl rfl rfl (Nat.le_of_ble_eq_true rfl) ⟨Nat.le_of_ble_eq_true rfl, Nat.le_of_ble_eq_true rfl⟩ ⟨Nat.le_of_ble_eq_true rfl, Nat.le_of_ble_eq_true rfl⟩ dX5_turn_16 (fun k hk => g_trx h hk) (fun r6 hr6 => ?_)
  have h := g_trr h hr6
  obtain ⟨rfl, hres⟩ := Prod.mk.inj (Option.some.inj h)
  exact g_retXi C hres.symm (Nat.le_of_ble_eq_true rfl) (Nat.le_of_ble_eq_true rfl) hr dX5_turn_19

set_option maxHeartbeats 2000000 in
set_option maxRecDepth 20000 in
theorem kX5_turn {l : Launch} {D : va_G} {g : gT} {N : Nat} {ad ln : Nat → Nat} (hN : 183 ≤ N) (hl : l.stackTraces = false) {A A' : gM} {x1 : Int32} {x2 : Int32} {res : Int32 ⊕ Nat} (h : mX5_turn A x1 x2 = some (A', res)) : gXi l yX5_turn cX5_turn 3 (some .int) (105) 3 D g N ad ln A [gr 0, gi x1, gi x2] A' res := by
  refine g_metXi hl (by decide) (Nat.le_of_ble_eq_true rfl) ?_
  intro p e s m args below meth c C CX hr
  refine g_sub [0, 1, 2] rfl ?_
  exact wX5_turn_b0 hN C CX hr h
def mX5_tell_b0 (A : gM) (x1 : Int32) (x2 : Int32) (x3 : Int32) : Option (gM × (Int32 ⊕ Nat)) :=
  (mX5_needPart A x2).bind fun q1 => g_tr q1 fun _ =>
  (mX5_needPart q1.1 x3).bind fun q3 => g_tr q3 fun _ =>
  (mX5_needBetween q3.1 x1 0 9).bind fun q5 => g_tr q5 fun _ =>
  (mX5_add q5.1 5 x1 x2 x3 (-1)).bind fun q7 => g_tr q7 fun r8 =>
  some (q7.1, .inl r8)
def mX5_tell (A : gM) (x1 : Int32) (x2 : Int32) (x3 : Int32) : Option (gM × (Int32 ⊕ Nat)) := mX5_tell_b0 A x1 x2 x3
set_option maxHeartbeats 2000000 in
set_option maxRecDepth 20000 in
theorem wX5_tell_b0 (hN : 183 ≤ N) {A0 A' : gM} {res : Int32 ⊕ Nat} (C : gC p (g_rmx 105 4 (6 * 4)) s m args meth c cX5_tell RX5 4 D g (va_A (gw g ad ln A0 N) s.heap.size) 105) (CX : gCX l s c (va_A (gw g ad ln A0 N) s.heap.size)) (hr : meth.sig.returnType = some .int)  {A : gM} {x1 : Int32} {x2 : Int32} {x3 : Int32} (h : mX5_tell_b0 A x1 x2 x3 = some (A', res)) : gJ p l e (g_rmx 105 4 (6 * 4)) s m args below meth c (gEXi below D g N ad ln A0 A' res 4 args s) 4 D g (va_A (gw g ad ln A0 N) s.heap.size) N ad ln A [(0, gr 0), (1, gi x1), (2, gi x2), (3, gi x3)] 0 0 0 [] := by
  unfold mX5_tell_b0 at h
  refine g_aload_n C 0 dX5_tell_0 rfl ?_
  refine g_iload_n C 2 dX5_tell_1 rfl ?_
  obtain ⟨q1, eq1, h⟩ := g_bd h
  refine g_callvXi C CX 0 [gi x2] (kX5_needPart hN CX.1 eq1) qs_X5_38 (by omega) (by omega) rfl rfl rfl rfl (Nat.le_of_ble_eq_true rfl) ⟨Nat.le_of_ble_eq_true rfl, Nat.le_of_ble_eq_true rfl⟩ ⟨Nat.le_of_ble_eq_true rfl, Nat.le_of_ble_eq_true rfl⟩ dX5_tell_2 (fun k hk => g_trx h hk) (fun r2 hr2 => ?_)
  have h := g_trr h hr2
  refine g_aload_n C 0 dX5_tell_5 rfl ?_
  refine g_iload_n C 3 dX5_tell_6 rfl ?_
  obtain ⟨q3, eq3, h⟩ := g_bd h
  refine g_callvXi C CX 0 [gi x3] (kX5_needPart hN CX.1 eq3) qs_X5_38 (by omega) (by omega) rfl rfl rfl rfl (Nat.le_of_ble_eq_true rfl) ⟨Nat.le_of_ble_eq_true rfl, Nat.le_of_ble_eq_true rfl⟩ ⟨Nat.le_of_ble_eq_true rfl, Nat.le_of_ble_eq_true rfl⟩ dX5_tell_7 (fun k hk => g_trx h hk) (fun r4 hr4 => ?_)
  have h := g_trr h hr4
  refine g_aload_n C 0 dX5_tell_10 rfl ?_
  refine g_iload_n C 1 dX5_tell_11 rfl ?_
  refine g_iconst (v := 0) C dX5_tell_12 (by decide) ?_
  refine g_bipush (v := 9) C dX5_tell_13 (by decide) ?_
  obtain ⟨q5, eq5, h⟩ := g_bd h
  refine g_callvXi C CX 0 [gi x1, gi 0, gi 9] (kX5_needBetween hN CX.1 eq5) qs_X5_30 (by omega) (by omega) rfl rfl rfl rfl (Nat.le_of_ble_eq_true rfl) ⟨Nat.le_of_ble_eq_true rfl, Nat.le_of_ble_eq_true rfl⟩ ⟨Nat.le_of_ble_eq_true rfl, Nat.le_of_ble_eq_true rfl⟩ dX5_tell_15 (fun k hk => g_trx h hk) (fun r6 hr6 => ?_)
  have h := g_trr h hr6
  refine g_aload_n C 0 dX5_tell_18 rfl ?_
  refine g_iconst (v := 5) C dX5_tell_19 (by decide) ?_
  refine g_iload_n C 1 dX5_tell_20 rfl ?_
  refine g_iload_n C 2 dX5_tell_21 rfl ?_
  refine g_iload_n C 3 dX5_tell_22 rfl ?_
  refine g_iconst (v := (-1)) C dX5_tell_23 (by decide) ?_
  obtain ⟨q7, eq7, h⟩ := g_bd h
  refine g_calliXi C CX 0 [gi 5, gi x1, gi x2, gi x3, gi (-1)] (kX5_add hN CX.1 eq7) qs_X5_34 (by omega) (by omega) rfl rfl rfl rfl (Nat.le_of_ble_eq_true rfl) ⟨Nat.le_of_ble_eq_true rfl, Nat.le_of_ble_eq_true rfl⟩ ⟨Nat.le_of_ble_eq_true rfl, Nat.le_of_ble_eq_true rfl⟩ dX5_tell_24 (fun k hk => g_trx h hk) (fun r8 hr8 => ?_)
  have h := g_trr h hr8
  obtain ⟨rfl, hres⟩ := Prod.mk.inj (Option.some.inj h)
  exact g_retXi C hres.symm (Nat.le_of_ble_eq_true rfl) (Nat.le_of_ble_eq_true rfl) hr dX5_tell_27

set_option maxHeartbeats 2000000 in
set_option maxRecDepth 20000 in
theorem kX5_tell {l : Launch} {D : va_G} {g : gT} {N : Nat} {ad ln : Nat → Nat} (hN : 183 ≤ N) (hl : l.stackTraces = false) {A A' : gM} {x1 : Int32} {x2 : Int32} {x3 : Int32} {res : Int32 ⊕ Nat} (h : mX5_tell A x1 x2 x3 = some (A', res)) : gXi l yX5_tell cX5_tell 4 (some .int) (105) 4 D g N ad ln A [gr 0, gi x1, gi x2, gi x3] A' res := by
  refine g_metXi hl (by decide) (Nat.le_of_ble_eq_true rfl) ?_
  intro p e s m args below meth c C CX hr
  refine g_sub [0, 1, 2, 3] rfl ?_
  exact wX5_tell_b0 hN C CX hr h
def mX5_axle_b0 (A : gM) (x1 : Int32) (x2 : Int32) : Option (gM × (Int32 ⊕ Nat)) :=
  (mX5_needPart A x1).bind fun q1 => g_tr q1 fun _ =>
  (mX5_needPart q1.1 x2).bind fun q3 => g_tr q3 fun _ =>
  (mX5_add q3.1 6 (-1) x1 x2 (-1)).bind fun q5 => g_tr q5 fun r6 =>
  some (q5.1, .inl r6)
def mX5_axle (A : gM) (x1 : Int32) (x2 : Int32) : Option (gM × (Int32 ⊕ Nat)) := mX5_axle_b0 A x1 x2
set_option maxHeartbeats 2000000 in
set_option maxRecDepth 20000 in
theorem wX5_axle_b0 (hN : 183 ≤ N) {A0 A' : gM} {res : Int32 ⊕ Nat} (C : gC p (g_rmx 105 3 (6 * 3)) s m args meth c cX5_axle RX5 3 D g (va_A (gw g ad ln A0 N) s.heap.size) 105) (CX : gCX l s c (va_A (gw g ad ln A0 N) s.heap.size)) (hr : meth.sig.returnType = some .int)  {A : gM} {x1 : Int32} {x2 : Int32} (h : mX5_axle_b0 A x1 x2 = some (A', res)) : gJ p l e (g_rmx 105 3 (6 * 3)) s m args below meth c (gEXi below D g N ad ln A0 A' res 3 args s) 3 D g (va_A (gw g ad ln A0 N) s.heap.size) N ad ln A [(0, gr 0), (1, gi x1), (2, gi x2)] 0 0 0 [] := by
  unfold mX5_axle_b0 at h
  refine g_aload_n C 0 dX5_axle_0 rfl ?_
  refine g_iload_n C 1 dX5_axle_1 rfl ?_
  obtain ⟨q1, eq1, h⟩ := g_bd h
  refine g_callvXi C CX 0 [gi x1] (kX5_needPart hN CX.1 eq1) qs_X5_38 (by omega) (by omega) rfl rfl rfl rfl (Nat.le_of_ble_eq_true rfl) ⟨Nat.le_of_ble_eq_true rfl, Nat.le_of_ble_eq_true rfl⟩ ⟨Nat.le_of_ble_eq_true rfl, Nat.le_of_ble_eq_true rfl⟩ dX5_axle_2 (fun k hk => g_trx h hk) (fun r2 hr2 => ?_)
  have h := g_trr h hr2
  refine g_aload_n C 0 dX5_axle_5 rfl ?_
  refine g_iload_n C 2 dX5_axle_6 rfl ?_
  obtain ⟨q3, eq3, h⟩ := g_bd h
  refine g_callvXi C CX 0 [gi x2] (kX5_needPart hN CX.1 eq3) qs_X5_38 (by omega) (by omega) rfl rfl rfl rfl (Nat.le_of_ble_eq_true rfl) ⟨Nat.le_of_ble_eq_true rfl, Nat.le_of_ble_eq_true rfl⟩ ⟨Nat.le_of_ble_eq_true rfl, Nat.le_of_ble_eq_true rfl⟩ dX5_axle_7 (fun k hk => g_trx h hk) (fun r4 hr4 => ?_)
  have h := g_trr h hr4
  refine g_aload_n C 0 dX5_axle_10 rfl ?_
  refine g_bipush (v := 6) C dX5_axle_11 (by decide) ?_
  refine g_iconst (v := (-1)) C dX5_axle_13 (by decide) ?_
  refine g_iload_n C 1 dX5_axle_14 rfl ?_
  refine g_iload_n C 2 dX5_axle_15 rfl ?_
  refine g_iconst (v := (-1)) C dX5_axle_16 (by decide) ?_
  obtain ⟨q5, eq5, h⟩ := g_bd h
  refine g_calliXi C CX 0 [gi 6, gi (-1), gi x1, gi x2, gi (-1)] (kX5_add hN CX.1 eq5) qs_X5_34 (by omega) (by omega) rfl rfl rfl rfl (Nat.le_of_ble_eq_true rfl) ⟨Nat.le_of_ble_eq_true rfl, Nat.le_of_ble_eq_true rfl⟩ ⟨Nat.le_of_ble_eq_true rfl, Nat.le_of_ble_eq_true rfl⟩ dX5_axle_17 (fun k hk => g_trx h hk) (fun r6 hr6 => ?_)
  have h := g_trr h hr6
  obtain ⟨rfl, hres⟩ := Prod.mk.inj (Option.some.inj h)
  exact g_retXi C hres.symm (Nat.le_of_ble_eq_true rfl) (Nat.le_of_ble_eq_true rfl) hr dX5_axle_20

set_option maxHeartbeats 2000000 in
set_option maxRecDepth 20000 in
theorem kX5_axle {l : Launch} {D : va_G} {g : gT} {N : Nat} {ad ln : Nat → Nat} (hN : 183 ≤ N) (hl : l.stackTraces = false) {A A' : gM} {x1 : Int32} {x2 : Int32} {res : Int32 ⊕ Nat} (h : mX5_axle A x1 x2 = some (A', res)) : gXi l yX5_axle cX5_axle 3 (some .int) (105) 3 D g N ad ln A [gr 0, gi x1, gi x2] A' res := by
  refine g_metXi hl (by decide) (Nat.le_of_ble_eq_true rfl) ?_
  intro p e s m args below meth c C CX hr
  refine g_sub [0, 1, 2] rfl ?_
  exact wX5_axle_b0 hN C CX hr h
def mX5_end_b0 (A : gM) (x1 : Int32) (x2 : Int32) : Option (gM × (Int32 ⊕ Nat)) :=
  (mX5_needPart A x1).bind fun q1 => g_tr q1 fun _ =>
  (mX5_needBetween q1.1 x2 0 1).bind fun q3 => g_tr q3 fun _ =>
  (mX5_add q3.1 7 x2 x1 (-1) (-1)).bind fun q5 => g_tr q5 fun r6 =>
  some (q5.1, .inl r6)
def mX5_end (A : gM) (x1 : Int32) (x2 : Int32) : Option (gM × (Int32 ⊕ Nat)) := mX5_end_b0 A x1 x2
set_option maxHeartbeats 2000000 in
set_option maxRecDepth 20000 in
theorem wX5_end_b0 (hN : 183 ≤ N) {A0 A' : gM} {res : Int32 ⊕ Nat} (C : gC p (g_rmx 105 3 (6 * 3)) s m args meth c cX5_end RX5 3 D g (va_A (gw g ad ln A0 N) s.heap.size) 105) (CX : gCX l s c (va_A (gw g ad ln A0 N) s.heap.size)) (hr : meth.sig.returnType = some .int)  {A : gM} {x1 : Int32} {x2 : Int32} (h : mX5_end_b0 A x1 x2 = some (A', res)) : gJ p l e (g_rmx 105 3 (6 * 3)) s m args below meth c (gEXi below D g N ad ln A0 A' res 3 args s) 3 D g (va_A (gw g ad ln A0 N) s.heap.size) N ad ln A [(0, gr 0), (1, gi x1), (2, gi x2)] 0 0 0 [] := by
  unfold mX5_end_b0 at h
  refine g_aload_n C 0 dX5_end_0 rfl ?_
  refine g_iload_n C 1 dX5_end_1 rfl ?_
  obtain ⟨q1, eq1, h⟩ := g_bd h
  refine g_callvXi C CX 0 [gi x1] (kX5_needPart hN CX.1 eq1) qs_X5_38 (by omega) (by omega) rfl rfl rfl rfl (Nat.le_of_ble_eq_true rfl) ⟨Nat.le_of_ble_eq_true rfl, Nat.le_of_ble_eq_true rfl⟩ ⟨Nat.le_of_ble_eq_true rfl, Nat.le_of_ble_eq_true rfl⟩ dX5_end_2 (fun k hk => g_trx h hk) (fun r2 hr2 => ?_)
  have h := g_trr h hr2
  refine g_aload_n C 0 dX5_end_5 rfl ?_
  refine g_iload_n C 2 dX5_end_6 rfl ?_
  refine g_iconst (v := 0) C dX5_end_7 (by decide) ?_
  refine g_iconst (v := 1) C dX5_end_8 (by decide) ?_
  obtain ⟨q3, eq3, h⟩ := g_bd h
  refine g_callvXi C CX 0 [gi x2, gi 0, gi 1] (kX5_needBetween hN CX.1 eq3) qs_X5_30 (by omega) (by omega) rfl rfl rfl rfl (Nat.le_of_ble_eq_true rfl) ⟨Nat.le_of_ble_eq_true rfl, Nat.le_of_ble_eq_true rfl⟩ ⟨Nat.le_of_ble_eq_true rfl, Nat.le_of_ble_eq_true rfl⟩ dX5_end_9 (fun k hk => g_trx h hk) (fun r4 hr4 => ?_)
  have h := g_trr h hr4
  refine g_aload_n C 0 dX5_end_12 rfl ?_
  refine g_bipush (v := 7) C dX5_end_13 (by decide) ?_
  refine g_iload_n C 2 dX5_end_15 rfl ?_
  refine g_iload_n C 1 dX5_end_16 rfl ?_
  refine g_iconst (v := (-1)) C dX5_end_17 (by decide) ?_
  refine g_iconst (v := (-1)) C dX5_end_18 (by decide) ?_
  obtain ⟨q5, eq5, h⟩ := g_bd h
  refine g_calliXi C CX 0 [gi 7, gi x2, gi x1, gi (-1), gi (-1)] (kX5_add hN CX.1 eq5) qs_X5_34 (by omega) (by omega) rfl rfl rfl rfl (Nat.le_of_ble_eq_true rfl) ⟨Nat.le_of_ble_eq_true rfl, Nat.le_of_ble_eq_true rfl⟩ ⟨Nat.le_of_ble_eq_true rfl, Nat.le_of_ble_eq_true rfl⟩ dX5_end_19 (fun k hk => g_trx h hk) (fun r6 hr6 => ?_)
  have h := g_trr h hr6
  obtain ⟨rfl, hres⟩ := Prod.mk.inj (Option.some.inj h)
  exact g_retXi C hres.symm (Nat.le_of_ble_eq_true rfl) (Nat.le_of_ble_eq_true rfl) hr dX5_end_22

set_option maxHeartbeats 2000000 in
set_option maxRecDepth 20000 in
theorem kX5_end {l : Launch} {D : va_G} {g : gT} {N : Nat} {ad ln : Nat → Nat} (hN : 183 ≤ N) (hl : l.stackTraces = false) {A A' : gM} {x1 : Int32} {x2 : Int32} {res : Int32 ⊕ Nat} (h : mX5_end A x1 x2 = some (A', res)) : gXi l yX5_end cX5_end 3 (some .int) (105) 3 D g N ad ln A [gr 0, gi x1, gi x2] A' res := by
  refine g_metXi hl (by decide) (Nat.le_of_ble_eq_true rfl) ?_
  intro p e s m args below meth c C CX hr
  refine g_sub [0, 1, 2] rfl ?_
  exact wX5_end_b0 hN C CX hr h
def mX5_either_b0 (A : gM) (x1 : Int32) (x2 : Int32) (x3 : Int32) : Option (gM × (Int32 ⊕ Nat)) :=
  (mX5_needPart A x1).bind fun q1 => g_tr q1 fun _ =>
  (mX5_needPart q1.1 x2).bind fun q3 => g_tr q3 fun _ =>
  (mX5_needPart q3.1 x3).bind fun q5 => g_tr q5 fun _ =>
  (mX5_add q5.1 8 (-1) x1 x2 x3).bind fun q7 => g_tr q7 fun r8 =>
  some (q7.1, .inl r8)
def mX5_either (A : gM) (x1 : Int32) (x2 : Int32) (x3 : Int32) : Option (gM × (Int32 ⊕ Nat)) := mX5_either_b0 A x1 x2 x3
set_option maxHeartbeats 2000000 in
set_option maxRecDepth 20000 in
theorem wX5_either_b0 (hN : 183 ≤ N) {A0 A' : gM} {res : Int32 ⊕ Nat} (C : gC p (g_rmx 105 4 (6 * 4)) s m args meth c cX5_either RX5 4 D g (va_A (gw g ad ln A0 N) s.heap.size) 105) (CX : gCX l s c (va_A (gw g ad ln A0 N) s.heap.size)) (hr : meth.sig.returnType = some .int)  {A : gM} {x1 : Int32} {x2 : Int32} {x3 : Int32} (h : mX5_either_b0 A x1 x2 x3 = some (A', res)) : gJ p l e (g_rmx 105 4 (6 * 4)) s m args below meth c (gEXi below D g N ad ln A0 A' res 4 args s) 4 D g (va_A (gw g ad ln A0 N) s.heap.size) N ad ln A [(0, gr 0), (1, gi x1), (2, gi x2), (3, gi x3)] 0 0 0 [] := by
  unfold mX5_either_b0 at h
  refine g_aload_n C 0 dX5_either_0 rfl ?_
  refine g_iload_n C 1 dX5_either_1 rfl ?_
  obtain ⟨q1, eq1, h⟩ := g_bd h
  refine g_callvXi C CX 0 [gi x1] (kX5_needPart hN CX.1 eq1) qs_X5_38 (by omega) (by omega) rfl rfl rfl rfl (Nat.le_of_ble_eq_true rfl) ⟨Nat.le_of_ble_eq_true rfl, Nat.le_of_ble_eq_true rfl⟩ ⟨Nat.le_of_ble_eq_true rfl, Nat.le_of_ble_eq_true rfl⟩ dX5_either_2 (fun k hk => g_trx h hk) (fun r2 hr2 => ?_)
  have h := g_trr h hr2
  refine g_aload_n C 0 dX5_either_5 rfl ?_
  refine g_iload_n C 2 dX5_either_6 rfl ?_
  obtain ⟨q3, eq3, h⟩ := g_bd h
  refine g_callvXi C CX 0 [gi x2] (kX5_needPart hN CX.1 eq3) qs_X5_38 (by omega) (by omega) rfl rfl rfl rfl (Nat.le_of_ble_eq_true rfl) ⟨Nat.le_of_ble_eq_true rfl, Nat.le_of_ble_eq_true rfl⟩ ⟨Nat.le_of_ble_eq_true rfl, Nat.le_of_ble_eq_true rfl⟩ dX5_either_7 (fun k hk => g_trx h hk) (fun r4 hr4 => ?_)
  have h := g_trr h hr4
  refine g_aload_n C 0 dX5_either_10 rfl ?_
  refine g_iload_n C 3 dX5_either_11 rfl ?_
  obtain ⟨q5, eq5, h⟩ := g_bd h
  refine g_callvXi C CX 0 [gi x3] (kX5_needPart hN CX.1 eq5) qs_X5_38 (by omega) (by omega) rfl rfl rfl rfl (Nat.le_of_ble_eq_true rfl) ⟨Nat.le_of_ble_eq_true rfl, Nat.le_of_ble_eq_true rfl⟩ ⟨Nat.le_of_ble_eq_true rfl, Nat.le_of_ble_eq_true rfl⟩ dX5_either_12 (fun k hk => g_trx h hk) (fun r6 hr6 => ?_)
  have h := g_trr h hr6
  refine g_aload_n C 0 dX5_either_15 rfl ?_
  refine g_bipush (v := 8) C dX5_either_16 (by decide) ?_
  refine g_iconst (v := (-1)) C dX5_either_18 (by decide) ?_
  refine g_iload_n C 1 dX5_either_19 rfl ?_
  refine g_iload_n C 2 dX5_either_20 rfl ?_
  refine g_iload_n C 3 dX5_either_21 rfl ?_
  obtain ⟨q7, eq7, h⟩ := g_bd h
  refine g_calliXi C CX 0 [gi 8, gi (-1), gi x1, gi x2, gi x3] (kX5_add hN CX.1 eq7) qs_X5_34 (by omega) (by omega) rfl rfl rfl rfl (Nat.le_of_ble_eq_true rfl) ⟨Nat.le_of_ble_eq_true rfl, Nat.le_of_ble_eq_true rfl⟩ ⟨Nat.le_of_ble_eq_true rfl, Nat.le_of_ble_eq_true rfl⟩ dX5_either_22 (fun k hk => g_trx h hk) (fun r8 hr8 => ?_)
  have h := g_trr h hr8
  obtain ⟨rfl, hres⟩ := Prod.mk.inj (Option.some.inj h)
  exact g_retXi C hres.symm (Nat.le_of_ble_eq_true rfl) (Nat.le_of_ble_eq_true rfl) hr dX5_either_25

set_option maxHeartbeats 2000000 in
set_option maxRecDepth 20000 in
theorem kX5_either {l : Launch} {D : va_G} {g : gT} {N : Nat} {ad ln : Nat → Nat} (hN : 183 ≤ N) (hl : l.stackTraces = false) {A A' : gM} {x1 : Int32} {x2 : Int32} {x3 : Int32} {res : Int32 ⊕ Nat} (h : mX5_either A x1 x2 x3 = some (A', res)) : gXi l yX5_either cX5_either 4 (some .int) (105) 4 D g N ad ln A [gr 0, gi x1, gi x2, gi x3] A' res := by
  refine g_metXi hl (by decide) (Nat.le_of_ble_eq_true rfl) ?_
  intro p e s m args below meth c C CX hr
  refine g_sub [0, 1, 2, 3] rfl ?_
  exact wX5_either_b0 hN C CX hr h
def mX5_undo_b0 (A : gM) : Option (gM × (Int32 ⊕ Nat)) :=
  (mX2_made A).bind fun q1 =>
  g_let (q1.2 - 1) fun v2 =>
  if 0 ≤ v2 then
  (mX2_dropLast q1.1).bind fun q4 =>
  some (q4, .inl v2)
  else
  some (q1.1, .inr 2)
def mX5_undo (A : gM) : Option (gM × (Int32 ⊕ Nat)) := mX5_undo_b0 A
set_option maxHeartbeats 2000000 in
set_option maxRecDepth 20000 in
theorem wX5_undo_b0 (hN : 183 ≤ N) {A0 A' : gM} {res : Int32 ⊕ Nat} (C : gC p (g_rmx 6 1 (6 * 1)) s m args meth c cX5_undo RX5 2 D g (va_A (gw g ad ln A0 N) s.heap.size) 6) (CX : gCX l s c (va_A (gw g ad ln A0 N) s.heap.size)) (hr : meth.sig.returnType = some .int)  {A : gM} (h : mX5_undo_b0 A = some (A', res)) : gJ p l e (g_rmx 6 1 (6 * 1)) s m args below meth c (gEXi below D g N ad ln A0 A' res 1 args s) 2 D g (va_A (gw g ad ln A0 N) s.heap.size) N ad ln A [(0, gr 0)] 0 0 0 [] := by
  unfold mX5_undo_b0 at h
  refine g_aload_n C 0 dX5_undo_0 rfl ?_
  refine g_get (v := gr 1) C 0 0 (by omega) rfl rfl gu_5 (by decide) qf_X5_10 rfl dX5_undo_1 ?_
  obtain ⟨q1, eq1, h⟩ := g_bd h
  refine g_calliV C 1 [] (kX2_made hN eq1) qs_X5_42 (by omega) (by omega) rfl rfl rfl rfl (Nat.le_of_ble_eq_true rfl) ⟨Nat.le_of_ble_eq_true rfl, Nat.le_of_ble_eq_true rfl⟩ dX5_undo_4 ?_
  refine g_iconst (v := 1) C dX5_undo_7 (by decide) ?_
  refine g_isub C dX5_undo_8 ?_
  obtain ⟨v2, ev2, h⟩ := g_lt h
  refine g_topi ev2 ?_
  refine g_istore_n C dX5_undo_9 (by decide) rfl ?_
  refine g_iload_n C 0 dX5_undo_10 rfl ?_
  refine g_if_ge C dX5_undo_11 (tgt := 22) (by decide) (fun c3 => ?_) (fun c3 => ?_)
  · have h := g_tt c3 h
    refine g_aload_n C 1 dX5_undo_22 rfl ?_
    refine g_get (v := gr 1) C 0 0 (by omega) rfl rfl gu_5 (by decide) qf_X5_10 rfl dX5_undo_23 ?_
    obtain ⟨q4, eq4, h⟩ := g_bd h
    refine g_callvV C 1 [] (kX2_dropLast hN eq4) qs_X5_49 (by omega) (by omega) rfl rfl rfl rfl (Nat.le_of_ble_eq_true rfl) ⟨Nat.le_of_ble_eq_true rfl, Nat.le_of_ble_eq_true rfl⟩ dX5_undo_26 ?_
    refine g_iload_n C 0 dX5_undo_29 rfl ?_
    obtain ⟨rfl, hres⟩ := Prod.mk.inj (Option.some.inj h)
    exact g_retXi C hres.symm (Nat.le_of_ble_eq_true rfl) (Nat.le_of_ble_eq_true rfl) hr dX5_undo_30
  · have h := g_ff c3 h
    obtain ⟨rfl, hres⟩ := Prod.mk.inj (Option.some.inj h)
    exact g_throwi C CX 2 (by decide) qtk_X5_46 qti_2 qtg_X5_46 qtn_X5_46 qto_X5_46 hres.symm (by decide) (Nat.le_of_ble_eq_true rfl) ⟨Nat.le_of_ble_eq_true rfl, Nat.le_of_ble_eq_true rfl⟩ ⟨Nat.le_of_ble_eq_true rfl, Nat.le_of_ble_eq_true rfl⟩ dX5_undo_14 dX5_undo_17 dX5_undo_18 dX5_undo_21

set_option maxHeartbeats 2000000 in
set_option maxRecDepth 20000 in
theorem kX5_undo {l : Launch} {D : va_G} {g : gT} {N : Nat} {ad ln : Nat → Nat} (hN : 183 ≤ N) (hl : l.stackTraces = false) {A A' : gM} {res : Int32 ⊕ Nat} (h : mX5_undo A = some (A', res)) : gXi l yX5_undo cX5_undo 2 (some .int) (6) 1 D g N ad ln A [gr 0] A' res := by
  refine g_metXi hl (by decide) (Nat.le_of_ble_eq_true rfl) ?_
  intro p e s m args below meth c C CX hr
  refine g_sub [0] rfl ?_
  exact wX5_undo_b0 hN C CX hr h
def mX5_part_b0 (A : gM) (x1 : Int32) (x2 : Int32) : Option (gM × (Int32 ⊕ Nat)) :=
  (mX5_needPart A x1).bind fun q1 => g_tr q1 fun _ =>
  (mX5_needPlace q1.1 x2 7).bind fun q3 => g_tr q3 fun _ =>
  (mX2_fact q3.1 x1 x2).bind fun q5 =>
  some (q5.1, .inl q5.2)
def mX5_part (A : gM) (x1 : Int32) (x2 : Int32) : Option (gM × (Int32 ⊕ Nat)) := mX5_part_b0 A x1 x2
set_option maxHeartbeats 2000000 in
set_option maxRecDepth 20000 in
theorem wX5_part_b0 (hN : 183 ≤ N) {A0 A' : gM} {res : Int32 ⊕ Nat} (C : gC p (g_rmx 8 2 (6 * 2)) s m args meth c cX5_part RX5 3 D g (va_A (gw g ad ln A0 N) s.heap.size) 8) (CX : gCX l s c (va_A (gw g ad ln A0 N) s.heap.size)) (hr : meth.sig.returnType = some .int)  {A : gM} {x1 : Int32} {x2 : Int32} (h : mX5_part_b0 A x1 x2 = some (A', res)) : gJ p l e (g_rmx 8 2 (6 * 2)) s m args below meth c (gEXi below D g N ad ln A0 A' res 2 args s) 3 D g (va_A (gw g ad ln A0 N) s.heap.size) N ad ln A [(0, gr 0), (1, gi x1), (2, gi x2)] 0 0 0 [] := by
  unfold mX5_part_b0 at h
  refine g_aload_n C 0 dX5_part_0 rfl ?_
  refine g_iload_n C 1 dX5_part_1 rfl ?_
  obtain ⟨q1, eq1, h⟩ := g_bd h
  refine g_callvXi C CX 0 [gi x1] (kX5_needPart hN CX.1 eq1) qs_X5_38 (by omega) (by omega) rfl rfl rfl rfl (Nat.le_of_ble_eq_true rfl) ⟨Nat.le_of_ble_eq_true rfl, Nat.le_of_ble_eq_true rfl⟩ ⟨Nat.le_of_ble_eq_true rfl, Nat.le_of_ble_eq_true rfl⟩ dX5_part_2 (fun k hk => g_trx h hk) (fun r2 hr2 => ?_)
  have h := g_trr h hr2
  refine g_aload_n C 0 dX5_part_5 rfl ?_
  refine g_iload_n C 2 dX5_part_6 rfl ?_
  refine g_bipush (v := 7) C dX5_part_7 (by decide) ?_
  obtain ⟨q3, eq3, h⟩ := g_bd h
  refine g_callvXi C CX 0 [gi x2, gi 7] (kX5_needPlace hN CX.1 eq3) qs_X5_52 (by omega) (by omega) rfl rfl rfl rfl (Nat.le_of_ble_eq_true rfl) ⟨Nat.le_of_ble_eq_true rfl, Nat.le_of_ble_eq_true rfl⟩ ⟨Nat.le_of_ble_eq_true rfl, Nat.le_of_ble_eq_true rfl⟩ dX5_part_9 (fun k hk => g_trx h hk) (fun r4 hr4 => ?_)
  have h := g_trr h hr4
  refine g_aload_n C 0 dX5_part_12 rfl ?_
  refine g_get (v := gr 1) C 0 0 (by omega) rfl rfl gu_5 (by decide) qf_X5_10 rfl dX5_part_13 ?_
  refine g_iload_n C 1 dX5_part_16 rfl ?_
  refine g_iload_n C 2 dX5_part_17 rfl ?_
  obtain ⟨q5, eq5, h⟩ := g_bd h
  refine g_calliV C 1 [gi x1, gi x2] (kX2_fact hN eq5) qs_X5_56 (by omega) (by omega) rfl rfl rfl rfl (Nat.le_of_ble_eq_true rfl) ⟨Nat.le_of_ble_eq_true rfl, Nat.le_of_ble_eq_true rfl⟩ dX5_part_18 ?_
  obtain ⟨rfl, hres⟩ := Prod.mk.inj (Option.some.inj h)
  exact g_retXi C hres.symm (Nat.le_of_ble_eq_true rfl) (Nat.le_of_ble_eq_true rfl) hr dX5_part_21

set_option maxHeartbeats 2000000 in
set_option maxRecDepth 20000 in
theorem kX5_part {l : Launch} {D : va_G} {g : gT} {N : Nat} {ad ln : Nat → Nat} (hN : 183 ≤ N) (hl : l.stackTraces = false) {A A' : gM} {x1 : Int32} {x2 : Int32} {res : Int32 ⊕ Nat} (h : mX5_part A x1 x2 = some (A', res)) : gXi l yX5_part cX5_part 3 (some .int) (8) 2 D g N ad ln A [gr 0, gi x1, gi x2] A' res := by
  refine g_metXi hl (by decide) (Nat.le_of_ble_eq_true rfl) ?_
  intro p e s m args below meth c C CX hr
  refine g_sub [0, 1, 2] rfl ?_
  exact wX5_part_b0 hN C CX hr h
def mX5_type_b0 (A : gM) (x1 : Int32) (x2 : Int32) : Option (gM × (Int32 ⊕ Nat)) :=
  (mX5_needPart A x1).bind fun q1 => g_tr q1 fun _ =>
  (mX5_needPlace q1.1 x2 5).bind fun q3 => g_tr q3 fun _ =>
  (mX3_fact q3.1 x1 x2).bind fun q5 =>
  some (q5.1, .inl q5.2)
def mX5_type (A : gM) (x1 : Int32) (x2 : Int32) : Option (gM × (Int32 ⊕ Nat)) := mX5_type_b0 A x1 x2
set_option maxHeartbeats 2000000 in
set_option maxRecDepth 20000 in
theorem wX5_type_b0 (hN : 183 ≤ N) {A0 A' : gM} {res : Int32 ⊕ Nat} (C : gC p (g_rmx 8 2 (6 * 2)) s m args meth c cX5_type RX5 3 D g (va_A (gw g ad ln A0 N) s.heap.size) 8) (CX : gCX l s c (va_A (gw g ad ln A0 N) s.heap.size)) (hr : meth.sig.returnType = some .int)  {A : gM} {x1 : Int32} {x2 : Int32} (h : mX5_type_b0 A x1 x2 = some (A', res)) : gJ p l e (g_rmx 8 2 (6 * 2)) s m args below meth c (gEXi below D g N ad ln A0 A' res 2 args s) 3 D g (va_A (gw g ad ln A0 N) s.heap.size) N ad ln A [(0, gr 0), (1, gi x1), (2, gi x2)] 0 0 0 [] := by
  unfold mX5_type_b0 at h
  refine g_aload_n C 0 dX5_type_0 rfl ?_
  refine g_iload_n C 1 dX5_type_1 rfl ?_
  obtain ⟨q1, eq1, h⟩ := g_bd h
  refine g_callvXi C CX 0 [gi x1] (kX5_needPart hN CX.1 eq1) qs_X5_38 (by omega) (by omega) rfl rfl rfl rfl (Nat.le_of_ble_eq_true rfl) ⟨Nat.le_of_ble_eq_true rfl, Nat.le_of_ble_eq_true rfl⟩ ⟨Nat.le_of_ble_eq_true rfl, Nat.le_of_ble_eq_true rfl⟩ dX5_type_2 (fun k hk => g_trx h hk) (fun r2 hr2 => ?_)
  have h := g_trr h hr2
  refine g_aload_n C 0 dX5_type_5 rfl ?_
  refine g_iload_n C 2 dX5_type_6 rfl ?_
  refine g_iconst (v := 5) C dX5_type_7 (by decide) ?_
  obtain ⟨q3, eq3, h⟩ := g_bd h
  refine g_callvXi C CX 0 [gi x2, gi 5] (kX5_needPlace hN CX.1 eq3) qs_X5_52 (by omega) (by omega) rfl rfl rfl rfl (Nat.le_of_ble_eq_true rfl) ⟨Nat.le_of_ble_eq_true rfl, Nat.le_of_ble_eq_true rfl⟩ ⟨Nat.le_of_ble_eq_true rfl, Nat.le_of_ble_eq_true rfl⟩ dX5_type_8 (fun k hk => g_trx h hk) (fun r4 hr4 => ?_)
  have h := g_trr h hr4
  refine g_aload_n C 0 dX5_type_11 rfl ?_
  refine g_get (v := gr 43) C 0 1 (by omega) rfl rfl gu_5 (by decide) qf_X5_19 rfl dX5_type_12 ?_
  refine g_iload_n C 1 dX5_type_15 rfl ?_
  refine g_iload_n C 2 dX5_type_16 rfl ?_
  obtain ⟨q5, eq5, h⟩ := g_bd h
  refine g_calliV C 43 [gi x1, gi x2] (kX3_fact hN eq5) qs_X5_60 (by omega) (by omega) rfl rfl rfl rfl (Nat.le_of_ble_eq_true rfl) ⟨Nat.le_of_ble_eq_true rfl, Nat.le_of_ble_eq_true rfl⟩ dX5_type_17 ?_
  obtain ⟨rfl, hres⟩ := Prod.mk.inj (Option.some.inj h)
  exact g_retXi C hres.symm (Nat.le_of_ble_eq_true rfl) (Nat.le_of_ble_eq_true rfl) hr dX5_type_20

set_option maxHeartbeats 2000000 in
set_option maxRecDepth 20000 in
theorem kX5_type {l : Launch} {D : va_G} {g : gT} {N : Nat} {ad ln : Nat → Nat} (hN : 183 ≤ N) (hl : l.stackTraces = false) {A A' : gM} {x1 : Int32} {x2 : Int32} {res : Int32 ⊕ Nat} (h : mX5_type A x1 x2 = some (A', res)) : gXi l yX5_type cX5_type 3 (some .int) (8) 2 D g N ad ln A [gr 0, gi x1, gi x2] A' res := by
  refine g_metXi hl (by decide) (Nat.le_of_ble_eq_true rfl) ?_
  intro p e s m args below meth c C CX hr
  refine g_sub [0, 1, 2] rfl ?_
  exact wX5_type_b0 hN C CX hr h
def mX5_code_b0 (A : gM) (x1 : Int32) (x2 : Int32) : Option (gM × (Int32 ⊕ Nat)) :=
  (mX5_needPart A x1).bind fun q1 => g_tr q1 fun _ =>
  (mX3_fact q1.1 x1 2).bind fun q3 =>
  (mX5_needPlace q3.1 x2 q3.2).bind fun q4 => g_tr q4 fun _ =>
  (mX3_codeAt q4.1 x1 x2).bind fun q6 =>
  some (q6.1, .inl q6.2)
def mX5_code (A : gM) (x1 : Int32) (x2 : Int32) : Option (gM × (Int32 ⊕ Nat)) := mX5_code_b0 A x1 x2
set_option maxHeartbeats 2000000 in
set_option maxRecDepth 20000 in
theorem wX5_code_b0 (hN : 183 ≤ N) {A0 A' : gM} {res : Int32 ⊕ Nat} (C : gC p (g_rmx 8 2 (6 * 2)) s m args meth c cX5_code RX5 3 D g (va_A (gw g ad ln A0 N) s.heap.size) 8) (CX : gCX l s c (va_A (gw g ad ln A0 N) s.heap.size)) (hr : meth.sig.returnType = some .int)  {A : gM} {x1 : Int32} {x2 : Int32} (h : mX5_code_b0 A x1 x2 = some (A', res)) : gJ p l e (g_rmx 8 2 (6 * 2)) s m args below meth c (gEXi below D g N ad ln A0 A' res 2 args s) 3 D g (va_A (gw g ad ln A0 N) s.heap.size) N ad ln A [(0, gr 0), (1, gi x1), (2, gi x2)] 0 0 0 [] := by
  unfold mX5_code_b0 at h
  refine g_aload_n C 0 dX5_code_0 rfl ?_
  refine g_iload_n C 1 dX5_code_1 rfl ?_
  obtain ⟨q1, eq1, h⟩ := g_bd h
  refine g_callvXi C CX 0 [gi x1] (kX5_needPart hN CX.1 eq1) qs_X5_38 (by omega) (by omega) rfl rfl rfl rfl (Nat.le_of_ble_eq_true rfl) ⟨Nat.le_of_ble_eq_true rfl, Nat.le_of_ble_eq_true rfl⟩ ⟨Nat.le_of_ble_eq_true rfl, Nat.le_of_ble_eq_true rfl⟩ dX5_code_2 (fun k hk => g_trx h hk) (fun r2 hr2 => ?_)
  have h := g_trr h hr2
  refine g_aload_n C 0 dX5_code_5 rfl ?_
  refine g_iload_n C 2 dX5_code_6 rfl ?_
  refine g_aload_n C 0 dX5_code_7 rfl ?_
  refine g_get (v := gr 43) C 0 1 (by omega) rfl rfl gu_5 (by decide) qf_X5_19 rfl dX5_code_8 ?_
  refine g_iload_n C 1 dX5_code_11 rfl ?_
  refine g_iconst (v := 2) C dX5_code_12 (by decide) ?_
  obtain ⟨q3, eq3, h⟩ := g_bd h
  refine g_calliV C 43 [gi x1, gi 2] (kX3_fact hN eq3) qs_X5_60 (by omega) (by omega) rfl rfl rfl rfl (Nat.le_of_ble_eq_true rfl) ⟨Nat.le_of_ble_eq_true rfl, Nat.le_of_ble_eq_true rfl⟩ dX5_code_13 ?_
  obtain ⟨q4, eq4, h⟩ := g_bd h
  refine g_callvXi C CX 0 [gi x2, gi q3.2] (kX5_needPlace hN CX.1 eq4) qs_X5_52 (by omega) (by omega) rfl rfl rfl rfl (Nat.le_of_ble_eq_true rfl) ⟨Nat.le_of_ble_eq_true rfl, Nat.le_of_ble_eq_true rfl⟩ ⟨Nat.le_of_ble_eq_true rfl, Nat.le_of_ble_eq_true rfl⟩ dX5_code_16 (fun k hk => g_trx h hk) (fun r5 hr5 => ?_)
  have h := g_trr h hr5
  refine g_aload_n C 0 dX5_code_19 rfl ?_
  refine g_get (v := gr 43) C 0 1 (by omega) rfl rfl gu_5 (by decide) qf_X5_19 rfl dX5_code_20 ?_
  refine g_iload_n C 1 dX5_code_23 rfl ?_
  refine g_iload_n C 2 dX5_code_24 rfl ?_
  obtain ⟨q6, eq6, h⟩ := g_bd h
  refine g_calliV C 43 [gi x1, gi x2] (kX3_codeAt hN eq6) qs_X5_61 (by omega) (by omega) rfl rfl rfl rfl (Nat.le_of_ble_eq_true rfl) ⟨Nat.le_of_ble_eq_true rfl, Nat.le_of_ble_eq_true rfl⟩ dX5_code_25 ?_
  obtain ⟨rfl, hres⟩ := Prod.mk.inj (Option.some.inj h)
  exact g_retXi C hres.symm (Nat.le_of_ble_eq_true rfl) (Nat.le_of_ble_eq_true rfl) hr dX5_code_28

set_option maxHeartbeats 2000000 in
set_option maxRecDepth 20000 in
theorem kX5_code {l : Launch} {D : va_G} {g : gT} {N : Nat} {ad ln : Nat → Nat} (hN : 183 ≤ N) (hl : l.stackTraces = false) {A A' : gM} {x1 : Int32} {x2 : Int32} {res : Int32 ⊕ Nat} (h : mX5_code A x1 x2 = some (A', res)) : gXi l yX5_code cX5_code 3 (some .int) (8) 2 D g N ad ln A [gr 0, gi x1, gi x2] A' res := by
  refine g_metXi hl (by decide) (Nat.le_of_ble_eq_true rfl) ?_
  intro p e s m args below meth c C CX hr
  refine g_sub [0, 1, 2] rfl ?_
  exact wX5_code_b0 hN C CX hr h
def mX5_count_b0 (A : gM) (x1 : Int32) : Option (gM × (Int32 ⊕ Nat)) :=
  (mX5_needPlace A x1 6).bind fun q1 => g_tr q1 fun _ =>
  (mX5_counted q1.1 x1).bind fun q3 =>
  some (q3.1, .inl q3.2)
def mX5_count (A : gM) (x1 : Int32) : Option (gM × (Int32 ⊕ Nat)) := mX5_count_b0 A x1
set_option maxHeartbeats 2000000 in
set_option maxRecDepth 20000 in
theorem wX5_count_b0 (hN : 183 ≤ N) {A0 A' : gM} {res : Int32 ⊕ Nat} (C : gC p (g_rmx 7 1 (6 * 1)) s m args meth c cX5_count RX5 2 D g (va_A (gw g ad ln A0 N) s.heap.size) 7) (CX : gCX l s c (va_A (gw g ad ln A0 N) s.heap.size)) (hr : meth.sig.returnType = some .int)  {A : gM} {x1 : Int32} (h : mX5_count_b0 A x1 = some (A', res)) : gJ p l e (g_rmx 7 1 (6 * 1)) s m args below meth c (gEXi below D g N ad ln A0 A' res 1 args s) 2 D g (va_A (gw g ad ln A0 N) s.heap.size) N ad ln A [(0, gr 0), (1, gi x1)] 0 0 0 [] := by
  unfold mX5_count_b0 at h
  refine g_aload_n C 0 dX5_count_0 rfl ?_
  refine g_iload_n C 1 dX5_count_1 rfl ?_
  refine g_bipush (v := 6) C dX5_count_2 (by decide) ?_
  obtain ⟨q1, eq1, h⟩ := g_bd h
  refine g_callvXi C CX 0 [gi x1, gi 6] (kX5_needPlace hN CX.1 eq1) qs_X5_52 (by omega) (by omega) rfl rfl rfl rfl (Nat.le_of_ble_eq_true rfl) ⟨Nat.le_of_ble_eq_true rfl, Nat.le_of_ble_eq_true rfl⟩ ⟨Nat.le_of_ble_eq_true rfl, Nat.le_of_ble_eq_true rfl⟩ dX5_count_4 (fun k hk => g_trx h hk) (fun r2 hr2 => ?_)
  have h := g_trr h hr2
  refine g_aload_n C 0 dX5_count_7 rfl ?_
  refine g_iload_n C 1 dX5_count_8 rfl ?_
  obtain ⟨q3, eq3, h⟩ := g_bd h
  refine g_calliV C 0 [gi x1] (kX5_counted hN eq3) qs_X5_64 (by omega) (by omega) rfl rfl rfl rfl (Nat.le_of_ble_eq_true rfl) ⟨Nat.le_of_ble_eq_true rfl, Nat.le_of_ble_eq_true rfl⟩ dX5_count_9 ?_
  obtain ⟨rfl, hres⟩ := Prod.mk.inj (Option.some.inj h)
  exact g_retXi C hres.symm (Nat.le_of_ble_eq_true rfl) (Nat.le_of_ble_eq_true rfl) hr dX5_count_12

set_option maxHeartbeats 2000000 in
set_option maxRecDepth 20000 in
theorem kX5_count {l : Launch} {D : va_G} {g : gT} {N : Nat} {ad ln : Nat → Nat} (hN : 183 ≤ N) (hl : l.stackTraces = false) {A A' : gM} {x1 : Int32} {res : Int32 ⊕ Nat} (h : mX5_count A x1 = some (A', res)) : gXi l yX5_count cX5_count 2 (some .int) (7) 1 D g N ad ln A [gr 0, gi x1] A' res := by
  refine g_metXi hl (by decide) (Nat.le_of_ble_eq_true rfl) ?_
  intro p e s m args below meth c C CX hr
  refine g_sub [0, 1] rfl ?_
  exact wX5_count_b0 hN C CX hr h
def mX5_same_b36 (A : gM) (s0 : Int32) : Option (gM × (Int32 ⊕ Nat)) :=
  if (s0 : Int32) = 0 ∨ (s0 : Int32) = 1 then some (A, .inl s0) else none
def mX5_same_b35 (A : gM) : Option (gM × (Int32 ⊕ Nat)) :=
  mX5_same_b36 A 0
def mX5_same_b0 (A : gM) (x1 : Int32) (x2 : Int32) : Option (gM × (Int32 ⊕ Nat)) :=
  (mX5_needPart A x1).bind fun q1 => g_tr q1 fun _ =>
  (mX5_needPart q1.1 x2).bind fun q3 => g_tr q3 fun _ =>
  (mX5_bothTyped q3.1 x1 x2).bind fun q5 =>
  if q5.2 = 0 then
  mX5_same_b35 q5.1
  else
  (mX3_alike q5.1 x1 x2).bind fun q7 =>
  if q7.2 = 0 then
  mX5_same_b35 q7.1
  else
  mX5_same_b36 q7.1 1
def mX5_same (A : gM) (x1 : Int32) (x2 : Int32) : Option (gM × (Int32 ⊕ Nat)) := mX5_same_b0 A x1 x2
set_option maxHeartbeats 2000000 in
set_option maxRecDepth 20000 in
theorem wX5_same_b36 (hN : 183 ≤ N) {A0 A' : gM} {res : Int32 ⊕ Nat} (C : gC p (g_rmx 8 2 (6 * 2)) s m args meth c cX5_same RX5 3 D g (va_A (gw g ad ln A0 N) s.heap.size) 8) (CX : gCX l s c (va_A (gw g ad ln A0 N) s.heap.size)) (hr : meth.sig.returnType = some .boolean)  {A : gM} {s0 : Int32} (h : mX5_same_b36 A s0 = some (A', res)) : gJ p l e (g_rmx 8 2 (6 * 2)) s m args below meth c (gEXi below D g N ad ln A0 A' res 2 args s) 3 D g (va_A (gw g ad ln A0 N) s.heap.size) N ad ln A [] 2 12 36 [gi s0] := by
  unfold mX5_same_b36 at h
  obtain ⟨hz1, h⟩ := g_gd h
  obtain ⟨rfl, hres⟩ := Prod.mk.inj (Option.some.inj h)
  exact g_retXz C hres.symm (Nat.le_of_ble_eq_true rfl) (Nat.le_of_ble_eq_true rfl) hr hz1 dX5_same_36

set_option maxHeartbeats 2000000 in
set_option maxRecDepth 20000 in
theorem wX5_same_b35 (hN : 183 ≤ N) {A0 A' : gM} {res : Int32 ⊕ Nat} (C : gC p (g_rmx 8 2 (6 * 2)) s m args meth c cX5_same RX5 3 D g (va_A (gw g ad ln A0 N) s.heap.size) 8) (CX : gCX l s c (va_A (gw g ad ln A0 N) s.heap.size)) (hr : meth.sig.returnType = some .boolean)  {A : gM} (h : mX5_same_b35 A = some (A', res)) : gJ p l e (g_rmx 8 2 (6 * 2)) s m args below meth c (gEXi below D g N ad ln A0 A' res 2 args s) 3 D g (va_A (gw g ad ln A0 N) s.heap.size) N ad ln A [] 2 12 35 [] := by
  unfold mX5_same_b35 at h
  refine g_iconst (v := 0) C dX5_same_35 (by decide) ?_
  refine g_sub [] rfl ?_
  refine g_widen (k2 := 2) (n2 := 12) (Nat.le_of_ble_eq_true rfl) (Nat.le_of_ble_eq_true rfl) ?_
  exact wX5_same_b36 hN C CX hr h

set_option maxHeartbeats 2000000 in
set_option maxRecDepth 20000 in
theorem wX5_same_b0 (hN : 183 ≤ N) {A0 A' : gM} {res : Int32 ⊕ Nat} (C : gC p (g_rmx 8 2 (6 * 2)) s m args meth c cX5_same RX5 3 D g (va_A (gw g ad ln A0 N) s.heap.size) 8) (CX : gCX l s c (va_A (gw g ad ln A0 N) s.heap.size)) (hr : meth.sig.returnType = some .boolean)  {A : gM} {x1 : Int32} {x2 : Int32} (h : mX5_same_b0 A x1 x2 = some (A', res)) : gJ p l e (g_rmx 8 2 (6 * 2)) s m args below meth c (gEXi below D g N ad ln A0 A' res 2 args s) 3 D g (va_A (gw g ad ln A0 N) s.heap.size) N ad ln A [(0, gr 0), (1, gi x1), (2, gi x2)] 0 0 0 [] := by
  unfold mX5_same_b0 at h
  refine g_aload_n C 0 dX5_same_0 rfl ?_
  refine g_iload_n C 1 dX5_same_1 rfl ?_
  obtain ⟨q1, eq1, h⟩ := g_bd h
  refine g_callvXi C CX 0 [gi x1] (kX5_needPart hN CX.1 eq1) qs_X5_38 (by omega) (by omega) rfl rfl rfl rfl (Nat.le_of_ble_eq_true rfl) ⟨Nat.le_of_ble_eq_true rfl, Nat.le_of_ble_eq_true rfl⟩ ⟨Nat.le_of_ble_eq_true rfl, Nat.le_of_ble_eq_true rfl⟩ dX5_same_2 (fun k hk => g_trx h hk) (fun r2 hr2 => ?_)
  have h := g_trr h hr2
  refine g_aload_n C 0 dX5_same_5 rfl ?_
  refine g_iload_n C 2 dX5_same_6 rfl ?_
  obtain ⟨q3, eq3, h⟩ := g_bd h
  refine g_callvXi C CX 0 [gi x2] (kX5_needPart hN CX.1 eq3) qs_X5_38 (by omega) (by omega) rfl rfl rfl rfl (Nat.le_of_ble_eq_true rfl) ⟨Nat.le_of_ble_eq_true rfl, Nat.le_of_ble_eq_true rfl⟩ ⟨Nat.le_of_ble_eq_true rfl, Nat.le_of_ble_eq_true rfl⟩ dX5_same_7 (fun k hk => g_trx h hk) (fun r4 hr4 => ?_)
  have h := g_trr h hr4
  refine g_aload_n C 0 dX5_same_10 rfl ?_
  refine g_iload_n C 1 dX5_same_11 rfl ?_
  refine g_iload_n C 2 dX5_same_12 rfl ?_
  obtain ⟨q5, eq5, h⟩ := g_bd h
  refine g_calliV C 0 [gi x1, gi x2] (kX5_bothTyped hN eq5) qs_X5_68 (by omega) (by omega) rfl rfl rfl rfl (Nat.le_of_ble_eq_true rfl) ⟨Nat.le_of_ble_eq_true rfl, Nat.le_of_ble_eq_true rfl⟩ dX5_same_13 ?_
  refine g_if_eq C dX5_same_16 (tgt := 35) (by decide) (fun c6 => ?_) (fun c6 => ?_)
  · have h := g_tt c6 h
    refine g_sub [] rfl ?_
    refine g_widen (k2 := 2) (n2 := 12) (Nat.le_of_ble_eq_true rfl) (Nat.le_of_ble_eq_true rfl) ?_
    exact wX5_same_b35 hN C CX hr h
  · have h := g_ff c6 h
    refine g_aload_n C 0 dX5_same_19 rfl ?_
    refine g_get (v := gr 43) C 0 1 (by omega) rfl rfl gu_5 (by decide) qf_X5_19 rfl dX5_same_20 ?_
    refine g_iload_n C 1 dX5_same_23 rfl ?_
    refine g_iload_n C 2 dX5_same_24 rfl ?_
    obtain ⟨q7, eq7, h⟩ := g_bd h
    refine g_calliV C 43 [gi x1, gi x2] (kX3_alike hN eq7) qs_X5_72 (by omega) (by omega) rfl rfl rfl rfl (Nat.le_of_ble_eq_true rfl) ⟨Nat.le_of_ble_eq_true rfl, Nat.le_of_ble_eq_true rfl⟩ dX5_same_25 ?_
    refine g_if_eq C dX5_same_28 (tgt := 35) (by decide) (fun c8 => ?_) (fun c8 => ?_)
    · have h := g_tt c8 h
      refine g_sub [] rfl ?_
      refine g_widen (k2 := 2) (n2 := 12) (Nat.le_of_ble_eq_true rfl) (Nat.le_of_ble_eq_true rfl) ?_
      exact wX5_same_b35 hN C CX hr h
    · have h := g_ff c8 h
      refine g_iconst (v := 1) C dX5_same_31 (by decide) ?_
      refine g_goto C dX5_same_32 (tgt := 36) (by decide) ?_
      refine g_sub [] rfl ?_
      refine g_widen (k2 := 2) (n2 := 12) (Nat.le_of_ble_eq_true rfl) (Nat.le_of_ble_eq_true rfl) ?_
      exact wX5_same_b36 hN C CX hr h

set_option maxHeartbeats 2000000 in
set_option maxRecDepth 20000 in
theorem kX5_same {l : Launch} {D : va_G} {g : gT} {N : Nat} {ad ln : Nat → Nat} (hN : 183 ≤ N) (hl : l.stackTraces = false) {A A' : gM} {x1 : Int32} {x2 : Int32} {res : Int32 ⊕ Nat} (h : mX5_same A x1 x2 = some (A', res)) : gXi l yX5_same cX5_same 3 (some .boolean) (8) 2 D g N ad ln A [gr 0, gi x1, gi x2] A' res := by
  refine g_metXi hl (by decide) (Nat.le_of_ble_eq_true rfl) ?_
  intro p e s m args below meth c C CX hr
  refine g_sub [0, 1, 2] rfl ?_
  exact wX5_same_b0 hN C CX hr h
def mX5_goes_b0 (A : gM) (x1 : Int32) (x2 : Int32) : Option (gM × (Int32 ⊕ Nat)) :=
  (mX5_needPart A x1).bind fun q1 => g_tr q1 fun _ =>
  (mX5_needPart q1.1 x2).bind fun q3 => g_tr q3 fun _ =>
  (mX5_faultOfTurning q3.1 x1 x2).bind fun q5 =>
  some (q5.1, .inl q5.2)
def mX5_goes (A : gM) (x1 : Int32) (x2 : Int32) : Option (gM × (Int32 ⊕ Nat)) := mX5_goes_b0 A x1 x2
set_option maxHeartbeats 2000000 in
set_option maxRecDepth 20000 in
theorem wX5_goes_b0 (hN : 183 ≤ N) {A0 A' : gM} {res : Int32 ⊕ Nat} (C : gC p (g_rmx 8 2 (6 * 2)) s m args meth c cX5_goes RX5 3 D g (va_A (gw g ad ln A0 N) s.heap.size) 8) (CX : gCX l s c (va_A (gw g ad ln A0 N) s.heap.size)) (hr : meth.sig.returnType = some .int)  {A : gM} {x1 : Int32} {x2 : Int32} (h : mX5_goes_b0 A x1 x2 = some (A', res)) : gJ p l e (g_rmx 8 2 (6 * 2)) s m args below meth c (gEXi below D g N ad ln A0 A' res 2 args s) 3 D g (va_A (gw g ad ln A0 N) s.heap.size) N ad ln A [(0, gr 0), (1, gi x1), (2, gi x2)] 0 0 0 [] := by
  unfold mX5_goes_b0 at h
  refine g_aload_n C 0 dX5_goes_0 rfl ?_
  refine g_iload_n C 1 dX5_goes_1 rfl ?_
  obtain ⟨q1, eq1, h⟩ := g_bd h
  refine g_callvXi C CX 0 [gi x1] (kX5_needPart hN CX.1 eq1) qs_X5_38 (by omega) (by omega) rfl rfl rfl rfl (Nat.le_of_ble_eq_true rfl) ⟨Nat.le_of_ble_eq_true rfl, Nat.le_of_ble_eq_true rfl⟩ ⟨Nat.le_of_ble_eq_true rfl, Nat.le_of_ble_eq_true rfl⟩ dX5_goes_2 (fun k hk => g_trx h hk) (fun r2 hr2 => ?_)
  have h := g_trr h hr2
  refine g_aload_n C 0 dX5_goes_5 rfl ?_
  refine g_iload_n C 2 dX5_goes_6 rfl ?_
  obtain ⟨q3, eq3, h⟩ := g_bd h
  refine g_callvXi C CX 0 [gi x2] (kX5_needPart hN CX.1 eq3) qs_X5_38 (by omega) (by omega) rfl rfl rfl rfl (Nat.le_of_ble_eq_true rfl) ⟨Nat.le_of_ble_eq_true rfl, Nat.le_of_ble_eq_true rfl⟩ ⟨Nat.le_of_ble_eq_true rfl, Nat.le_of_ble_eq_true rfl⟩ dX5_goes_7 (fun k hk => g_trx h hk) (fun r4 hr4 => ?_)
  have h := g_trr h hr4
  refine g_aload_n C 0 dX5_goes_10 rfl ?_
  refine g_iload_n C 1 dX5_goes_11 rfl ?_
  refine g_iload_n C 2 dX5_goes_12 rfl ?_
  obtain ⟨q5, eq5, h⟩ := g_bd h
  refine g_calliV C 0 [gi x1, gi x2] (kX5_faultOfTurning hN eq5) qs_X5_78 (by omega) (by omega) rfl rfl rfl rfl (Nat.le_of_ble_eq_true rfl) ⟨Nat.le_of_ble_eq_true rfl, Nat.le_of_ble_eq_true rfl⟩ dX5_goes_13 ?_
  obtain ⟨rfl, hres⟩ := Prod.mk.inj (Option.some.inj h)
  exact g_retXi C hres.symm (Nat.le_of_ble_eq_true rfl) (Nat.le_of_ble_eq_true rfl) hr dX5_goes_16

set_option maxHeartbeats 2000000 in
set_option maxRecDepth 20000 in
theorem kX5_goes {l : Launch} {D : va_G} {g : gT} {N : Nat} {ad ln : Nat → Nat} (hN : 183 ≤ N) (hl : l.stackTraces = false) {A A' : gM} {x1 : Int32} {x2 : Int32} {res : Int32 ⊕ Nat} (h : mX5_goes A x1 x2 = some (A', res)) : gXi l yX5_goes cX5_goes 3 (some .int) (8) 2 D g N ad ln A [gr 0, gi x1, gi x2] A' res := by
  refine g_metXi hl (by decide) (Nat.le_of_ble_eq_true rfl) ?_
  intro p e s m args below meth c C CX hr
  refine g_sub [0, 1, 2] rfl ?_
  exact wX5_goes_b0 hN C CX hr h
end T5
end
section
/-! THE LAW'S OWN METHODS: rows for arrays of rows, for the script, for calls; contracts of methods that make cells: N cells before, N1 behind -/
theorem g_roomx {d d' mL k n : Nat} {R : Room} (h1 : d ≤ R.frames ∧ 40 * d ≤ R.locals) (h2 : d' + 1 ≤ d) (h3 : mL ≤ 20) : (g_rmx d' k n).frames + 1 ≤ R.frames ∧ 8 + (mL + 11) + (g_rmx d' k n).locals ≤ R.locals := g_room h1 h2 h3
/-- references among values are below N -/
def g_rlt (N : Nat) : List gV → Prop
  | [] => True
  | .inl i :: r => i < N ∧ g_rlt N r
  | .inr _ :: r => g_rlt N r
theorem g_rlt_v {N : Nat} {ad ad' : Nat → Nat} (h : ∀ i, i < N → ad' i = ad i) : ∀ {vs : List gV}, g_rlt N vs → ∀ v ∈ vs, g_v ad' v = g_v ad v
  | [], _, v, hv => by cases hv
  | .inl i :: r, hr, v, hv => by
    rcases List.mem_cons.mp hv with rfl | hv
    · show Value.ref (ad' i) = .ref (ad i)
      rw [h i hr.1]
    · exact g_rlt_v h hr.2 v hv
  | .inr x :: r, hr, v, hv => by
    rcases List.mem_cons.mp hv with rfl | hv
    · rfl
    · exact g_rlt_v (vs := r) h hr v hv
theorem g_rlt_st {N : Nat} {ad ad' : Nat → Nat} (h : ∀ i, i < N → ad' i = ad i) {vs : List gV} (hr : g_rlt N vs) : vs.map (g_v ad') = vs.map (g_v ad) := List.map_congr_left (g_rlt_v h hr)
theorem g_rlt_loc {N : Nat} {ad ad' : Nat → Nat} (h : ∀ i, i < N → ad' i = ad i) {loc : List (Nat × gV)} (hr : g_rlt N (loc.map Prod.snd)) : loc.map (g_q ad') = loc.map (g_q ad) :=
  List.map_congr_left fun q hq => by
    show (q.1, g_v ad' q.2) = (q.1, g_v ad q.2)
    rw [g_rlt_v h hr q.2 (List.mem_map.mpr ⟨q, hq, rfl⟩)]
theorem g_up_o {ad : Nat → Nat} {N q : Nat} : ∀ i, i < N → va_up ad N q i = ad i := fun i hi => if_neg (by omega)
theorem g_out_ad {ad ad' : Nat → Nat} {b : Nat} (hb : b ≤ 142) (h : ∀ i, i < 183 → ad' i = ad i) : g_out ad' b = g_out ad b := by
  unfold g_out
  congr 5
  funext j
  by_cases q : j < 40
  · rw [if_pos q, if_pos q, h _ (by omega)]
  · rw [if_neg q, if_neg q]
theorem g_rf_ad {ad ad' : Nat → Nat} {f : Nat → Int32} {i : Nat} (h : ∀ j, j < i → ad' j = ad j) : g_rf ad' f i = g_rf ad f i := by
  funext j
  unfold g_rf
  by_cases q : f j < 0 ∨ i ≤ (f j).toNatClampNeg
  · rw [if_pos q, if_pos q]
  · rw [if_neg q, if_neg q, h _ (by omega)]
theorem g_ce_ad {g : gT} {ad ad' : Nat → Nat} {n N : Nat} {f : Nat → Int32} {i : Nat} (hN : 183 ≤ N) (hi : i < N) (h : ∀ i, i < N → ad' i = ad i) : g_ce g ad' n f i = g_ce g ad n f i := by
  have h1 : ∀ i, i < 183 → ad' i = ad i := fun i hi => h i (by omega)
  unfold g_ce
  rw [g_out_ad (b := 3) (by omega) h1, g_out_ad (b := 45) (by omega) h1, g_out_ad (b := 86) (by omega) h1, g_out_ad (b := 141) (by omega) h1, g_rf_ad (ad := ad) (ad' := ad') (f := f) (i := i) fun j hj => h j (by omega)]
  rw [h 130 (by omega), h 131 (by omega), h 132 (by omega), h 133 (by omega), h 134 (by omega), h 135 (by omega), h 136 (by omega), h 137 (by omega), h 1 (by omega), h 43 (by omega), h 128 (by omega), h 2 (by omega), h 44 (by omega), h 85 (by omega), h 126 (by omega), h 127 (by omega), h 129 (by omega), h 138 (by omega), h 182 (by omega), h 139 (by omega), h 140 (by omega), h 181 (by omega)]
theorem gw_len {g : gT} {ad ln : Nat → Nat} {A : gM} {N : Nat} : (gw g ad ln A N).length = N := by simp [gw]
theorem gw_push {g : gT} {ad ln : Nat → Nat} {A : gM} {N q w : Nat} {f : Nat → Int32} (hN : 183 ≤ N) : gw g (va_up ad N q) (va_up ln N w) (g_row A N f) (N + 1) = gw g ad ln A N ++ [(q, g_ce g (va_up ad N q) w f N)] := by
  apply List.ext_getElem?
  intro k
  by_cases hk : k < N
  · rw [gw_at (by omega), List.getElem?_append_left (by rw [gw_len]; exact hk), gw_at hk, g_ce_ad hN hk g_up_o, g_row_n (by omega)]
    have e1 : va_up ad N q k = ad k := if_neg (by omega)
    have e2 : g_ln (va_up ln N w) k = g_ln ln k := by
      unfold g_ln
      rw [show va_up ln N w k = ln k from if_neg (by omega)]
    rw [e1, e2]
  · by_cases e : k = N
    · subst e
      rw [gw_at (by omega), List.getElem?_append_right (by rw [gw_len]; exact Nat.le_refl _), gw_len, Nat.sub_self, g_row_s, g_ln_b hN]
      show some (va_up ad k q k, _) = some _
      rw [show va_up ad k q k = q from if_pos rfl, show va_up ln k w k = w from if_pos rfl]
    · rw [List.getElem?_eq_none_iff.mpr (by rw [gw_len]; omega), List.getElem?_eq_none_iff.mpr (by rw [List.length_append, gw_len]; simp; omega)]
/-- the script, outside As -/
def gSX (b L : Nat) (xs : Nat → Int32) (As : Nat → Prop) (U : State) (H : Heap) : Prop := va_X b L xs U H ∧ b < H.size ∧ ¬ As b
/-- what stays besides, in the law's own methods -/
def gCP (l : Launch) (s : State) (As : Nat → Prop) (b L : Nat) (xs : Nat → Int32) : Prop := l.stackTraces = false ∧ gX s ∧ gZ As s s.heap ∧ va_AOA .int s ∧ gSX b L xs As s s.heap
def g_preP (D : va_G) (g : gT) (N : Nat) (ad ln : Nat → Nat) (A : gM) (sz b L : Nat) (xs : Nat → Int32) (av : List gV) : Array Value → State → Prop :=
  va_Pc (av.map (g_v ad)) (fun U => U.heap.size = sz ∧ va_P D vwCl (gw g ad ln A N) U.heap ∧ va_K D vwCl (g_tys g) U ∧ va_D (fun _ => True) (gw g ad ln A N) ∧ gX U ∧ gZ (va_A (gw g ad ln A N) sz) U U.heap ∧ va_AOA .int U ∧ gSX b L xs (va_A (gw g ad ln A N) sz) U U.heap)
theorem va_AOA.moved {u U : State} (hvm : u.vm.Alike U.vm) (h : va_AOA .int u) : va_AOA .int U := by
  have h0 : ∃ comp c k, u.vm.findClass (FieldType.array .int).toString = some comp ∧ (u.vm.classes.findIdx? fun x => match x.kind with | .array component _ => component == comp | _ => false) = some c ∧ u.vm.classes[c]? = some k ∧ k.kind = .array comp (.array .int) ∧ u.vm.findClass ("[" ++ (FieldType.array .int).toString) = some c := by
    have h := h
    simp only [va_AOA, Cond.before, Cond.holds, Cond.value, beq_iff_eq] at h
    cases hc : u.vm.findClass (FieldType.array .int).toString with
    | none => simp [hc] at h
    | some comp =>
      simp only [hc, Option.bind_some, Option.bind_eq_some_iff, Option.map_eq_some_iff] at h
      obtain ⟨c, hi, k, hk, hb⟩ := h
      obtain ⟨hlt, hp, -⟩ := Array.findIdx?_eq_some_iff_getElem.mp hi
      have hkk : u.vm.classes[c] = k := (Array.getElem?_eq_some_iff.mp hk).2
      rw [hkk] at hp
      cases hkind : k.kind with
      | array component ty =>
        rw [hkind] at hb hp
        simp at hb hp
        exact ⟨comp, c, k, rfl, hi, hk, by rw [hkind, hp, hb.1], hb.2⟩
      | _ => rw [hkind] at hb; simp at hb
  obtain ⟨comp, c, k, h1, h2, h3, h4, h5⟩ := h0
  obtain ⟨k', hk', he⟩ := hvm.2.2 _ _ h3
  have hi : (U.vm.classes.findIdx? fun (x : Class) => match x.kind with | .array component _ => component == comp | _ => false) = some c := by
    have e1 := va_idx_bare u.vm comp
    have e2 := va_idx_bare U.vm comp
    have eb : U.vm.bare = u.vm.bare := by first | exact hvm.bare_eq | exact hvm.bare_eq.symm
    rw [eb] at e2
    exact e2.symm.trans (e1.trans h2)
  have hkind : k'.kind = .array comp (.array .int) := by rw [he]; exact h4
  have f1 : U.vm.findClass (FieldType.array .int).toString = some comp := by rw [hvm.findClass]; exact h1
  have f2 : U.vm.findClass ("[" ++ (FieldType.array .int).toString) = some c := by rw [hvm.findClass]; exact h5
  unfold va_AOA Cond.before Cond.holds
  simp only [Cond.value]
  rw [f1, Option.bind_some]
  refine (congrArg (fun o : Option Nat => (o.bind (fun c => (U.vm.classes[c]?).map fun (k : Class) => match k.kind with | .array _ ty => decide (ty = FieldType.array .int) && decide (U.vm.findClass ("[" ++ (FieldType.array .int).toString) = some c) | _ => false) == some true)) hi).trans ?_
  simp [hk', hkind, f2]
theorem gSX.moved {b L : Nat} {xs : Nat → Int32} {As : Nat → Prop} {u U : State} {H : Heap} (hvm : u.vm.Alike U.vm) (h : gSX b L xs As u H) : gSX b L xs As U H := ⟨h.1.moved hvm, h.2⟩
theorem g_blindP {D : va_G} {g : gT} {N : Nat} {ad ln : Nat → Nat} {A : gM} {sz b L : Nat} {xs : Nat → Int32} {av : List gV} : FrameBlind (g_preP D g N ad ln A sz b L xs av) := fun a U q mk h => by
  obtain ⟨q0, q1, qP, qK, qD, qX, ⟨qZ1, qZ2⟩, qO, qS⟩ := h
  exact ⟨q0, q1, qP, va_K.moved (u := U) (U := U.calling q mk a) (Vm.Alike.refl U.vm) qK, qD, qX.same rfl, ⟨vx_Zq.moved (u := U) (U := U.calling q mk a) (Vm.Alike.refl U.vm) qZ1, vx_Zq.moved (u := U) (U := U.calling q mk a) (Vm.Alike.refl U.vm) qZ2⟩, va_AOA.moved (u := U) (U := U.calling q mk a) (Vm.Alike.refl U.vm) qO, gSX.moved (u := U) (U := U.calling q mk a) (Vm.Alike.refl U.vm) qS⟩
/-- the world behind a call -/
def g_BP (D : va_G) (g : gT) (N : Nat) (ad ln : Nat → Nat) (A : gM) (sz N1 : Nat) (ln1 : Nat → Nat) (A1 : gM) (ad1 : Nat → Nat) (t : State) : Prop :=
  (∀ i, i < N → ad1 i = ad i) ∧ va_P D vwCl (gw g ad1 ln1 A1 N1) t.heap ∧ va_K D vwCl (g_tys g) t ∧ va_D (va_A (gw g ad ln A N) sz) (gw g ad1 ln1 A1 N1)
def g_QPi (D : va_G) (g : gT) (N : Nat) (ad ln : Nat → Nat) (A : gM) (sz N1 : Nat) (ln1 : Nat → Nat) (A1 : gM) (r : Int32) : Array Value → State → Outcome → State → Prop :=
  va_Qi (S := Nat → Nat) (fun x _ => x = r) (fun ad1 t => g_BP D g N ad ln A sz N1 ln1 A1 ad1 t) (va_A (gw g ad ln A N) sz)
def g_QPr (D : va_G) (g : gT) (N : Nat) (ad ln : Nat → Nat) (A : gM) (sz N1 : Nat) (ln1 : Nat → Nat) (A1 : gM) (r : Nat) : Array Value → State → Outcome → State → Prop :=
  va_Qr (S := Nat → Nat) (fun _ => True) (fun ad1 a t => a = ad1 r ∧ g_BP D g N ad ln A sz N1 ln1 A1 ad1 t) (va_A (gw g ad ln A N) sz)
def gPi (l : Launch) (y : MethodName) (bb : ByteArray) (nl : Nat) (rt : Option FieldType) (d mc ms : Nat) (D : va_G) (g : gT) (N : Nat) (ad ln : Nat → Nat) (A : gM) (b L : Nat) (xs : Nat → Int32) (av : List gV) (N1 : Nat) (ln1 : Nat → Nat) (A1 : gM) (r : Int32) : Prop :=
  ∀ sz, Met l y (g_ws y bb nl rt) (g_rmx d mc ms) (g_preP D g N ad ln A sz b L xs av) (g_QPi D g N ad ln A sz N1 ln1 A1 r) mc ms (va_A (gw g ad ln A N) sz)
def gPr (l : Launch) (y : MethodName) (bb : ByteArray) (nl : Nat) (rt : Option FieldType) (d mc ms : Nat) (D : va_G) (g : gT) (N : Nat) (ad ln : Nat → Nat) (A : gM) (b L : Nat) (xs : Nat → Int32) (av : List gV) (N1 : Nat) (ln1 : Nat → Nat) (A1 : gM) (r : Nat) : Prop :=
  ∀ sz, Met l y (g_ws y bb nl rt) (g_rmx d mc ms) (g_preP D g N ad ln A sz b L xs av) (g_QPr D g N ad ln A sz N1 ln1 A1 r) mc ms (va_A (gw g ad ln A N) sz)
theorem g_asg (vm : Vm) (c : ClassId) : vm.assignable c c = true := by
  show vm.assignableAux (255 + 1) c c = true
  rw [Vm.assignableAux]
  simp only [beq_self_eq_true, Bool.true_or]
section GP
variable {p : Program} {l : Launch} {e : Env} {R : Room} {s : State} {m : MethodId} {args : Array Value} {below : List Frame} {meth : Method} {c : Code} {Q : State → Prop} {nL : Nat} {D : va_G} {g : gT} {As : Nat → Prop} {N N0 N1 : Nat} {ad ln ad0 ln0 ln1 : Nat → Nat} {A A' A1 A0 : gM} {loc loc' : List (Nat × gV)} {k n pc : Nat} {st : List gV} {cc : ByteArray} {own : String} {d mc ms b L : Nat} {xs : Nat → Int32}
/-- where such a method must come -/
def gEPi (below : List Frame) (D : va_G) (g : gT) (N : Nat) (ad ln : Nat → Nat) (A : gM) (N1 : Nat) (ln1 : Nat → Nat) (A1 : gM) (r : Int32) (mc ms : Nat) (args : Array Value) (s : State) : State → Prop := MQ below (g_QPi D g N ad ln A s.heap.size N1 ln1 A1 r) args s mc ms (va_A (gw g ad ln A N) s.heap.size)
def gEPr (below : List Frame) (D : va_G) (g : gT) (N : Nat) (ad ln : Nat → Nat) (A : gM) (N1 : Nat) (ln1 : Nat → Nat) (A1 : gM) (r : Nat) (mc ms : Nat) (args : Array Value) (s : State) : State → Prop := MQ below (g_QPr D g N ad ln A s.heap.size N1 ln1 A1 r) args s mc ms (va_A (gw g ad ln A N) s.heap.size)
theorem g_metPi {y : MethodName} {bb : ByteArray} {nl : Nat} {rt : Option FieldType} {av : List gV} {r : Int32} (hl : l.stackTraces = false) (hpl : plainName y.cls = true) (hlen : (av.map g_cat).foldr (fun c n => (if c = 2 then 2 else 1) + n) 0 ≤ nl)
    (body : ∀ (p : Program) (e : Env) (s : State) (m : MethodId) (args : Array Value) (below : List Frame) (meth : Method) (c : Code), gC p (g_rmx d mc ms) s m args meth c bb y.cls nl D g (va_A (gw g ad ln A N) s.heap.size) d → gCP l s (va_A (gw g ad ln A N) s.heap.size) b L xs → meth.sig.returnType = rt → gJ p l e (g_rmx d mc ms) s m args below meth c (gEPi below D g N ad ln A N1 ln1 A1 r mc ms args s) nl D g (va_A (gw g ad ln A N) s.heap.size) N ad ln A (g_args 0 av) 0 0 0 []) : gPi l y bb nl rt d mc ms D g N ad ln A b L xs av N1 ln1 A1 r := by
  intro sz
  refine Met.ofW (cc := bb) (maxL := nl) (ret := rt) hpl rfl ?_
  intro p e s m args below meth c s₁ B hml hv
  obtain ⟨rfl, hsz, hP, hK, hD0, hX, hZ, hO, hSX⟩ := hv
  subst hsz
  have hts := atoms_spec (ws := g_ws y bb nl rt) B.pre
  have hown : s.vm.findClass y.cls = some m.cls := findClass_of_methodNamed B.named
  have hl2 := lv_entry (av.map (g_v ad)) (n := nl) (by rw [g_sl_len]; exact hlen)
  rw [lg_entry_eq]
  rw [g_args_map] at hl2
  exact body p e s m _ below meth c ⟨B.exec, B.bytes, hml, hown, fun w hw => hts w (List.mem_cons_of_mem _ hw), hK, fun q h => Or.inr h, B.notSynchronized, Nat.le_refl _, Nat.le_refl _⟩ ⟨hl, hX, hZ, hO, hSX⟩ B.returns s.heap [] _ hP hD0.self va_S.rf hl2
theorem g_metPr {y : MethodName} {bb : ByteArray} {nl : Nat} {rt : Option FieldType} {av : List gV} {r : Nat} (hl : l.stackTraces = false) (hpl : plainName y.cls = true) (hlen : (av.map g_cat).foldr (fun c n => (if c = 2 then 2 else 1) + n) 0 ≤ nl)
    (body : ∀ (p : Program) (e : Env) (s : State) (m : MethodId) (args : Array Value) (below : List Frame) (meth : Method) (c : Code), gC p (g_rmx d mc ms) s m args meth c bb y.cls nl D g (va_A (gw g ad ln A N) s.heap.size) d → gCP l s (va_A (gw g ad ln A N) s.heap.size) b L xs → meth.sig.returnType = rt → gJ p l e (g_rmx d mc ms) s m args below meth c (gEPr below D g N ad ln A N1 ln1 A1 r mc ms args s) nl D g (va_A (gw g ad ln A N) s.heap.size) N ad ln A (g_args 0 av) 0 0 0 []) : gPr l y bb nl rt d mc ms D g N ad ln A b L xs av N1 ln1 A1 r := by
  intro sz
  refine Met.ofW (cc := bb) (maxL := nl) (ret := rt) hpl rfl ?_
  intro p e s m args below meth c s₁ B hml hv
  obtain ⟨rfl, hsz, hP, hK, hD0, hX, hZ, hO, hSX⟩ := hv
  subst hsz
  have hts := atoms_spec (ws := g_ws y bb nl rt) B.pre
  have hown : s.vm.findClass y.cls = some m.cls := findClass_of_methodNamed B.named
  have hl2 := lv_entry (av.map (g_v ad)) (n := nl) (by rw [g_sl_len]; exact hlen)
  rw [lg_entry_eq]
  rw [g_args_map] at hl2
  exact body p e s m _ below meth c ⟨B.exec, B.bytes, hml, hown, fun w hw => hts w (List.mem_cons_of_mem _ hw), hK, fun q h => Or.inr h, B.notSynchronized, Nat.le_refl _, Nat.le_refl _⟩ ⟨hl, hX, hZ, hO, hSX⟩ B.returns s.heap [] _ hP hD0.self va_S.rf hl2
theorem g_retPi (C : gC p R s m args meth c cc own nL D g (va_A (gw g ad0 ln0 A0 N0) s.heap.size) d) (hag : ∀ i, i < N0 → ad i = ad0 i) {r : Int32} (hr : meth.sig.returnType = some .int) (hk : k ≤ mc) (hn : n ≤ ms) (hdg : decode cc pc = .ok (.ireturn, 1)) : gJ p l e R s m args below meth c (gEPi below D g N0 ad0 ln0 A0 N ln A r mc ms args s) nL D g (va_A (gw g ad0 ln0 A0 N0) s.heap.size) N ad ln A loc k n pc [gi r] := fun H locs ls hP hD hS hl => W.widen (k := mc) (n := ms) hk hn (W.iret (v := r) C.1 C.2.1 hr (fun t ht hW => ⟨⟨r, ad, rfl, rfl, hag, by rw [ht]; exact hP, va_K.moved hW.alike C.2.2.2.2.2.1, hD⟩, hS.F ht⟩) hS.2.2 hdg C.2.2.2.2.2.2.2.1)
theorem g_retPz (C : gC p R s m args meth c cc own nL D g (va_A (gw g ad0 ln0 A0 N0) s.heap.size) d) (hag : ∀ i, i < N0 → ad i = ad0 i) {r : Int32} (hr : meth.sig.returnType = some .boolean) (hz : r = 0 ∨ r = 1) (hk : k ≤ mc) (hn : n ≤ ms) (hdg : decode cc pc = .ok (.ireturn, 1)) : gJ p l e R s m args below meth c (gEPi below D g N0 ad0 ln0 A0 N ln A r mc ms args s) nL D g (va_A (gw g ad0 ln0 A0 N0) s.heap.size) N ad ln A loc k n pc [gi r] := fun H locs ls hP hD hS hl => W.widen (k := mc) (n := ms) hk hn (W.zret (v := r) C.1 C.2.1 hr (by rcases hz with rfl | rfl <;> rfl) (fun t ht hW => ⟨⟨r, ad, rfl, rfl, hag, by rw [ht]; exact hP, va_K.moved hW.alike C.2.2.2.2.2.1, hD⟩, hS.F ht⟩) hS.2.2 hdg C.2.2.2.2.2.2.2.1)
theorem g_retPr (C : gC p R s m args meth c cc own nL D g (va_A (gw g ad0 ln0 A0 N0) s.heap.size) d) (hag : ∀ i, i < N0 → ad i = ad0 i) {r : Nat} {rt : FieldType} (hr : meth.sig.returnType = some rt) (hrt : (∃ n, rt = .object n) ∨ ∃ t, rt = .array t) (hk : k ≤ mc) (hn : n ≤ ms) (hdg : decode cc pc = .ok (.areturn, 1)) : gJ p l e R s m args below meth c (gEPr below D g N0 ad0 ln0 A0 N ln A r mc ms args s) nL D g (va_A (gw g ad0 ln0 A0 N0) s.heap.size) N ad ln A loc k n pc [gr r] := fun H locs ls hP hD hS hl => W.widen (k := mc) (n := ms) hk hn (W.aret (v := .ref (ad r)) C.1 C.2.1 hr hrt (Or.inr ⟨_, rfl⟩) (fun t ht hW => ⟨⟨ad, ad r, rfl, trivial, rfl, hag, by rw [ht]; exact hP, va_K.moved hW.alike C.2.2.2.2.2.1, hD⟩, hS.F ht⟩) hS.2.2 hdg C.2.2.2.2.2.2.2.1)
theorem g_aloadX (C : gC p R s m args meth c cc own nL D g As d) (q : Nat) {x i : Nat} (hdg : decode cc pc = .ok (.aload i, 2)) (h : loc[q]? = some (i, .inr (.ref x))) (kk : gJ p l e R s m args below meth c Q nL D g As N ad ln A loc k n (pc + 2) (.inr (.ref x) :: st)) : gJ p l e R s m args below meth c Q nL D g As N ad ln A loc k n pc st := fun H locs ls hP hD hS hl => lv_aload C.1 C.2.1 hdg (g_at hl h) (kk H locs ls hP hD hS hl)
theorem g_aloadX_n (C : gC p R s m args meth c cc own nL D g As d) (q : Nat) {x : Nat} {z : Fin 4} (hdg : decode cc pc = .ok (.aload_n z, 1)) (h : loc[q]? = some ((z : Nat), .inr (.ref x))) (kk : gJ p l e R s m args below meth c Q nL D g As N ad ln A loc k n (pc + 1) (.inr (.ref x) :: st)) : gJ p l e R s m args below meth c Q nL D g As N ad ln A loc k n pc st := fun H locs ls hP hD hS hl => lv_aload_n C.1 C.2.1 hdg rfl (g_at hl h) (kk H locs ls hP hD hS hl)
theorem g_slen (C : gC p R s m args meth c cc own nL D g As d) (CX : gCP l s As b L xs) (hdg : decode cc pc = .ok (.arraylength, 1)) (kk : gJ p l e R s m args below meth c Q nL D g As N ad ln A loc k n (pc + 1) (gi (Int32.ofNat L) :: st)) : gJ p l e R s m args below meth c Q nL D g As N ad ln A loc k n pc (.inr (.ref b) :: st) := fun H locs ls hP hD hS hl => va_slen C.1 C.2.1 CX.2.2.2.2.1 CX.2.2.2.2.2.1 CX.2.2.2.2.2.2 hS hdg (kk H locs ls hP hD hS hl)
theorem g_sld (C : gC p R s m args meth c cc own nL D g As d) (CX : gCP l s As b L xs) {x : Int32} (hin : g_in x L = true) (hdg : decode cc pc = .ok (.iaload, 1)) (kk : gJ p l e R s m args below meth c Q nL D g As N ad ln A loc k n (pc + 1) (gi (xs x.toNatClampNeg) :: st)) : gJ p l e R s m args below meth c Q nL D g As N ad ln A loc k n pc (gi x :: .inr (.ref b) :: st) := fun H locs ls hP hD hS hl => va_sld C.1 C.2.1 CX.2.2.2.2.1 CX.2.2.2.2.2.1 CX.2.2.2.2.2.2 hS (g_in_vp hin) hdg (kk H locs ls hP hD hS hl)
theorem g_irem (C : gC p R s m args meth c cc own nL D g As d) {x y : Int32} (hne : ¬ y = 0) (hdg : decode cc pc = .ok (.irem, 1)) (kk : gJ p l e R s m args below meth c Q nL D g As N ad ln A loc k n (pc + 1) (gi (x - x / y * y) :: st)) : gJ p l e R s m args below meth c Q nL D g As N ad ln A loc k n pc (gi y :: gi x :: st) := fun H locs ls hP hD hS hl => lv_irem C.1 C.2.1 hdg hne (kk H locs ls hP hD hS hl)
theorem g_idiv (C : gC p R s m args meth c cc own nL D g As d) {x y : Int32} (hne : ¬ y = 0) (hdg : decode cc pc = .ok (.idiv, 1)) (kk : gJ p l e R s m args below meth c Q nL D g As N ad ln A loc k n (pc + 1) (gi (x / y) :: st)) : gJ p l e R s m args below meth c Q nL D g As N ad ln A loc k n pc (gi y :: gi x :: st) := fun H locs ls hP hD hS hl => lv_idiv C.1 C.2.1 hdg hne (kk H locs ls hP hD hS hl)
theorem g_ishr (C : gC p R s m args meth c cc own nL D g As d) {x y : Int32} (hdg : decode cc pc = .ok (.ishr, 1)) (kk : gJ p l e R s m args below meth c Q nL D g As N ad ln A loc k n (pc + 1) (gi (x >>> (y &&& 31)) :: st)) : gJ p l e R s m args below meth c Q nL D g As N ad ln A loc k n pc (gi y :: gi x :: st) := fun H locs ls hP hD hS hl => lv_ishr C.1 C.2.1 hdg (kk H locs ls hP hD hS hl)
theorem g_ifnn (C : gC p R s m args meth c cc own nL D g As d) {i tgt : Nat} {off : Int} (hdg : decode cc pc = .ok (.ifnonnull off, 3)) (ht : (pc : Int) + off = (tgt : Int)) (kk : gJ p l e R s m args below meth c Q nL D g As N ad ln A loc k n tgt st) : gJ p l e R s m args below meth c Q nL D g As N ad ln A loc k n pc (gr i :: st) := fun H locs ls hP hD hS hl => lv_ifnonnull C.1 C.2.1 hdg ht (kk H locs ls hP hD hS hl)
theorem g_ifn (C : gC p R s m args meth c cc own nL D g As d) {i : Nat} {off : Int} (hdg : decode cc pc = .ok (.ifnull off, 3)) (kk : gJ p l e R s m args below meth c Q nL D g As N ad ln A loc k n (pc + 3) st) : gJ p l e R s m args below meth c Q nL D g As N ad ln A loc k n pc (gr i :: st) := fun H locs ls hP hD hS hl => lv_ifnull C.1 C.2.1 hdg (kk H locs ls hP hD hS hl)
theorem g_jald (C : gC p R s m args meth c cc own nL D g As d) (i : Nat) {x : Int32} (hi : (i < N ∧ 183 ≤ i ∧ ln i < 1000) ∧ g_in x (ln i) = true) (hdg : decode cc pc = .ok (.iaload, 1)) (kk : gJ p l e R s m args below meth c Q nL D g As N ad ln A loc k n (pc + 1) (gi (A i x.toNatClampNeg) :: st)) : gJ p l e R s m args below meth c Q nL D g As N ad ln A loc k n pc (gi x :: gr i :: st) := fun H locs ls hP hD hS hl => va_iald C.1 C.2.1 C.2.2.2.2.2.1 hP i 0 (f := A i) (n := ln i) (cA := g.1) (by rw [gw_at hi.1.1, g_ln_b hi.1.2.1, g_ce_J hi.1.2.1 hi.1.2.2]) rfl (g_in_vp hi.2) hdg (kk H locs ls hP hD hS hl)
theorem g_jast (C : gC p R s m args meth c cc own nL D g As d) (i : Nat) {x v : Int32} {A' : gM} (hi : (i < N ∧ 183 ≤ i ∧ ln i < 1000) ∧ g_in x (ln i) = true) (hA : g_up A i x.toNatClampNeg v = A') (hdg : decode cc pc = .ok (.iastore, 1)) (kk : gJ p l e R s m args below meth c Q nL D g As N ad ln A' loc k n (pc + 1) st) : gJ p l e R s m args below meth c Q nL D g As N ad ln A loc k n pc (gi v :: gi x :: gr i :: st) := fun H locs ls hP hD hS hl => va_iast C.1 C.2.1 C.2.2.2.2.2.1 hP hD hS i 0 (f := A i) (n := ln i) (cA := g.1) (by rw [gw_at hi.1.1, g_ln_b hi.1.2.1, g_ce_J hi.1.2.1 hi.1.2.2]) rfl (g_in_vp hi.2) hdg (fun H1 locs1 hP1 hD1 hS1 => by
  have e : (gw g ad ln A N).set i (ad i, .inl (g.1, ln i, .inl (upd (A i) x.toNatClampNeg v))) = gw g ad ln A' N := by
    rw [← hA, g_up, ← gw_set hi.1.1, g_ln_b hi.1.2.1, g_ce_J hi.1.2.1 hi.1.2.2]
  rw [e] at hP1 hD1
  exact kk H1 locs1 ls hP1 hD1 hS1 hl)
theorem g_jlen (C : gC p R s m args meth c cc own nL D g As d) (i : Nat) (hi : i < N ∧ 183 ≤ i ∧ ln i < 1000) (hdg : decode cc pc = .ok (.arraylength, 1)) (kk : gJ p l e R s m args below meth c Q nL D g As N ad ln A loc k n (pc + 1) (gi (Int32.ofNat (ln i)) :: st)) : gJ p l e R s m args below meth c Q nL D g As N ad ln A loc k n pc (gr i :: st) := fun H locs ls hP hD hS hl => va_alen C.1 C.2.1 C.2.2.2.2.2.1 hP i 0 (x := (ln i, .inl (A i))) (cA := g.1) (by rw [gw_at hi.1, g_ln_b hi.2.1, g_ce_J hi.2.1 hi.2.2]) rfl rfl hdg (kk H locs ls hP hD hS hl)
theorem g_rlen (C : gC p R s m args meth c cc own nL D g As d) (i : Nat) (hi : i < N ∧ 183 ≤ i ∧ 1000 ≤ ln i) (hdg : decode cc pc = .ok (.arraylength, 1)) (kk : gJ p l e R s m args below meth c Q nL D g As N ad ln A loc k n (pc + 1) (gi (Int32.ofNat (ln i - 1000)) :: st)) : gJ p l e R s m args below meth c Q nL D g As N ad ln A loc k n pc (gr i :: st) := fun H locs ls hP hD hS hl => va_alen C.1 C.2.1 C.2.2.2.2.2.1 hP i 1 (x := (ln i - 1000, .inr (.inr (.inr (.inr (g_rf ad (A i) i)))))) (cA := g.2) (by rw [gw_at hi.1, g_ln_b hi.2.1, g_ce_R hi.2.1 hi.2.2]) rfl rfl hdg (kk H locs ls hP hD hS hl)
theorem g_rf_v {ad : Nat → Nat} {f : Nat → Int32} {i j : Nat} (h : ¬ (f j < 0 ∨ i ≤ (f j).toNatClampNeg)) : g_rf ad f i j = some (ad (f j).toNatClampNeg) := if_neg h
/-- a row out of an array of rows -/
theorem g_rald (C : gC p R s m args meth c cc own nL D g As d) (i : Nat) {x : Int32} (hi : (i < N ∧ 183 ≤ i ∧ 1000 ≤ ln i) ∧ g_in x (ln i - 1000) = true ∧ ¬ (A i x.toNatClampNeg < 0 ∨ i ≤ (A i x.toNatClampNeg).toNatClampNeg)) (hdg : decode cc pc = .ok (.aaload, 1)) (kk : gJ p l e R s m args below meth c Q nL D g As N ad ln A loc k n (pc + 1) (gr (A i x.toNatClampNeg).toNatClampNeg :: st)) : gJ p l e R s m args below meth c Q nL D g As N ad ln A loc k n pc (gi x :: gr i :: st) := fun H locs ls hP hD hS hl => by
  have hlt := g_in_lt hi.2.1
  have hin := g_in_vp hi.2.1
  have ha : H[ad i]? = some (arrV g.2 (ln i - 1000) (fun j => va_rf (g_rf ad (A i) i j))) := by
    have h1 := hP i _ (gw_at hi.1.1)
    rw [g_ln_b hi.1.2.1, g_ce_R hi.1.2.1 hi.1.2.2] at h1
    exact h1
  have hv : va_rf (g_rf ad (A i) i x.toNatClampNeg) = .ref (ad (A i x.toNatClampNeg).toNatClampNeg) := by rw [g_rf_v hi.2.2]; rfl
  exact W.aald (v := .ref (ad (A i x.toNatClampNeg).toNatClampNeg)) (ty := .array .int) C.1 C.2.1 ha ((C.2.2.2.2.2.1.2 1 _ rfl).1 (ln i - 1000) (fun j => va_rf (g_rf ad (A i) i j))) rfl (fun q => by cases q) (by show ¬ (x < 0 ∨ (arrV _ _ _).slots.size ≤ _); rw [arrV_size]; exact hin) (by show (arrV _ _ _).slots[_]? = _; rw [arrV_read _ _ hlt, hv]) rfl rfl hdg (kk H locs ls hP hD hS hl)
theorem g_rf_up {ad : Nat → Nat} {f : Nat → Int32} {i j r : Nat} (hr : r < i) (hb : i ≤ 2000000) : va_up (g_rf ad f i) j (some (ad r)) = g_rf ad (upd f j (nI r)) i := by
  funext q
  unfold g_rf va_up upd
  by_cases e : q = j
  · subst e
    rw [if_pos rfl, if_pos rfl, nI_clamp (by omega), if_neg]
    intro z
    rcases z with z | z
    · exact nI_pos (by omega) z
    · omega
  · rw [if_neg e, if_neg e]
/-- a row into an array of rows -/
theorem g_rast (C : gC p R s m args meth c cc own nL D g As d) (CX : gCP l s As b L xs) (i r : Nat) {x : Int32} {A' : gM} (hi : (i < N ∧ 183 ≤ i ∧ 1000 ≤ ln i ∧ i ≤ 2000000) ∧ g_in x (ln i - 1000) = true ∧ r < i ∧ 183 ≤ r ∧ ln r < 1000) (hA : g_up A i x.toNatClampNeg (nI r) = A') (hdg : decode cc pc = .ok (.aastore, 1)) (kk : gJ p l e R s m args below meth c Q nL D g As N ad ln A' loc k n (pc + 1) st) : gJ p l e R s m args below meth c Q nL D g As N ad ln A loc k n pc (gr r :: gi x :: gr i :: st) := fun H locs ls hP hD hS hl => by
  have hlt := g_in_lt hi.2.1
  have hin := g_in_vp hi.2.1
  have h0 : ¬ x < 0 := fun q => hin (Or.inl q)
  have ha : H[ad i]? = some (arrV g.2 (ln i - 1000) (fun j => va_rf (g_rf ad (A i) i j))) := by
    have h1 := hP i _ (gw_at hi.1.1)
    rw [g_ln_b hi.1.2.1, g_ce_R hi.1.2.1 hi.1.2.2.1] at h1
    exact h1
  have hv : H[ad r]? = some (arrV g.1 (ln r) (fun j => .int (A r j))) := by
    have h1 := hP r _ (gw_at (by omega))
    rw [g_ln_b hi.2.2.2.1, g_ce_J hi.2.2.2.1 hi.2.2.2.2] at h1
    exact h1
  obtain ⟨comp, cA, kA, k3, -, k1, k2, k4⟩ := arrayOverA_spec (va_AOA.use (A := args) CX.2.2.2.1)
  have f2 : va_RA s g.2 (.array .int) := (C.2.2.2.2.2.1.2 1 _ rfl).2
  have hcA : cA = g.2 := Option.some.inj (k4.symm.trans f2)
  rw [hcA] at k1
  have f1 : va_RA s g.1 .int := (C.2.2.2.2.2.1.2 0 _ rfl).2
  have hcomp : comp = g.1 := Option.some.inj (k3.symm.trans f1)
  subst hcomp
  obtain ⟨kI, hkI, -⟩ := Vm.findClass_spec k3
  refine W.aast C.1 C.2.1 ha (fun q h => by cases h) (fun h => by cases h) k1 k2 rfl hkI ⟨h0, by show _ < (arrV _ _ _).slots.size; rw [arrV_size]; exact hlt⟩ hv (fun q h => by cases h) hkI (g_asg _ _) rfl rfl hdg fun H1 e z oq => ?_
  have e1 : (gw g ad ln A N).set i (ad i, .inl (g.2, ln i - 1000, .inr (.inr (.inr (.inr (va_up (g_rf ad (A i) i) x.toNatClampNeg (some (ad r)))))))) = gw g ad ln A' N := by
    rw [← hA, g_up, ← gw_set hi.1.1, g_ln_b hi.1.2.1, g_ce_R hi.1.2.1 hi.1.2.2.1, g_rf_up hi.2.2.1 hi.1.2.2.2]
  have hc : va_at D vwCl (ad i, .inl (g.2, ln i - 1000, .inr (.inr (.inr (.inr (va_up (g_rf ad (A i) i) x.toNatClampNeg (some (ad r)))))))) H1 := by
    show H1[ad i]? = some (vp_cell _ _)
    rw [e]
    rw [vp_cell_q, arrV_store]
    congr 2
    funext q
    by_cases hq : q = x.toNatClampNeg
    · subst hq
      simp [updV, va_up, va_rf]
    · simp [updV, va_up, hq]
  have hP1 := hP.set hD (gw_at hi.1.1) hc oq
  have hD1 := hD.set (e := .inl (g.2, ln i - 1000, .inr (.inr (.inr (.inr (va_up (g_rf ad (A i) i) x.toNatClampNeg (some (ad r)))))))) (gw_at hi.1.1)
  rw [e1] at hP1 hD1
  exact kk H1 _ ls hP1 hD1 (hS.put z oq (hD.2 i _ (gw_at hi.1.1))) hl
/-- new int[..]: the new cell is number N -/
theorem g_newJ (C : gC p R s m args meth c cc own nL D g As d) (hN : 183 ≤ N) {x : Int32} {w : Nat} (hw : Cond.arrayClass .int ∈ gtb) (hx : ¬ x < 0 ∧ x.toNatClampNeg = w ∧ w < 1000) (hkn : k + 1 ≤ R.cells ∧ n + w ≤ R.slots) (hr : g_rlt N (loc.map Prod.snd)) (hr2 : g_rlt N st) (hdg : decode cc pc = .ok (.newarray .int, 2))
    (kk : ∀ q : Nat, gJ p l e R s m args below meth c Q nL D g As (N + 1) (va_up ad N q) (va_up ln N w) (g_row A N (fun _ => 0)) loc (k + 1) (n + w) (pc + 2) (gr N :: st)) : gJ p l e R s m args below meth c Q nL D g As N ad ln A loc k n pc (gi x :: st) := fun H locs ls hP hD hS hl => by
  refine va_newa (atype := .int) (ty := .int) (N' := w) (a0 := (w, .inl (fun _ => 0))) C.1 C.2.1 (C.2.2.2.2.1 _ hw) rfl C.2.2.2.2.2.1 hP hD hS C.2.2.2.2.2.2.1 (fun _ => rfl) hx.1 hx.2.1 (by show w * 4 ≤ 536870912; omega) hkn.1 hkn.2 hdg (fun q cA H1 hK1 hP1 hD1 hS1 => ?_)
  have hcA : cA = g.1 := by
    have h1 : va_RA s cA .int := (hK1.2 2 (cA, .int) rfl).2
    have h2 : va_RA s g.1 .int := (hK1.2 0 (g.1, .int) rfl).2
    exact Option.some.inj (h1.symm.trans h2)
  subst hcA
  have e0 : g_ce g (va_up ad N q) w (fun _ => 0) N = .inl (g.1, w, .inl (fun _ => 0)) := g_ce_J hN hx.2.2
  rw [← e0, ← gw_push hN] at hP1 hD1
  have hk := kk q H1 locs ls hP1 hD1 hS1 (by rw [g_rlt_loc g_up_o hr]; exact hl)
  have e3 : (gr N :: st).map (g_v (va_up ad N q)) = .ref q :: st.map (g_v ad) := by
    rw [List.map_cons, g_rlt_st g_up_o hr2]
    show Value.ref (va_up ad N q N) :: _ = _
    rw [show va_up ad N q N = q from if_pos rfl]
  rw [e3] at hk
  exact hk
/-- new int[..][]: the new cell is number N, its places none -/
theorem g_newR (C : gC p R s m args meth c cc own nL D g As d) (CX : gCP l s As b L xs) (hN : 183 ≤ N) {x : Int32} {w ix : Nat} (hw : Cond.classLink own ix (FieldType.array .int).toString ∈ gtb) (hx : ¬ x < 0 ∧ x.toNatClampNeg = w ∧ w < 1000) (hkn : k + 1 ≤ R.cells ∧ n + w ≤ R.slots) (hr : g_rlt N (loc.map Prod.snd)) (hr2 : g_rlt N st) (hdg : decode cc pc = .ok (.anewarray ix, 3))
    (kk : ∀ q : Nat, gJ p l e R s m args below meth c Q nL D g As (N + 1) (va_up ad N q) (va_up ln N (1000 + w)) (g_row A N (fun _ => -1)) loc (k + 1) (n + w) (pc + 3) (gr N :: st)) : gJ p l e R s m args below meth c Q nL D g As N ad ln A loc k n pc (gi x :: st) := fun H locs ls hP hD hS hl => by
  refine W.anewA C.1 C.2.1 C.2.2.2.1 (C.2.2.2.2.1 _ hw) (va_AOA.use CX.2.2.2.1) rfl hdg rfl hx.1 (by rw [hx.2.1]; omega) hkn.1 (by rw [hx.2.1]; exact hkn.2) fun cA kA comp f1 f2 f3 f4 => ?_
  rw [hx.2.1]
  have hcA : cA = g.2 := by
    have k4 : va_RA s g.2 (.array .int) := (C.2.2.2.2.2.1.2 1 _ rfl).2
    exact Option.some.inj (f1.symm.trans k4)
  subst hcA
  generalize hH1 : H.push ({ cls := g.2, slots := Array.replicate w .null, vm := .none } : Cell) = H1
  have z1 : H1.size = H.size + 1 := by rw [← hH1, Array.size_push]
  have e1 : H1[H.size]? = some (arrV g.2 w (fun _ => .null)) := by rw [← hH1, Array.getElem?_push_size, ← arrV_new]
  have o1 : ∀ q : Nat, q < H.size → H1[q]? = H[q]? := fun q hq => by rw [← hH1, Array.getElem?_push, if_neg (Nat.ne_of_lt hq)]
  have hk : ∀ (k : Nat) (x : Nat × va_E), (gw g ad ln A N)[k]? = some x → H1[x.1]? = H[x.1]? := fun k x hx => o1 x.1 ((hP k x hx).lt)
  have e0 : g_ce g (va_up ad N H.size) (1000 + w) (fun _ => -1) N = .inl (g.2, w, .inr (.inr (.inr (.inr (fun _ => none))))) := by
    rw [g_ce_R hN (by omega), show 1000 + w - 1000 = w by omega]
    have : g_rf (va_up ad N H.size) (fun _ => -1) N = fun _ => none := funext fun _ => if_pos (Or.inl (show (-1 : Int32) < 0 by decide))
    rw [this]
  have hP1 : va_P D vwCl (gw g ad ln A N ++ [(H.size, g_ce g (va_up ad N H.size) (1000 + w) (fun _ => -1) N)]) H1 := (hP.kept hk).app (fun k x hx => by
    have hz : k < 1 := (List.getElem?_eq_some_iff.mp hx).1
    rw [show k = 0 by omega] at hx
    cases hx
    rw [e0]
    show H1[H.size]? = some (vp_cell _ _)
    rw [vp_cell_q]
    exact e1)
  have hD1 : va_D As (gw g ad ln A N ++ [(H.size, g_ce g (va_up ad N H.size) (1000 + w) (fun _ => -1) N)]) := hD.push hP rfl (C.2.2.2.2.2.2.1 _ hS.1)
  have hS1 : va_S As s.heap H1 locs := ⟨Nat.le_trans hS.1 (by omega), fun x h1 h2 => (o1 x (Nat.lt_of_lt_of_le h1 hS.1)).trans (hS.2.1 x h1 h2), hS.2.2⟩
  rw [← gw_push hN] at hP1 hD1
  have hk2 := kk H.size H1 locs ls hP1 hD1 hS1 (by rw [g_rlt_loc g_up_o hr]; exact hl)
  have e3 : (gr N :: st).map (g_v (va_up ad N H.size)) = .ref H.size :: st.map (g_v ad) := by
    rw [List.map_cons, g_rlt_st g_up_o hr2]
    show Value.ref (va_up ad N H.size N) :: _ = _
    rw [show va_up ad N H.size N = H.size from if_pos rfl]
  rw [e3] at hk2
  exact hk2
/-- a call of the class's own methods that doesn't throw here -/
theorem g_callX (C : gC p R s m args meth c cc own nL D g As d) (CX : gCP l s As b L xs) (i : Nat) (as : List gV) {st0 : List gV} {Cn : String} {ci ix np mL d' c1 : Nat} {z : MethodName} {bb : ByteArray} {rt : Option FieldType} {fs : List Value} {T : u_T} {Nn : Nat} {r : Int32} (hM : gXi l z bb mL rt d' c1 D g N ad ln A (gr i :: as) A1 (.inl r)) (hs : g_site own Cn ix z bb mL rt np) (hd : d' + 1 ≤ d) (hi : i < N) (he : g_ce g ad (g_ln ln i) (A i) i = .inr (ci, fs)) (hc : vwCl[ci]? = some (Cn, T, Nn)) (hn : as.length = np) (hst : st0 = as.reverse ++ gr i :: st) (hcat : (st.map g_cat).sum ≤ 8) (hk1 : k + c1 ≤ R.cells ∧ n + 6 * c1 ≤ R.slots) (hdg : decode cc pc = .ok (.invokevirtual ix, 3)) (kk : gJ p l e R s m args below meth c Q nL D g As N ad ln A1 loc (k + c1) (n + 6 * c1) (pc + 3) (gi r :: st)) : gJ p l e R s m args below meth c Q nL D g As N ad ln A loc k n pc st0 := by
  intro H locs ls hP hD hS hl
  have hF := g_frees hD hS C.2.2.2.2.2.2.1
  refine vx_calli (vx_runV (C := Cn) (b := ad i) (As := as.map (g_v ad)) (rest := st.map (g_v ad)) ⟨C.1, C.2.1, C.2.2.1, C.2.2.2.1, C.2.2.2.2.1⟩ (hM H.size) (cwV np C.2.2.2.2.1 (g_goodV hs) rfl rfl rfl hs.2.2.2.2.2.1 (g_roomx C.2.2.2.2.2.2.2.2 hd hs.2.2.2.2.2.2)) ⟨g_blindX, va_recv C.2.2.2.2.2.1 hP (q0 := i) hc (by rw [gw_at hi, he]), fun U hU hW => ⟨rfl, by rw [hU], by rw [hU]; exact hP, va_K.moved hW.alike C.2.2.2.2.2.1, hD.weaken (fun _ _ _ _ => trivial), CX.2.1.warm hW, by rw [hU]; exact g_zNow CX.2.2.1 C.2.2.2.2.2.2.1 hD hS hW.alike⟩⟩ rfl (by rw [List.length_map]; exact hn) hl.1 (by show st0.map (g_v ad) = _; rw [hst]; simp [g_v]) (g_lv hcat) hdg ⟨hk1.1, hk1.2⟩) hS (fun q _ h => hF q h) hF (fun q _ h => hF q h) (fun E ce q9 u t H1 locs1 ht hvm hw hB hz1 hk1 hS hce hcv hcl => ?_) (fun r2 u t H1 locs1 ht hvm hw hB hz1 hk1 hS => ?_)
  · obtain ⟨j, hj, -⟩ := hB
    cases hj
  · obtain ⟨hP1, hK1, hD1⟩ := hB
    rw [ht] at hP1
    have hw : (Sum.inl r : Int32 ⊕ Nat) = .inl r2 := hw
    cases hw
    exact kk H1 locs1 ls hP1 (hD1.weaken (fun _ _ _ h => hF _ h)) hS hl
theorem g_preNow (C : gC p R s m args meth c cc own nL D g As d) (CX : gCP l s As b L xs) {as : List gV} {H : Heap} {locs : List Loc} (hP : va_P D vwCl (gw g ad ln A N) H) (hD : va_D As (gw g ad ln A N)) (hS : va_S As s.heap H locs) {U : State} (hU : U.heap = H) (hW : s.WarmedH U.vm) : g_preP D g N ad ln A H.size b L xs as (as.map (g_v ad)).toArray U := by
  have hF := g_frees hD hS C.2.2.2.2.2.2.1
  refine ⟨rfl, by rw [hU], by rw [hU]; exact hP, va_K.moved hW.alike C.2.2.2.2.2.1, hD.weaken (fun _ _ _ _ => trivial), CX.2.1.warm hW, by rw [hU]; exact g_zNow CX.2.2.1 C.2.2.2.2.2.2.1 hD hS hW.alike, va_AOA.moved hW.alike CX.2.2.2.1, ?_⟩
  obtain ⟨x1, x2, x3⟩ := CX.2.2.2.2
  rw [hU]
  exact ⟨(x1.kept (hS.2.1 b x2 x3)).moved hW.alike, Nat.lt_of_lt_of_le x2 hS.1, fun q => x3 (hF b q)⟩
/-- calls of the law's own methods -/
theorem g_callPi (C : gC p R s m args meth c cc own nL D g As d) (CX : gCP l s As b L xs) (as : List gV) {st0 : List gV} {ix np mL d' : Nat} {z : MethodName} {bb : ByteArray} {rt : Option FieldType} {r : Int32} (hM : gPi l z bb mL rt d' mc ms D g N ad ln A b L xs as N1 ln1 A1 r) (hs : g_siteS own ix z bb mL rt np) (hd : d' + 1 ≤ d) (hn : as.length = np) (hst : st0 = as.reverse ++ st) (hcat : (st.map g_cat).sum ≤ 8) (hkn : k + mc ≤ R.cells ∧ n + ms ≤ R.slots) (hr : g_rlt N (loc.map Prod.snd)) (hr2 : g_rlt N st) (hdg : decode cc pc = .ok (.invokestatic ix, 3)) (kk : ∀ (ad1 : Nat → Nat), (∀ i, i < N → ad1 i = ad i) → gJ p l e R s m args below meth c Q nL D g As N1 ad1 ln1 A1 loc (k + mc) (n + ms) (pc + 3) (gi r :: st)) : gJ p l e R s m args below meth c Q nL D g As N ad ln A loc k n pc st0 := by
  intro H locs ls hP hD hS hl
  have hF := g_frees hD hS C.2.2.2.2.2.2.1
  refine va_calli (va_runS (As := as.map (g_v ad)) (rest := st.map (g_v ad)) ⟨C.1, C.2.1, C.2.2.1, C.2.2.2.1, C.2.2.2.2.1⟩ (hM H.size) (cwS np C.2.2.2.2.1 (g_goodS hs) rfl rfl rfl hs.2.2.2.2.1 (g_roomx C.2.2.2.2.2.2.2.2 hd hs.2.2.2.2.2)) ⟨g_blindP, fun U hU hW => g_preNow C CX hP hD hS hU hW⟩ rfl (by rw [List.length_map]; exact hn) hl.1 (by show st0.map (g_v ad) = _; rw [hst]; simp [g_v]) (g_lv hcat) hdg hkn) hS (fun q _ h => hF q h) hF (fun r2 ad1 t H1 locs1 ht hvm hw hB hz1 hk1 hS => ?_)
  subst hw
  obtain ⟨hag, hP1, hK1, hD1⟩ := hB
  rw [ht] at hP1
  have e3 : (gi r2 :: st).map (g_v ad1) = .int r2 :: st.map (g_v ad) := by rw [List.map_cons, g_rlt_st hag hr2]; rfl
  have hk := kk ad1 hag H1 locs1 ls hP1 (hD1.weaken (fun _ _ _ h => hF _ h)) hS (by rw [g_rlt_loc hag hr]; exact hl)
  rw [e3] at hk
  exact hk
theorem g_callPr (C : gC p R s m args meth c cc own nL D g As d) (CX : gCP l s As b L xs) (as : List gV) {st0 : List gV} {ix np mL d' : Nat} {z : MethodName} {bb : ByteArray} {rt : Option FieldType} {r : Nat} (hM : gPr l z bb mL rt d' mc ms D g N ad ln A b L xs as N1 ln1 A1 r) (hs : g_siteS own ix z bb mL rt np) (hd : d' + 1 ≤ d) (hn : as.length = np) (hst : st0 = as.reverse ++ st) (hcat : (st.map g_cat).sum ≤ 8) (hkn : k + mc ≤ R.cells ∧ n + ms ≤ R.slots) (hr : g_rlt N (loc.map Prod.snd)) (hr2 : g_rlt N st) (hdg : decode cc pc = .ok (.invokestatic ix, 3)) (kk : ∀ (ad1 : Nat → Nat), (∀ i, i < N → ad1 i = ad i) → gJ p l e R s m args below meth c Q nL D g As N1 ad1 ln1 A1 loc (k + mc) (n + ms) (pc + 3) (gr r :: st)) : gJ p l e R s m args below meth c Q nL D g As N ad ln A loc k n pc st0 := by
  intro H locs ls hP hD hS hl
  have hF := g_frees hD hS C.2.2.2.2.2.2.1
  refine va_callr (va_runS (As := as.map (g_v ad)) (rest := st.map (g_v ad)) ⟨C.1, C.2.1, C.2.2.1, C.2.2.2.1, C.2.2.2.2.1⟩ (hM H.size) (cwS np C.2.2.2.2.1 (g_goodS hs) rfl rfl rfl hs.2.2.2.2.1 (g_roomx C.2.2.2.2.2.2.2.2 hd hs.2.2.2.2.2)) ⟨g_blindP, fun U hU hW => g_preNow C CX hP hD hS hU hW⟩ rfl (by rw [List.length_map]; exact hn) hl.1 (by show st0.map (g_v ad) = _; rw [hst]; simp [g_v]) (g_lv hcat) hdg hkn) hS (fun q _ h => hF q h) hF (fun ad1 ra t H1 locs1 ht hvm hw hB hz1 hk1 hS => ?_)
  obtain ⟨rfl, hag, hP1, hK1, hD1⟩ := hB
  rw [ht] at hP1
  have e3 : (gr r :: st).map (g_v ad1) = .ref (ad1 r) :: st.map (g_v ad) := by rw [List.map_cons, g_rlt_st hag hr2]; rfl
  have hk := kk ad1 hag H1 locs1 ls hP1 (hD1.weaken (fun _ _ _ h => hF _ h)) hS (by rw [g_rlt_loc hag hr]; exact hl)
  rw [e3] at hk
  exact hk
end GP
end
