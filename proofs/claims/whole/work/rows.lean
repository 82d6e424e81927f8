section
-- ===== PART A: goes FIRST, ahead of the names: the tables' words, and 'selects' of the private methods out of them =====
/-- a private method of a class that the tables say can be made, by its rows of tables_1 -/
def lw_okq (q : MethodName × Nat) : Prop := (q.1.cls ≠ "java/lang/invoke/MethodHandle" ∧ q.1.cls ≠ "java/lang/invoke/VarHandle") ∧ Cond.instantiable q.1.cls q.2 ∈ tables_1 ∧ Cond.privateMethod q.1 ∈ tables_1 ∧ Cond.instanceMethod q.1 ∈ tables_1
theorem lw_p0 : lw_okq (⟨"GearTypes", "counted", "(I)I"⟩, 3) := ⟨⟨by decide +kernel, by decide +kernel⟩, List.mem_of_getElem? (i := 17) (by decide +kernel), List.mem_of_getElem? (i := 169) (by decide +kernel), List.mem_of_getElem? (i := 170) (by decide +kernel)⟩
theorem lw_p1 : lw_okq (⟨"GearTypes", "needBetween", "(III)V"⟩, 3) := ⟨⟨by decide +kernel, by decide +kernel⟩, List.mem_of_getElem? (i := 17) (by decide +kernel), List.mem_of_getElem? (i := 196) (by decide +kernel), List.mem_of_getElem? (i := 197) (by decide +kernel)⟩
theorem lw_p2 : lw_okq (⟨"java/lang/Throwable", "fillInStackTrace", "(I)Ljava/lang/Throwable;"⟩, 6) := ⟨⟨by decide +kernel, by decide +kernel⟩, List.mem_of_getElem? (i := 238) (by decide +kernel), List.mem_of_getElem? (i := 236) (by decide +kernel), List.mem_of_getElem? (i := 237) (by decide +kernel)⟩
theorem lw_p3 : lw_okq (⟨"GearTypes", "add", "(IIIII)I"⟩, 3) := ⟨⟨by decide +kernel, by decide +kernel⟩, List.mem_of_getElem? (i := 17) (by decide +kernel), List.mem_of_getElem? (i := 263) (by decide +kernel), List.mem_of_getElem? (i := 264) (by decide +kernel)⟩
theorem lw_p4 : lw_okq (⟨"GearTypes$Parts", "sizeOf", "(I)I"⟩, 2) := ⟨⟨by decide +kernel, by decide +kernel⟩, List.mem_of_getElem? (i := 25) (by decide +kernel), List.mem_of_getElem? (i := 271) (by decide +kernel), List.mem_of_getElem? (i := 272) (by decide +kernel)⟩
theorem lw_p5 : lw_okq (⟨"GearTypes$Parts", "depthOf", "(I)I"⟩, 2) := ⟨⟨by decide +kernel, by decide +kernel⟩, List.mem_of_getElem? (i := 25) (by decide +kernel), List.mem_of_getElem? (i := 296) (by decide +kernel), List.mem_of_getElem? (i := 297) (by decide +kernel)⟩
theorem lw_p6 : lw_okq (⟨"GearTypes$Finder", "find", "(LGearTypes$Parts;II)I"⟩, 5) := ⟨⟨by decide +kernel, by decide +kernel⟩, List.mem_of_getElem? (i := 61) (by decide +kernel), List.mem_of_getElem? (i := 319) (by decide +kernel), List.mem_of_getElem? (i := 320) (by decide +kernel)⟩
theorem lw_p7 : lw_okq (⟨"GearTypes$Finder", "fail", "(II)I"⟩, 5) := ⟨⟨by decide +kernel, by decide +kernel⟩, List.mem_of_getElem? (i := 61) (by decide +kernel), List.mem_of_getElem? (i := 323) (by decide +kernel), List.mem_of_getElem? (i := 324) (by decide +kernel)⟩
theorem lw_p8 : lw_okq (⟨"GearTypes$Finder", "findName", "(LGearTypes$Parts;I)I"⟩, 5) := ⟨⟨by decide +kernel, by decide +kernel⟩, List.mem_of_getElem? (i := 61) (by decide +kernel), List.mem_of_getElem? (i := 328) (by decide +kernel), List.mem_of_getElem? (i := 329) (by decide +kernel)⟩
theorem lw_p9 : lw_okq (⟨"GearTypes$Types", "isPair", "(I)Z"⟩, 11) := ⟨⟨by decide +kernel, by decide +kernel⟩, List.mem_of_getElem? (i := 67) (by decide +kernel), List.mem_of_getElem? (i := 352) (by decide +kernel), List.mem_of_getElem? (i := 353) (by decide +kernel)⟩
theorem lw_p10 : lw_okq (⟨"GearTypes$Types", "variableAt", "(I)I"⟩, 11) := ⟨⟨by decide +kernel, by decide +kernel⟩, List.mem_of_getElem? (i := 67) (by decide +kernel), List.mem_of_getElem? (i := 364) (by decide +kernel), List.mem_of_getElem? (i := 365) (by decide +kernel)⟩
theorem lw_p11 : lw_okq (⟨"GearTypes$Finder", "findWheel", "(LGearTypes$Parts;II)I"⟩, 5) := ⟨⟨by decide +kernel, by decide +kernel⟩, List.mem_of_getElem? (i := 61) (by decide +kernel), List.mem_of_getElem? (i := 368) (by decide +kernel), List.mem_of_getElem? (i := 369) (by decide +kernel)⟩
theorem lw_p12 : lw_okq (⟨"GearTypes$Finder", "findTurning", "(LGearTypes$Parts;II)I"⟩, 5) := ⟨⟨by decide +kernel, by decide +kernel⟩, List.mem_of_getElem? (i := 61) (by decide +kernel), List.mem_of_getElem? (i := 389) (by decide +kernel), List.mem_of_getElem? (i := 390) (by decide +kernel)⟩
theorem lw_p13 : lw_okq (⟨"GearTypes$Types", "putPair", "(III)I"⟩, 11) := ⟨⟨by decide +kernel, by decide +kernel⟩, List.mem_of_getElem? (i := 67) (by decide +kernel), List.mem_of_getElem? (i := 397) (by decide +kernel), List.mem_of_getElem? (i := 398) (by decide +kernel)⟩
theorem lw_p14 : lw_okq (⟨"GearTypes$Types", "give", "(II)V"⟩, 11) := ⟨⟨by decide +kernel, by decide +kernel⟩, List.mem_of_getElem? (i := 67) (by decide +kernel), List.mem_of_getElem? (i := 402) (by decide +kernel), List.mem_of_getElem? (i := 403) (by decide +kernel)⟩
theorem lw_p15 : lw_okq (⟨"GearTypes$Types", "resolve", "(I)I"⟩, 11) := ⟨⟨by decide +kernel, by decide +kernel⟩, List.mem_of_getElem? (i := 67) (by decide +kernel), List.mem_of_getElem? (i := 406) (by decide +kernel), List.mem_of_getElem? (i := 407) (by decide +kernel)⟩
def lw_privs_1 : List (MethodName × Nat) := [(⟨"GearTypes", "counted", "(I)I"⟩, 3), (⟨"GearTypes", "needBetween", "(III)V"⟩, 3), (⟨"java/lang/Throwable", "fillInStackTrace", "(I)Ljava/lang/Throwable;"⟩, 6), (⟨"GearTypes", "add", "(IIIII)I"⟩, 3), (⟨"GearTypes$Parts", "sizeOf", "(I)I"⟩, 2), (⟨"GearTypes$Parts", "depthOf", "(I)I"⟩, 2), (⟨"GearTypes$Finder", "find", "(LGearTypes$Parts;II)I"⟩, 5), (⟨"GearTypes$Finder", "fail", "(II)I"⟩, 5), (⟨"GearTypes$Finder", "findName", "(LGearTypes$Parts;I)I"⟩, 5), (⟨"GearTypes$Types", "isPair", "(I)Z"⟩, 11), (⟨"GearTypes$Types", "variableAt", "(I)I"⟩, 11), (⟨"GearTypes$Finder", "findWheel", "(LGearTypes$Parts;II)I"⟩, 5), (⟨"GearTypes$Finder", "findTurning", "(LGearTypes$Parts;II)I"⟩, 5), (⟨"GearTypes$Types", "putPair", "(III)I"⟩, 11), (⟨"GearTypes$Types", "give", "(II)V"⟩, 11), (⟨"GearTypes$Types", "resolve", "(I)I"⟩, 11)]
theorem lw_r1 : ∀ q ∈ lw_privs_1, lw_okq q := List.forall_mem_cons.mpr ⟨lw_p0, List.forall_mem_cons.mpr ⟨lw_p1, List.forall_mem_cons.mpr ⟨lw_p2, List.forall_mem_cons.mpr ⟨lw_p3, List.forall_mem_cons.mpr ⟨lw_p4, List.forall_mem_cons.mpr ⟨lw_p5, List.forall_mem_cons.mpr ⟨lw_p6, List.forall_mem_cons.mpr ⟨lw_p7, List.forall_mem_cons.mpr ⟨lw_p8, List.forall_mem_cons.mpr ⟨lw_p9, List.forall_mem_cons.mpr ⟨lw_p10, List.forall_mem_cons.mpr ⟨lw_p11, List.forall_mem_cons.mpr ⟨lw_p12, List.forall_mem_cons.mpr ⟨lw_p13, List.forall_mem_cons.mpr ⟨lw_p14, List.forall_mem_cons.mpr ⟨lw_p15, fun _ h => absurd h List.not_mem_nil⟩⟩⟩⟩⟩⟩⟩⟩⟩⟩⟩⟩⟩⟩⟩⟩
theorem lw_p16 : lw_okq (⟨"GearTypes$Finder", "findTelling", "(LGearTypes$Parts;II)I"⟩, 5) := ⟨⟨by decide +kernel, by decide +kernel⟩, List.mem_of_getElem? (i := 61) (by decide +kernel), List.mem_of_getElem? (i := 418) (by decide +kernel), List.mem_of_getElem? (i := 419) (by decide +kernel)⟩
theorem lw_p17 : lw_okq (⟨"GearTypes$Types", "codeOf", "(I)I"⟩, 11) := ⟨⟨by decide +kernel, by decide +kernel⟩, List.mem_of_getElem? (i := 67) (by decide +kernel), List.mem_of_getElem? (i := 434) (by decide +kernel), List.mem_of_getElem? (i := 435) (by decide +kernel)⟩
theorem lw_p18 : lw_okq (⟨"GearTypes$Types", "seatOf", "(I)I"⟩, 11) := ⟨⟨by decide +kernel, by decide +kernel⟩, List.mem_of_getElem? (i := 67) (by decide +kernel), List.mem_of_getElem? (i := 439) (by decide +kernel), List.mem_of_getElem? (i := 440) (by decide +kernel)⟩
theorem lw_p19 : lw_okq (⟨"GearTypes$Finder", "findAxle", "(LGearTypes$Parts;II)I"⟩, 5) := ⟨⟨by decide +kernel, by decide +kernel⟩, List.mem_of_getElem? (i := 61) (by decide +kernel), List.mem_of_getElem? (i := 443) (by decide +kernel), List.mem_of_getElem? (i := 444) (by decide +kernel)⟩
theorem lw_p20 : lw_okq (⟨"GearTypes$Finder", "findEnd", "(LGearTypes$Parts;II)I"⟩, 5) := ⟨⟨by decide +kernel, by decide +kernel⟩, List.mem_of_getElem? (i := 61) (by decide +kernel), List.mem_of_getElem? (i := 447) (by decide +kernel), List.mem_of_getElem? (i := 448) (by decide +kernel)⟩
theorem lw_p21 : lw_okq (⟨"GearTypes$Finder", "findChoice", "(LGearTypes$Parts;II)I"⟩, 5) := ⟨⟨by decide +kernel, by decide +kernel⟩, List.mem_of_getElem? (i := 61) (by decide +kernel), List.mem_of_getElem? (i := 451) (by decide +kernel), List.mem_of_getElem? (i := 452) (by decide +kernel)⟩
theorem lw_p22 : lw_okq (⟨"GearTypes$Finder", "isTooLong", "(I)Z"⟩, 5) := ⟨⟨by decide +kernel, by decide +kernel⟩, List.mem_of_getElem? (i := 61) (by decide +kernel), List.mem_of_getElem? (i := 455) (by decide +kernel), List.mem_of_getElem? (i := 456) (by decide +kernel)⟩
theorem lw_p23 : lw_okq (⟨"GearTypes$Rows", "putFacts", "(IIII)V"⟩, 4) := ⟨⟨by decide +kernel, by decide +kernel⟩, List.mem_of_getElem? (i := 41) (by decide +kernel), List.mem_of_getElem? (i := 463) (by decide +kernel), List.mem_of_getElem? (i := 464) (by decide +kernel)⟩
theorem lw_p24 : lw_okq (⟨"GearTypes$Rows", "variablesIn", "(II)I"⟩, 4) := ⟨⟨by decide +kernel, by decide +kernel⟩, List.mem_of_getElem? (i := 41) (by decide +kernel), List.mem_of_getElem? (i := 467) (by decide +kernel), List.mem_of_getElem? (i := 468) (by decide +kernel)⟩
theorem lw_p25 : lw_okq (⟨"GearTypes$Rows", "depthOf", "(II)I"⟩, 4) := ⟨⟨by decide +kernel, by decide +kernel⟩, List.mem_of_getElem? (i := 41) (by decide +kernel), List.mem_of_getElem? (i := 473) (by decide +kernel), List.mem_of_getElem? (i := 474) (by decide +kernel)⟩
theorem lw_p26 : lw_okq (⟨"GearTypes$Rows", "isPair", "(I)Z"⟩, 4) := ⟨⟨by decide +kernel, by decide +kernel⟩, List.mem_of_getElem? (i := 41) (by decide +kernel), List.mem_of_getElem? (i := 477) (by decide +kernel), List.mem_of_getElem? (i := 478) (by decide +kernel)⟩
theorem lw_p27 : lw_okq (⟨"GearTypes", "needPart", "(I)V"⟩, 3) := ⟨⟨by decide +kernel, by decide +kernel⟩, List.mem_of_getElem? (i := 17) (by decide +kernel), List.mem_of_getElem? (i := 502) (by decide +kernel), List.mem_of_getElem? (i := 503) (by decide +kernel)⟩
theorem lw_p28 : lw_okq (⟨"GearTypes", "needPlace", "(II)V"⟩, 3) := ⟨⟨by decide +kernel, by decide +kernel⟩, List.mem_of_getElem? (i := 17) (by decide +kernel), List.mem_of_getElem? (i := 506) (by decide +kernel), List.mem_of_getElem? (i := 507) (by decide +kernel)⟩
theorem lw_p29 : lw_okq (⟨"GearTypes", "bothTyped", "(II)Z"⟩, 3) := ⟨⟨by decide +kernel, by decide +kernel⟩, List.mem_of_getElem? (i := 17) (by decide +kernel), List.mem_of_getElem? (i := 606) (by decide +kernel), List.mem_of_getElem? (i := 607) (by decide +kernel)⟩
theorem lw_p30 : lw_okq (⟨"GearTypes$Rows", "endOf", "(II)I"⟩, 4) := ⟨⟨by decide +kernel, by decide +kernel⟩, List.mem_of_getElem? (i := 41) (by decide +kernel), List.mem_of_getElem? (i := 626) (by decide +kernel), List.mem_of_getElem? (i := 627) (by decide +kernel)⟩
theorem lw_p31 : lw_okq (⟨"GearTypes$Rows", "standsFor", "(IIII)Z"⟩, 4) := ⟨⟨by decide +kernel, by decide +kernel⟩, List.mem_of_getElem? (i := 41) (by decide +kernel), List.mem_of_getElem? (i := 630) (by decide +kernel), List.mem_of_getElem? (i := 631) (by decide +kernel)⟩
def lw_privs_2 : List (MethodName × Nat) := [(⟨"GearTypes$Finder", "findTelling", "(LGearTypes$Parts;II)I"⟩, 5), (⟨"GearTypes$Types", "codeOf", "(I)I"⟩, 11), (⟨"GearTypes$Types", "seatOf", "(I)I"⟩, 11), (⟨"GearTypes$Finder", "findAxle", "(LGearTypes$Parts;II)I"⟩, 5), (⟨"GearTypes$Finder", "findEnd", "(LGearTypes$Parts;II)I"⟩, 5), (⟨"GearTypes$Finder", "findChoice", "(LGearTypes$Parts;II)I"⟩, 5), (⟨"GearTypes$Finder", "isTooLong", "(I)Z"⟩, 5), (⟨"GearTypes$Rows", "putFacts", "(IIII)V"⟩, 4), (⟨"GearTypes$Rows", "variablesIn", "(II)I"⟩, 4), (⟨"GearTypes$Rows", "depthOf", "(II)I"⟩, 4), (⟨"GearTypes$Rows", "isPair", "(I)Z"⟩, 4), (⟨"GearTypes", "needPart", "(I)V"⟩, 3), (⟨"GearTypes", "needPlace", "(II)V"⟩, 3), (⟨"GearTypes", "bothTyped", "(II)Z"⟩, 3), (⟨"GearTypes$Rows", "endOf", "(II)I"⟩, 4), (⟨"GearTypes$Rows", "standsFor", "(IIII)Z"⟩, 4)]
theorem lw_r2 : ∀ q ∈ lw_privs_2, lw_okq q := List.forall_mem_cons.mpr ⟨lw_p16, List.forall_mem_cons.mpr ⟨lw_p17, List.forall_mem_cons.mpr ⟨lw_p18, List.forall_mem_cons.mpr ⟨lw_p19, List.forall_mem_cons.mpr ⟨lw_p20, List.forall_mem_cons.mpr ⟨lw_p21, List.forall_mem_cons.mpr ⟨lw_p22, List.forall_mem_cons.mpr ⟨lw_p23, List.forall_mem_cons.mpr ⟨lw_p24, List.forall_mem_cons.mpr ⟨lw_p25, List.forall_mem_cons.mpr ⟨lw_p26, List.forall_mem_cons.mpr ⟨lw_p27, List.forall_mem_cons.mpr ⟨lw_p28, List.forall_mem_cons.mpr ⟨lw_p29, List.forall_mem_cons.mpr ⟨lw_p30, List.forall_mem_cons.mpr ⟨lw_p31, fun _ h => absurd h List.not_mem_nil⟩⟩⟩⟩⟩⟩⟩⟩⟩⟩⟩⟩⟩⟩⟩⟩
theorem lw_p32 : lw_okq (⟨"GearTypes", "faultOfTurning", "(II)I"⟩, 3) := ⟨⟨by decide +kernel, by decide +kernel⟩, List.mem_of_getElem? (i := 17) (by decide +kernel), List.mem_of_getElem? (i := 641) (by decide +kernel), List.mem_of_getElem? (i := 642) (by decide +kernel)⟩
theorem lw_p33 : lw_okq (⟨"GearTypes$Finder", "buildRow", "(LGearTypes$Rows;I)I"⟩, 5) := ⟨⟨by decide +kernel, by decide +kernel⟩, List.mem_of_getElem? (i := 61) (by decide +kernel), List.mem_of_getElem? (i := 649) (by decide +kernel), List.mem_of_getElem? (i := 650) (by decide +kernel)⟩
theorem lw_p34 : lw_okq (⟨"GearTypesModel", "made", "(IIIIII)I"⟩, 14) := ⟨⟨by decide +kernel, by decide +kernel⟩, List.mem_of_getElem? (i := 662) (by decide +kernel), List.mem_of_getElem? (i := 723) (by decide +kernel), List.mem_of_getElem? (i := 724) (by decide +kernel)⟩
theorem lw_p35 : lw_okq (⟨"GearTypesModel", "size", "(I)I"⟩, 14) := ⟨⟨by decide +kernel, by decide +kernel⟩, List.mem_of_getElem? (i := 662) (by decide +kernel), List.mem_of_getElem? (i := 727) (by decide +kernel), List.mem_of_getElem? (i := 728) (by decide +kernel)⟩
theorem lw_p36 : lw_okq (⟨"GearTypesModel", "pa", "(II)I"⟩, 14) := ⟨⟨by decide +kernel, by decide +kernel⟩, List.mem_of_getElem? (i := 662) (by decide +kernel), List.mem_of_getElem? (i := 731) (by decide +kernel), List.mem_of_getElem? (i := 732) (by decide +kernel)⟩
theorem lw_p37 : lw_okq (⟨"GearTypesModel", "fail", "(I)I"⟩, 14) := ⟨⟨by decide +kernel, by decide +kernel⟩, List.mem_of_getElem? (i := 662) (by decide +kernel), List.mem_of_getElem? (i := 735) (by decide +kernel), List.mem_of_getElem? (i := 736) (by decide +kernel)⟩
theorem lw_p38 : lw_okq (⟨"GearTypesModel", "put", "(IIIII)V"⟩, 14) := ⟨⟨by decide +kernel, by decide +kernel⟩, List.mem_of_getElem? (i := 662) (by decide +kernel), List.mem_of_getElem? (i := 739) (by decide +kernel), List.mem_of_getElem? (i := 740) (by decide +kernel)⟩
theorem lw_p39 : lw_okq (⟨"GearTypesModel", "isPart", "(I)Z"⟩, 14) := ⟨⟨by decide +kernel, by decide +kernel⟩, List.mem_of_getElem? (i := 662) (by decide +kernel), List.mem_of_getElem? (i := 757) (by decide +kernel), List.mem_of_getElem? (i := 758) (by decide +kernel)⟩
theorem lw_p40 : lw_okq (⟨"GearTypesModel", "partTold", "(II)I"⟩, 14) := ⟨⟨by decide +kernel, by decide +kernel⟩, List.mem_of_getElem? (i := 662) (by decide +kernel), List.mem_of_getElem? (i := 789) (by decide +kernel), List.mem_of_getElem? (i := 790) (by decide +kernel)⟩
theorem lw_p41 : lw_okq (⟨"GearTypesModel", "depth", "(I)I"⟩, 14) := ⟨⟨by decide +kernel, by decide +kernel⟩, List.mem_of_getElem? (i := 662) (by decide +kernel), List.mem_of_getElem? (i := 793) (by decide +kernel), List.mem_of_getElem? (i := 794) (by decide +kernel)⟩
theorem lw_p42 : lw_okq (⟨"GearTypesModel", "typeTold", "(II)I"⟩, 14) := ⟨⟨by decide +kernel, by decide +kernel⟩, List.mem_of_getElem? (i := 662) (by decide +kernel), List.mem_of_getElem? (i := 802) (by decide +kernel), List.mem_of_getElem? (i := 803) (by decide +kernel)⟩
theorem lw_p43 : lw_okq (⟨"GearTypesModel", "typeOf", "(I)I"⟩, 14) := ⟨⟨by decide +kernel, by decide +kernel⟩, List.mem_of_getElem? (i := 662) (by decide +kernel), List.mem_of_getElem? (i := 806) (by decide +kernel), List.mem_of_getElem? (i := 807) (by decide +kernel)⟩
theorem lw_p44 : lw_okq (⟨"GearTypesModel", "found", "(I)I"⟩, 14) := ⟨⟨by decide +kernel, by decide +kernel⟩, List.mem_of_getElem? (i := 662) (by decide +kernel), List.mem_of_getElem? (i := 810) (by decide +kernel), List.mem_of_getElem? (i := 811) (by decide +kernel)⟩
theorem lw_p45 : lw_okq (⟨"GearTypesModel", "sortFound", "(I)I"⟩, 14) := ⟨⟨by decide +kernel, by decide +kernel⟩, List.mem_of_getElem? (i := 662) (by decide +kernel), List.mem_of_getElem? (i := 814) (by decide +kernel), List.mem_of_getElem? (i := 815) (by decide +kernel)⟩
theorem lw_p46 : lw_okq (⟨"GearTypesModel", "node", "(III)I"⟩, 14) := ⟨⟨by decide +kernel, by decide +kernel⟩, List.mem_of_getElem? (i := 662) (by decide +kernel), List.mem_of_getElem? (i := 818) (by decide +kernel), List.mem_of_getElem? (i := 819) (by decide +kernel)⟩
theorem lw_p47 : lw_okq (⟨"GearTypesModel", "nameFound", "(I)I"⟩, 14) := ⟨⟨by decide +kernel, by decide +kernel⟩, List.mem_of_getElem? (i := 662) (by decide +kernel), List.mem_of_getElem? (i := 825) (by decide +kernel), List.mem_of_getElem? (i := 826) (by decide +kernel)⟩
def lw_privs_3 : List (MethodName × Nat) := [(⟨"GearTypes", "faultOfTurning", "(II)I"⟩, 3), (⟨"GearTypes$Finder", "buildRow", "(LGearTypes$Rows;I)I"⟩, 5), (⟨"GearTypesModel", "made", "(IIIIII)I"⟩, 14), (⟨"GearTypesModel", "size", "(I)I"⟩, 14), (⟨"GearTypesModel", "pa", "(II)I"⟩, 14), (⟨"GearTypesModel", "fail", "(I)I"⟩, 14), (⟨"GearTypesModel", "put", "(IIIII)V"⟩, 14), (⟨"GearTypesModel", "isPart", "(I)Z"⟩, 14), (⟨"GearTypesModel", "partTold", "(II)I"⟩, 14), (⟨"GearTypesModel", "depth", "(I)I"⟩, 14), (⟨"GearTypesModel", "typeTold", "(II)I"⟩, 14), (⟨"GearTypesModel", "typeOf", "(I)I"⟩, 14), (⟨"GearTypesModel", "found", "(I)I"⟩, 14), (⟨"GearTypesModel", "sortFound", "(I)I"⟩, 14), (⟨"GearTypesModel", "node", "(III)I"⟩, 14), (⟨"GearTypesModel", "nameFound", "(I)I"⟩, 14)]
theorem lw_r3 : ∀ q ∈ lw_privs_3, lw_okq q := List.forall_mem_cons.mpr ⟨lw_p32, List.forall_mem_cons.mpr ⟨lw_p33, List.forall_mem_cons.mpr ⟨lw_p34, List.forall_mem_cons.mpr ⟨lw_p35, List.forall_mem_cons.mpr ⟨lw_p36, List.forall_mem_cons.mpr ⟨lw_p37, List.forall_mem_cons.mpr ⟨lw_p38, List.forall_mem_cons.mpr ⟨lw_p39, List.forall_mem_cons.mpr ⟨lw_p40, List.forall_mem_cons.mpr ⟨lw_p41, List.forall_mem_cons.mpr ⟨lw_p42, List.forall_mem_cons.mpr ⟨lw_p43, List.forall_mem_cons.mpr ⟨lw_p44, List.forall_mem_cons.mpr ⟨lw_p45, List.forall_mem_cons.mpr ⟨lw_p46, List.forall_mem_cons.mpr ⟨lw_p47, fun _ h => absurd h List.not_mem_nil⟩⟩⟩⟩⟩⟩⟩⟩⟩⟩⟩⟩⟩⟩⟩⟩
theorem lw_p48 : lw_okq (⟨"GearTypesModel", "used", "(II)I"⟩, 14) := ⟨⟨by decide +kernel, by decide +kernel⟩, List.mem_of_getElem? (i := 662) (by decide +kernel), List.mem_of_getElem? (i := 829) (by decide +kernel), List.mem_of_getElem? (i := 830) (by decide +kernel)⟩
theorem lw_p49 : lw_okq (⟨"GearTypesModel", "now", "(I)I"⟩, 14) := ⟨⟨by decide +kernel, by decide +kernel⟩, List.mem_of_getElem? (i := 662) (by decide +kernel), List.mem_of_getElem? (i := 833) (by decide +kernel), List.mem_of_getElem? (i := 834) (by decide +kernel)⟩
theorem lw_p50 : lw_okq (⟨"GearTypesModel", "hasOwn", "(I)Z"⟩, 14) := ⟨⟨by decide +kernel, by decide +kernel⟩, List.mem_of_getElem? (i := 662) (by decide +kernel), List.mem_of_getElem? (i := 837) (by decide +kernel), List.mem_of_getElem? (i := 838) (by decide +kernel)⟩
theorem lw_p51 : lw_okq (⟨"GearTypesModel", "isPair", "(I)Z"⟩, 14) := ⟨⟨by decide +kernel, by decide +kernel⟩, List.mem_of_getElem? (i := 662) (by decide +kernel), List.mem_of_getElem? (i := 841) (by decide +kernel), List.mem_of_getElem? (i := 842) (by decide +kernel)⟩
theorem lw_p52 : lw_okq (⟨"GearTypesModel", "variable", "()I"⟩, 14) := ⟨⟨by decide +kernel, by decide +kernel⟩, List.mem_of_getElem? (i := 662) (by decide +kernel), List.mem_of_getElem? (i := 845) (by decide +kernel), List.mem_of_getElem? (i := 846) (by decide +kernel)⟩
theorem lw_p53 : lw_okq (⟨"GearTypesModel", "failed", "(II)I"⟩, 14) := ⟨⟨by decide +kernel, by decide +kernel⟩, List.mem_of_getElem? (i := 662) (by decide +kernel), List.mem_of_getElem? (i := 849) (by decide +kernel), List.mem_of_getElem? (i := 850) (by decide +kernel)⟩
theorem lw_p54 : lw_okq (⟨"GearTypesModel", "wheelFound", "(I)I"⟩, 14) := ⟨⟨by decide +kernel, by decide +kernel⟩, List.mem_of_getElem? (i := 662) (by decide +kernel), List.mem_of_getElem? (i := 853) (by decide +kernel), List.mem_of_getElem? (i := 854) (by decide +kernel)⟩
theorem lw_p55 : lw_okq (⟨"GearTypesModel", "inside", "(III)I"⟩, 14) := ⟨⟨by decide +kernel, by decide +kernel⟩, List.mem_of_getElem? (i := 662) (by decide +kernel), List.mem_of_getElem? (i := 857) (by decide +kernel), List.mem_of_getElem? (i := 858) (by decide +kernel)⟩
theorem lw_p56 : lw_okq (⟨"GearTypesModel", "turningFound", "(I)I"⟩, 14) := ⟨⟨by decide +kernel, by decide +kernel⟩, List.mem_of_getElem? (i := 662) (by decide +kernel), List.mem_of_getElem? (i := 861) (by decide +kernel), List.mem_of_getElem? (i := 862) (by decide +kernel)⟩
theorem lw_p57 : lw_okq (⟨"GearTypesModel", "join", "(III)Z"⟩, 14) := ⟨⟨by decide +kernel, by decide +kernel⟩, List.mem_of_getElem? (i := 662) (by decide +kernel), List.mem_of_getElem? (i := 865) (by decide +kernel), List.mem_of_getElem? (i := 866) (by decide +kernel)⟩
theorem lw_p58 : lw_okq (⟨"GearTypesModel", "has", "(II)Z"⟩, 14) := ⟨⟨by decide +kernel, by decide +kernel⟩, List.mem_of_getElem? (i := 662) (by decide +kernel), List.mem_of_getElem? (i := 869) (by decide +kernel), List.mem_of_getElem? (i := 870) (by decide +kernel)⟩
theorem lw_p59 : lw_okq (⟨"GearTypesModel", "tellingFound", "(I)I"⟩, 14) := ⟨⟨by decide +kernel, by decide +kernel⟩, List.mem_of_getElem? (i := 662) (by decide +kernel), List.mem_of_getElem? (i := 873) (by decide +kernel), List.mem_of_getElem? (i := 874) (by decide +kernel)⟩
theorem lw_p60 : lw_okq (⟨"GearTypesModel", "own", "(I)V"⟩, 14) := ⟨⟨by decide +kernel, by decide +kernel⟩, List.mem_of_getElem? (i := 662) (by decide +kernel), List.mem_of_getElem? (i := 877) (by decide +kernel), List.mem_of_getElem? (i := 878) (by decide +kernel)⟩
theorem lw_p61 : lw_okq (⟨"GearTypesModel", "isAround", "(I)Z"⟩, 14) := ⟨⟨by decide +kernel, by decide +kernel⟩, List.mem_of_getElem? (i := 662) (by decide +kernel), List.mem_of_getElem? (i := 881) (by decide +kernel), List.mem_of_getElem? (i := 882) (by decide +kernel)⟩
theorem lw_p62 : lw_okq (⟨"GearTypesModel", "axleFound", "(I)I"⟩, 14) := ⟨⟨by decide +kernel, by decide +kernel⟩, List.mem_of_getElem? (i := 662) (by decide +kernel), List.mem_of_getElem? (i := 885) (by decide +kernel), List.mem_of_getElem? (i := 886) (by decide +kernel)⟩
theorem lw_p63 : lw_okq (⟨"GearTypesModel", "endFound", "(I)I"⟩, 14) := ⟨⟨by decide +kernel, by decide +kernel⟩, List.mem_of_getElem? (i := 662) (by decide +kernel), List.mem_of_getElem? (i := 889) (by decide +kernel), List.mem_of_getElem? (i := 890) (by decide +kernel)⟩
def lw_privs_4 : List (MethodName × Nat) := [(⟨"GearTypesModel", "used", "(II)I"⟩, 14), (⟨"GearTypesModel", "now", "(I)I"⟩, 14), (⟨"GearTypesModel", "hasOwn", "(I)Z"⟩, 14), (⟨"GearTypesModel", "isPair", "(I)Z"⟩, 14), (⟨"GearTypesModel", "variable", "()I"⟩, 14), (⟨"GearTypesModel", "failed", "(II)I"⟩, 14), (⟨"GearTypesModel", "wheelFound", "(I)I"⟩, 14), (⟨"GearTypesModel", "inside", "(III)I"⟩, 14), (⟨"GearTypesModel", "turningFound", "(I)I"⟩, 14), (⟨"GearTypesModel", "join", "(III)Z"⟩, 14), (⟨"GearTypesModel", "has", "(II)Z"⟩, 14), (⟨"GearTypesModel", "tellingFound", "(I)I"⟩, 14), (⟨"GearTypesModel", "own", "(I)V"⟩, 14), (⟨"GearTypesModel", "isAround", "(I)Z"⟩, 14), (⟨"GearTypesModel", "axleFound", "(I)I"⟩, 14), (⟨"GearTypesModel", "endFound", "(I)I"⟩, 14)]
theorem lw_r4 : ∀ q ∈ lw_privs_4, lw_okq q := List.forall_mem_cons.mpr ⟨lw_p48, List.forall_mem_cons.mpr ⟨lw_p49, List.forall_mem_cons.mpr ⟨lw_p50, List.forall_mem_cons.mpr ⟨lw_p51, List.forall_mem_cons.mpr ⟨lw_p52, List.forall_mem_cons.mpr ⟨lw_p53, List.forall_mem_cons.mpr ⟨lw_p54, List.forall_mem_cons.mpr ⟨lw_p55, List.forall_mem_cons.mpr ⟨lw_p56, List.forall_mem_cons.mpr ⟨lw_p57, List.forall_mem_cons.mpr ⟨lw_p58, List.forall_mem_cons.mpr ⟨lw_p59, List.forall_mem_cons.mpr ⟨lw_p60, List.forall_mem_cons.mpr ⟨lw_p61, List.forall_mem_cons.mpr ⟨lw_p62, List.forall_mem_cons.mpr ⟨lw_p63, fun _ h => absurd h List.not_mem_nil⟩⟩⟩⟩⟩⟩⟩⟩⟩⟩⟩⟩⟩⟩⟩⟩
theorem lw_p64 : lw_okq (⟨"GearTypesModel", "choiceFound", "(I)I"⟩, 14) := ⟨⟨by decide +kernel, by decide +kernel⟩, List.mem_of_getElem? (i := 662) (by decide +kernel), List.mem_of_getElem? (i := 893) (by decide +kernel), List.mem_of_getElem? (i := 894) (by decide +kernel)⟩
theorem lw_p65 : lw_okq (⟨"GearTypesModel", "codes", "(I)I"⟩, 14) := ⟨⟨by decide +kernel, by decide +kernel⟩, List.mem_of_getElem? (i := 662) (by decide +kernel), List.mem_of_getElem? (i := 897) (by decide +kernel), List.mem_of_getElem? (i := 898) (by decide +kernel)⟩
theorem lw_p66 : lw_okq (⟨"GearTypesModel", "deep", "(I)I"⟩, 14) := ⟨⟨by decide +kernel, by decide +kernel⟩, List.mem_of_getElem? (i := 662) (by decide +kernel), List.mem_of_getElem? (i := 902) (by decide +kernel), List.mem_of_getElem? (i := 903) (by decide +kernel)⟩
theorem lw_p67 : lw_okq (⟨"GearTypesModel", "row", "(I)[I"⟩, 14) := ⟨⟨by decide +kernel, by decide +kernel⟩, List.mem_of_getElem? (i := 662) (by decide +kernel), List.mem_of_getElem? (i := 906) (by decide +kernel), List.mem_of_getElem? (i := 907) (by decide +kernel)⟩
theorem lw_p68 : lw_okq (⟨"GearTypesModel", "write", "(I[II[I)I"⟩, 14) := ⟨⟨by decide +kernel, by decide +kernel⟩, List.mem_of_getElem? (i := 662) (by decide +kernel), List.mem_of_getElem? (i := 910) (by decide +kernel), List.mem_of_getElem? (i := 911) (by decide +kernel)⟩
theorem lw_p69 : lw_okq (⟨"GearTypesModel", "counted", "(I)I"⟩, 14) := ⟨⟨by decide +kernel, by decide +kernel⟩, List.mem_of_getElem? (i := 662) (by decide +kernel), List.mem_of_getElem? (i := 922) (by decide +kernel), List.mem_of_getElem? (i := 923) (by decide +kernel)⟩
theorem lw_p70 : lw_okq (⟨"GearTypesModel", "turned", "(II)I"⟩, 14) := ⟨⟨by decide +kernel, by decide +kernel⟩, List.mem_of_getElem? (i := 662) (by decide +kernel), List.mem_of_getElem? (i := 941) (by decide +kernel), List.mem_of_getElem? (i := 942) (by decide +kernel)⟩
theorem lw_p71 : lw_okq (⟨"GearTypesModel", "length", "(I)I"⟩, 14) := ⟨⟨by decide +kernel, by decide +kernel⟩, List.mem_of_getElem? (i := 662) (by decide +kernel), List.mem_of_getElem? (i := 953) (by decide +kernel), List.mem_of_getElem? (i := 954) (by decide +kernel)⟩
def lw_privs_5 : List (MethodName × Nat) := [(⟨"GearTypesModel", "choiceFound", "(I)I"⟩, 14), (⟨"GearTypesModel", "codes", "(I)I"⟩, 14), (⟨"GearTypesModel", "deep", "(I)I"⟩, 14), (⟨"GearTypesModel", "row", "(I)[I"⟩, 14), (⟨"GearTypesModel", "write", "(I[II[I)I"⟩, 14), (⟨"GearTypesModel", "counted", "(I)I"⟩, 14), (⟨"GearTypesModel", "turned", "(II)I"⟩, 14), (⟨"GearTypesModel", "length", "(I)I"⟩, 14)]
theorem lw_r5 : ∀ q ∈ lw_privs_5, lw_okq q := List.forall_mem_cons.mpr ⟨lw_p64, List.forall_mem_cons.mpr ⟨lw_p65, List.forall_mem_cons.mpr ⟨lw_p66, List.forall_mem_cons.mpr ⟨lw_p67, List.forall_mem_cons.mpr ⟨lw_p68, List.forall_mem_cons.mpr ⟨lw_p69, List.forall_mem_cons.mpr ⟨lw_p70, List.forall_mem_cons.mpr ⟨lw_p71, fun _ h => absurd h List.not_mem_nil⟩⟩⟩⟩⟩⟩⟩⟩
def lw_privs : List (MethodName × Nat) := lw_privs_1 ++ (lw_privs_2 ++ (lw_privs_3 ++ (lw_privs_4 ++ (lw_privs_5))))
def lw_tbl : List Cond := k2_sels lw_privs ++ tables_1
theorem lw_privs_ok : ∀ q ∈ lw_privs, lw_okq q := by
  show ∀ q ∈ lw_privs_1 ++ (lw_privs_2 ++ (lw_privs_3 ++ (lw_privs_4 ++ (lw_privs_5)))), lw_okq q
  exact List.forall_mem_append.mpr ⟨lw_r1, List.forall_mem_append.mpr ⟨lw_r2, List.forall_mem_append.mpr ⟨lw_r3, List.forall_mem_append.mpr ⟨lw_r4, lw_r5⟩⟩⟩⟩
/-- the streams that the claim lets the run draw from -/
abbrev lw_cs : List Choice := [Jvm.Choice.named "NaN.bits"]
theorem lw_bits : nanBits ∈ lw_cs := by first | decide | exact List.mem_cons_self | simp [lw_cs, nanBits]
-- ===== end of PART A; then your names; then what follows =====
def RX0 : String := "GearTypes$Finder"
def TX0 : u_T := fun k => match k with
  | 0 => ("GearTypes$Finder", "types", "LGearTypes$Types;", true)
  | 1 => ("GearTypes$Finder", "names", "LGearTypes$Names;", true)
  | 2 => ("GearTypes$Finder", "row", "[I", true)
  | 3 => ("GearTypes$Finder", "fault", "I", false)
  | _ => ("GearTypes$Finder", "place", "I", false)
def tyX0 : Nat → FieldType := fun k => match k with
  | 0 => .object "GearTypes$Types"
  | 1 => .object "GearTypes$Names"
  | 2 => .array .int
  | 3 => .int
  | _ => .int
abbrev wsX00 : List Cond := u_ws RX0 TX0 5
theorem nmX0 : ∀ a, a < 5 → ∀ b, b < 5 → a ≠ b → (TX0 a).2.1 ≠ (TX0 b).2.1 := by decide +kernel
theorem tyX0_ok : ∀ k, k < 5 → parseFieldDescriptor (TX0 k).2.2.1 = some (tyX0 k) := by decide +kernel
abbrev cX0_init : ByteArray := prog_2_method_1_code
def yX0_init : MethodName := ⟨RX0, "<init>", "()V"⟩
abbrev cX0_settle : ByteArray := prog_2_method_2_code
def yX0_settle : MethodName := ⟨RX0, "settle", "(LGearTypes$Parts;ILGearTypes$Rows;)V"⟩
abbrev cX0_faultOfTurning : ByteArray := prog_2_method_3_code
def yX0_faultOfTurning : MethodName := ⟨RX0, "faultOfTurning", "(LGearTypes$Rows;II)I"⟩
abbrev cX0_buildRow : ByteArray := prog_2_method_4_code
def yX0_buildRow : MethodName := ⟨RX0, "buildRow", "(LGearTypes$Rows;I)I"⟩
abbrev cX0_isTooLong : ByteArray := prog_2_method_5_code
def yX0_isTooLong : MethodName := ⟨RX0, "isTooLong", "(I)Z"⟩
abbrev cX0_fail : ByteArray := prog_2_method_6_code
def yX0_fail : MethodName := ⟨RX0, "fail", "(II)I"⟩
abbrev cX0_find : ByteArray := prog_2_method_7_code
def yX0_find : MethodName := ⟨RX0, "find", "(LGearTypes$Parts;II)I"⟩
abbrev cX0_findName : ByteArray := prog_2_method_8_code
def yX0_findName : MethodName := ⟨RX0, "findName", "(LGearTypes$Parts;I)I"⟩
abbrev cX0_findWheel : ByteArray := prog_2_method_9_code
def yX0_findWheel : MethodName := ⟨RX0, "findWheel", "(LGearTypes$Parts;II)I"⟩
abbrev cX0_findTurning : ByteArray := prog_2_method_10_code
def yX0_findTurning : MethodName := ⟨RX0, "findTurning", "(LGearTypes$Parts;II)I"⟩
abbrev cX0_findTelling : ByteArray := prog_2_method_11_code
def yX0_findTelling : MethodName := ⟨RX0, "findTelling", "(LGearTypes$Parts;II)I"⟩
abbrev cX0_findAxle : ByteArray := prog_2_method_12_code
def yX0_findAxle : MethodName := ⟨RX0, "findAxle", "(LGearTypes$Parts;II)I"⟩
abbrev cX0_findEnd : ByteArray := prog_2_method_13_code
def yX0_findEnd : MethodName := ⟨RX0, "findEnd", "(LGearTypes$Parts;II)I"⟩
abbrev cX0_findChoice : ByteArray := prog_2_method_14_code
def yX0_findChoice : MethodName := ⟨RX0, "findChoice", "(LGearTypes$Parts;II)I"⟩
def RX1 : String := "GearTypes$Names"
def TX1 : u_T := fun k => match k with
  | 0 => ("GearTypes$Names", "labels", "[I", true)
  | 1 => ("GearTypes$Names", "codes", "[[I", true)
  | 2 => ("GearTypes$Names", "lengths", "[I", true)
  | _ => ("GearTypes$Names", "around", "I", false)
def tyX1 : Nat → FieldType := fun k => match k with
  | 0 => .array .int
  | 1 => .array (.array .int)
  | 2 => .array .int
  | _ => .int
abbrev wsX10 : List Cond := u_ws RX1 TX1 4
theorem nmX1 : ∀ a, a < 4 → ∀ b, b < 4 → a ≠ b → (TX1 a).2.1 ≠ (TX1 b).2.1 := by decide +kernel
theorem tyX1_ok : ∀ k, k < 4 → parseFieldDescriptor (TX1 k).2.2.1 = some (tyX1 k) := by decide +kernel
abbrev cX1_init : ByteArray := prog_3_method_1_code
def yX1_init : MethodName := ⟨RX1, "<init>", "()V"⟩
abbrev cX1_clear : ByteArray := prog_3_method_2_code
def yX1_clear : MethodName := ⟨RX1, "clear", "()V"⟩
abbrev cX1_put : ByteArray := prog_3_method_3_code
def yX1_put : MethodName := ⟨RX1, "put", "(I[II)V"⟩
abbrev cX1_markAll : ByteArray := prog_3_method_4_code
def yX1_markAll : MethodName := ⟨RX1, "markAll", "(LGearTypes$Types;)V"⟩
abbrev cX1_dropLast : ByteArray := prog_3_method_5_code
def yX1_dropLast : MethodName := ⟨RX1, "dropLast", "()V"⟩
abbrev cX1_latest : ByteArray := prog_3_method_6_code
def yX1_latest : MethodName := ⟨RX1, "latest", "(I)I"⟩
abbrev cX1_rowAt : ByteArray := prog_3_method_7_code
def yX1_rowAt : MethodName := ⟨RX1, "rowAt", "(I)[I"⟩
abbrev cX1_lengthAt : ByteArray := prog_3_method_8_code
def yX1_lengthAt : MethodName := ⟨RX1, "lengthAt", "(I)I"⟩
def RX2 : String := "GearTypes$Parts"
def TX2 : u_T := fun k => match k with
  | 0 => ("GearTypes$Parts", "facts", "[[I", true)
  | _ => ("GearTypes$Parts", "made", "I", false)
def tyX2 : Nat → FieldType := fun k => match k with
  | 0 => .array (.array .int)
  | _ => .int
abbrev wsX20 : List Cond := u_ws RX2 TX2 2
theorem nmX2 : ∀ a, a < 2 → ∀ b, b < 2 → a ≠ b → (TX2 a).2.1 ≠ (TX2 b).2.1 := by decide +kernel
theorem tyX2_ok : ∀ k, k < 2 → parseFieldDescriptor (TX2 k).2.2.1 = some (tyX2 k) := by decide +kernel
abbrev cX2_init : ByteArray := prog_4_method_1_code
def yX2_init : MethodName := ⟨RX2, "<init>", "()V"⟩
abbrev cX2_made : ByteArray := prog_4_method_2_code
def yX2_made : MethodName := ⟨RX2, "made", "()I"⟩
abbrev cX2_fact : ByteArray := prog_4_method_3_code
def yX2_fact : MethodName := ⟨RX2, "fact", "(II)I"⟩
abbrev cX2_sizeOver : ByteArray := prog_4_method_4_code
def yX2_sizeOver : MethodName := ⟨RX2, "sizeOver", "(III)I"⟩
abbrev cX2_sizeOf : ByteArray := prog_4_method_5_code
def yX2_sizeOf : MethodName := ⟨RX2, "sizeOf", "(I)I"⟩
abbrev cX2_depthOf : ByteArray := prog_4_method_6_code
def yX2_depthOf : MethodName := ⟨RX2, "depthOf", "(I)I"⟩
abbrev cX2_append : ByteArray := prog_4_method_7_code
def yX2_append : MethodName := ⟨RX2, "append", "(IIIII)I"⟩
abbrev cX2_dropLast : ByteArray := prog_4_method_8_code
def yX2_dropLast : MethodName := ⟨RX2, "dropLast", "()V"⟩
def RX3 : String := "GearTypes$Rows"
def TX3 : u_T := fun k => match k with
  | 0 => ("GearTypes$Rows", "codes", "[[I", true)
  | 1 => ("GearTypes$Rows", "facts", "[[I", true)
  | 2 => ("GearTypes$Rows", "depths", "[I", true)
  | _ => ("GearTypes$Rows", "starts", "[I", true)
def tyX3 : Nat → FieldType := fun k => match k with
  | 0 => .array (.array .int)
  | 1 => .array (.array .int)
  | 2 => .array .int
  | _ => .array .int
abbrev wsX30 : List Cond := u_ws RX3 TX3 4
theorem nmX3 : ∀ a, a < 4 → ∀ b, b < 4 → a ≠ b → (TX3 a).2.1 ≠ (TX3 b).2.1 := by decide +kernel
theorem tyX3_ok : ∀ k, k < 4 → parseFieldDescriptor (TX3 k).2.2.1 = some (tyX3 k) := by decide +kernel
abbrev cX3_init : ByteArray := prog_5_method_1_code
def yX3_init : MethodName := ⟨RX3, "<init>", "()V"⟩
abbrev cX3_fact : ByteArray := prog_5_method_2_code
def yX3_fact : MethodName := ⟨RX3, "fact", "(II)I"⟩
abbrev cX3_codeAt : ByteArray := prog_5_method_3_code
def yX3_codeAt : MethodName := ⟨RX3, "codeAt", "(II)I"⟩
abbrev cX3_putFault : ByteArray := prog_5_method_4_code
def yX3_putFault : MethodName := ⟨RX3, "putFault", "(III)V"⟩
abbrev cX3_putRow : ByteArray := prog_5_method_5_code
def yX3_putRow : MethodName := ⟨RX3, "putRow", "(I[II)V"⟩
abbrev cX3_putFacts : ByteArray := prog_5_method_6_code
def yX3_putFacts : MethodName := ⟨RX3, "putFacts", "(IIII)V"⟩
abbrev cX3_variablesIn : ByteArray := prog_5_method_7_code
def yX3_variablesIn : MethodName := ⟨RX3, "variablesIn", "(II)I"⟩
abbrev cX3_depthOf : ByteArray := prog_5_method_8_code
def yX3_depthOf : MethodName := ⟨RX3, "depthOf", "(II)I"⟩
abbrev cX3_alike : ByteArray := prog_5_method_9_code
def yX3_alike : MethodName := ⟨RX3, "alike", "(II)Z"⟩
abbrev cX3_covers : ByteArray := prog_5_method_10_code
def yX3_covers : MethodName := ⟨RX3, "covers", "(II)Z"⟩
abbrev cX3_standsFor : ByteArray := prog_5_method_11_code
def yX3_standsFor : MethodName := ⟨RX3, "standsFor", "(IIII)Z"⟩
abbrev cX3_endOf : ByteArray := prog_5_method_12_code
def yX3_endOf : MethodName := ⟨RX3, "endOf", "(II)I"⟩
abbrev cX3_isPair : ByteArray := prog_5_method_13_code
def yX3_isPair : MethodName := ⟨RX3, "isPair", "(I)Z"⟩
def RX4 : String := "GearTypes$Types"
def TX4 : u_T := fun k => match k with
  | 0 => ("GearTypes$Types", "kind", "[I", true)
  | 1 => ("GearTypes$Types", "left", "[I", true)
  | 2 => ("GearTypes$Types", "right", "[I", true)
  | 3 => ("GearTypes$Types", "mark", "[I", true)
  | 4 => ("GearTypes$Types", "work", "[I", true)
  | 5 => ("GearTypes$Types", "pairLeft", "[I", true)
  | 6 => ("GearTypes$Types", "pairRight", "[I", true)
  | 7 => ("GearTypes$Types", "seats", "[I", true)
  | 8 => ("GearTypes$Types", "seated", "I", false)
  | 9 => ("GearTypes$Types", "used", "I", false)
  | _ => ("GearTypes$Types", "stamp", "I", false)
def tyX4 : Nat → FieldType := fun k => match k with
  | 0 => .array .int
  | 1 => .array .int
  | 2 => .array .int
  | 3 => .array .int
  | 4 => .array .int
  | 5 => .array .int
  | 6 => .array .int
  | 7 => .array .int
  | 8 => .int
  | 9 => .int
  | _ => .int
abbrev wsX40 : List Cond := u_ws RX4 TX4 11
theorem nmX4 : ∀ a, a < 11 → ∀ b, b < 11 → a ≠ b → (TX4 a).2.1 ≠ (TX4 b).2.1 := by decide +kernel
theorem tyX4_ok : ∀ k, k < 11 → parseFieldDescriptor (TX4 k).2.2.1 = some (tyX4 k) := by decide +kernel
abbrev cX4_init : ByteArray := prog_6_method_1_code
def yX4_init : MethodName := ⟨RX4, "<init>", "()V"⟩
abbrev cX4_clear : ByteArray := prog_6_method_2_code
def yX4_clear : MethodName := ⟨RX4, "clear", "()V"⟩
abbrev cX4_make : ByteArray := prog_6_method_3_code
def yX4_make : MethodName := ⟨RX4, "make", "(III)I"⟩
abbrev cX4_newVariable : ByteArray := prog_6_method_4_code
def yX4_newVariable : MethodName := ⟨RX4, "newVariable", "()I"⟩
abbrev cX4_codeOfNode : ByteArray := prog_6_method_5_code
def yX4_codeOfNode : MethodName := ⟨RX4, "codeOfNode", "(I)I"⟩
abbrev cX4_forgetMarks : ByteArray := prog_6_method_6_code
def yX4_forgetMarks : MethodName := ⟨RX4, "forgetMarks", "()V"⟩
abbrev cX4_isNode : ByteArray := prog_6_method_7_code
def yX4_isNode : MethodName := ⟨RX4, "isNode", "(I)Z"⟩
abbrev cX4_nodeOfCode : ByteArray := prog_6_method_8_code
def yX4_nodeOfCode : MethodName := ⟨RX4, "nodeOfCode", "(I)I"⟩
abbrev cX4_markWithin : ByteArray := prog_6_method_9_code
def yX4_markWithin : MethodName := ⟨RX4, "markWithin", "(I)V"⟩
abbrev cX4_resolve : ByteArray := prog_6_method_10_code
def yX4_resolve : MethodName := ⟨RX4, "resolve", "(I)I"⟩
abbrev cX4_isPair : ByteArray := prog_6_method_11_code
def yX4_isPair : MethodName := ⟨RX4, "isPair", "(I)Z"⟩
abbrev cX4_match : ByteArray := prog_6_method_12_code
def yX4_match : MethodName := ⟨RX4, "match", "(II)I"⟩
abbrev cX4_putPair : ByteArray := prog_6_method_13_code
def yX4_putPair : MethodName := ⟨RX4, "putPair", "(III)I"⟩
abbrev cX4_give : ByteArray := prog_6_method_14_code
def yX4_give : MethodName := ⟨RX4, "give", "(II)V"⟩
abbrev cX4_write : ByteArray := prog_6_method_15_code
def yX4_write : MethodName := ⟨RX4, "write", "(I[I)I"⟩
abbrev cX4_codeOf : ByteArray := prog_6_method_16_code
def yX4_codeOf : MethodName := ⟨RX4, "codeOf", "(I)I"⟩
abbrev cX4_seatOf : ByteArray := prog_6_method_17_code
def yX4_seatOf : MethodName := ⟨RX4, "seatOf", "(I)I"⟩
abbrev cX4_build : ByteArray := prog_6_method_18_code
def yX4_build : MethodName := ⟨RX4, "build", "([II)I"⟩
abbrev cX4_variableAt : ByteArray := prog_6_method_19_code
def yX4_variableAt : MethodName := ⟨RX4, "variableAt", "(I)I"⟩
def RX5 : String := "GearTypes"
def TX5 : u_T := fun k => match k with
  | 0 => ("GearTypes", "parts", "LGearTypes$Parts;", true)
  | 1 => ("GearTypes", "rows", "LGearTypes$Rows;", true)
  | _ => ("GearTypes", "finder", "LGearTypes$Finder;", true)
def tyX5 : Nat → FieldType := fun k => match k with
  | 0 => .object "GearTypes$Parts"
  | 1 => .object "GearTypes$Rows"
  | _ => .object "GearTypes$Finder"
abbrev wsX50 : List Cond := u_ws RX5 TX5 3
theorem nmX5 : ∀ a, a < 3 → ∀ b, b < 3 → a ≠ b → (TX5 a).2.1 ≠ (TX5 b).2.1 := by decide +kernel
theorem tyX5_ok : ∀ k, k < 3 → parseFieldDescriptor (TX5 k).2.2.1 = some (tyX5 k) := by decide +kernel
abbrev cX5_init : ByteArray := prog_1_method_1_code
def yX5_init : MethodName := ⟨RX5, "<init>", "()V"⟩
abbrev cX5_plain : ByteArray := prog_1_method_2_code
def yX5_plain : MethodName := ⟨RX5, "plain", "(I)I"⟩
abbrev cX5_name : ByteArray := prog_1_method_3_code
def yX5_name : MethodName := ⟨RX5, "name", "(I)I"⟩
abbrev cX5_wheel : ByteArray := prog_1_method_4_code
def yX5_wheel : MethodName := ⟨RX5, "wheel", "(II)I"⟩
abbrev cX5_turn : ByteArray := prog_1_method_5_code
def yX5_turn : MethodName := ⟨RX5, "turn", "(II)I"⟩
abbrev cX5_tell : ByteArray := prog_1_method_6_code
def yX5_tell : MethodName := ⟨RX5, "tell", "(III)I"⟩
abbrev cX5_axle : ByteArray := prog_1_method_7_code
def yX5_axle : MethodName := ⟨RX5, "axle", "(II)I"⟩
abbrev cX5_end : ByteArray := prog_1_method_8_code
def yX5_end : MethodName := ⟨RX5, "end", "(II)I"⟩
abbrev cX5_either : ByteArray := prog_1_method_9_code
def yX5_either : MethodName := ⟨RX5, "either", "(III)I"⟩
abbrev cX5_undo : ByteArray := prog_1_method_10_code
def yX5_undo : MethodName := ⟨RX5, "undo", "()I"⟩
abbrev cX5_part : ByteArray := prog_1_method_11_code
def yX5_part : MethodName := ⟨RX5, "part", "(II)I"⟩
abbrev cX5_type : ByteArray := prog_1_method_12_code
def yX5_type : MethodName := ⟨RX5, "type", "(II)I"⟩
abbrev cX5_code : ByteArray := prog_1_method_13_code
def yX5_code : MethodName := ⟨RX5, "code", "(II)I"⟩
abbrev cX5_count : ByteArray := prog_1_method_14_code
def yX5_count : MethodName := ⟨RX5, "count", "(I)I"⟩
abbrev cX5_same : ByteArray := prog_1_method_15_code
def yX5_same : MethodName := ⟨RX5, "same", "(II)Z"⟩
abbrev cX5_fits : ByteArray := prog_1_method_16_code
def yX5_fits : MethodName := ⟨RX5, "fits", "(II)Z"⟩
abbrev cX5_goes : ByteArray := prog_1_method_17_code
def yX5_goes : MethodName := ⟨RX5, "goes", "(II)I"⟩
abbrev cX5_first : ByteArray := prog_1_method_18_code
def yX5_first : MethodName := ⟨RX5, "first", "(I)I"⟩
abbrev cX5_longest : ByteArray := prog_1_method_19_code
def yX5_longest : MethodName := ⟨RX5, "longest", "()I"⟩
abbrev cX5_mean : ByteArray := prog_1_method_20_code
def yX5_mean : MethodName := ⟨RX5, "mean", "()D"⟩
abbrev cX5_digest : ByteArray := prog_1_method_21_code
def yX5_digest : MethodName := ⟨RX5, "digest", "()J"⟩
abbrev cX5_needPart : ByteArray := prog_1_method_22_code
def yX5_needPart : MethodName := ⟨RX5, "needPart", "(I)V"⟩
abbrev cX5_needPlace : ByteArray := prog_1_method_23_code
def yX5_needPlace : MethodName := ⟨RX5, "needPlace", "(II)V"⟩
abbrev cX5_needBetween : ByteArray := prog_1_method_24_code
def yX5_needBetween : MethodName := ⟨RX5, "needBetween", "(III)V"⟩
abbrev cX5_add : ByteArray := prog_1_method_25_code
def yX5_add : MethodName := ⟨RX5, "add", "(IIIII)I"⟩
abbrev cX5_counted : ByteArray := prog_1_method_26_code
def yX5_counted : MethodName := ⟨RX5, "counted", "(I)I"⟩
abbrev cX5_bothTyped : ByteArray := prog_1_method_27_code
def yX5_bothTyped : MethodName := ⟨RX5, "bothTyped", "(II)Z"⟩
abbrev cX5_faultOfTurning : ByteArray := prog_1_method_28_code
def yX5_faultOfTurning : MethodName := ⟨RX5, "faultOfTurning", "(II)I"⟩
def RX6 : String := "GearTypesModel"
def TX6 : u_T := fun k => match k with
  | 0 => ("GearTypesModel", "thrown", "I", false)
  | 1 => ("GearTypesModel", "parts", "I", false)
  | 2 => ("GearTypesModel", "rows", "[I", true)
  | 3 => ("GearTypesModel", "nodes", "I", false)
  | 4 => ("GearTypesModel", "kinds", "[I", false)
  | 5 => ("GearTypesModel", "lefts", "[I", false)
  | 6 => ("GearTypesModel", "rights", "[I", false)
  | 7 => ("GearTypesModel", "isOwn", "[Z", false)
  | 8 => ("GearTypesModel", "fresh", "[I", false)
  | 9 => ("GearTypesModel", "around", "I", false)
  | 10 => ("GearTypesModel", "names", "[I", true)
  | 11 => ("GearTypesModel", "types", "[I", true)
  | 12 => ("GearTypesModel", "fault", "I", false)
  | _ => ("GearTypesModel", "faultAt", "I", false)
def tyX6 : Nat → FieldType := fun k => match k with
  | 0 => .int
  | 1 => .int
  | 2 => .array .int
  | 3 => .int
  | 4 => .array .int
  | 5 => .array .int
  | 6 => .array .int
  | 7 => .array .boolean
  | 8 => .array .int
  | 9 => .int
  | 10 => .array .int
  | 11 => .array .int
  | 12 => .int
  | _ => .int
abbrev wsX60 : List Cond := u_ws RX6 TX6 14
theorem nmX6 : ∀ a, a < 14 → ∀ b, b < 14 → a ≠ b → (TX6 a).2.1 ≠ (TX6 b).2.1 := by decide +kernel
theorem tyX6_ok : ∀ k, k < 14 → parseFieldDescriptor (TX6 k).2.2.1 = some (tyX6 k) := by decide +kernel
abbrev cX6_init : ByteArray := prog_8_method_1_code
def yX6_init : MethodName := ⟨RX6, "<init>", "()V"⟩
abbrev cX6_thrown : ByteArray := prog_8_method_2_code
def yX6_thrown : MethodName := ⟨RX6, "thrown", "()I"⟩
abbrev cX6_fail : ByteArray := prog_8_method_3_code
def yX6_fail : MethodName := ⟨RX6, "fail", "(I)I"⟩
abbrev cX6_isIn : ByteArray := prog_8_method_4_code
def yX6_isIn : MethodName := ⟨RX6, "isIn", "(III)Z"⟩
abbrev cX6_isPart : ByteArray := prog_8_method_5_code
def yX6_isPart : MethodName := ⟨RX6, "isPart", "(I)Z"⟩
abbrev cX6_pa : ByteArray := prog_8_method_6_code
def yX6_pa : MethodName := ⟨RX6, "pa", "(II)I"⟩
abbrev cX6_size : ByteArray := prog_8_method_7_code
def yX6_size : MethodName := ⟨RX6, "size", "(I)I"⟩
abbrev cX6_put : ByteArray := prog_8_method_8_code
def yX6_put : MethodName := ⟨RX6, "put", "(IIIII)V"⟩
abbrev cX6_made : ByteArray := prog_8_method_9_code
def yX6_made : MethodName := ⟨RX6, "made", "(IIIIII)I"⟩
abbrev cX6_plain : ByteArray := prog_8_method_10_code
def yX6_plain : MethodName := ⟨RX6, "plain", "(I)I"⟩
abbrev cX6_isName : ByteArray := prog_8_method_11_code
def yX6_isName : MethodName := ⟨RX6, "isName", "(I)Z"⟩
abbrev cX6_name : ByteArray := prog_8_method_12_code
def yX6_name : MethodName := ⟨RX6, "name", "(I)I"⟩
abbrev cX6_wheel : ByteArray := prog_8_method_13_code
def yX6_wheel : MethodName := ⟨RX6, "wheel", "(II)I"⟩
abbrev cX6_turn : ByteArray := prog_8_method_14_code
def yX6_turn : MethodName := ⟨RX6, "turn", "(II)I"⟩
abbrev cX6_tell : ByteArray := prog_8_method_15_code
def yX6_tell : MethodName := ⟨RX6, "tell", "(III)I"⟩
abbrev cX6_axle : ByteArray := prog_8_method_16_code
def yX6_axle : MethodName := ⟨RX6, "axle", "(II)I"⟩
abbrev cX6_end : ByteArray := prog_8_method_17_code
def yX6_end : MethodName := ⟨RX6, "end", "(II)I"⟩
abbrev cX6_either : ByteArray := prog_8_method_18_code
def yX6_either : MethodName := ⟨RX6, "either", "(III)I"⟩
abbrev cX6_undo : ByteArray := prog_8_method_19_code
def yX6_undo : MethodName := ⟨RX6, "undo", "()I"⟩
abbrev cX6_node : ByteArray := prog_8_method_20_code
def yX6_node : MethodName := ⟨RX6, "node", "(III)I"⟩
abbrev cX6_more : ByteArray := prog_8_method_21_code
def yX6_more : MethodName := ⟨RX6, "more", "([I)[I"⟩
abbrev cX6_variable : ByteArray := prog_8_method_22_code
def yX6_variable : MethodName := ⟨RX6, "variable", "()I"⟩
abbrev cX6_now : ByteArray := prog_8_method_23_code
def yX6_now : MethodName := ⟨RX6, "now", "(I)I"⟩
abbrev cX6_isPair : ByteArray := prog_8_method_24_code
def yX6_isPair : MethodName := ⟨RX6, "isPair", "(I)Z"⟩
abbrev cX6_has : ByteArray := prog_8_method_25_code
def yX6_has : MethodName := ⟨RX6, "has", "(II)Z"⟩
abbrev cX6_failed : ByteArray := prog_8_method_26_code
def yX6_failed : MethodName := ⟨RX6, "failed", "(II)I"⟩
abbrev cX6_join : ByteArray := prog_8_method_27_code
def yX6_join : MethodName := ⟨RX6, "join", "(III)Z"⟩
abbrev cX6_codes : ByteArray := prog_8_method_28_code
def yX6_codes : MethodName := ⟨RX6, "codes", "(I)I"⟩
abbrev cX6_isAround : ByteArray := prog_8_method_29_code
def yX6_isAround : MethodName := ⟨RX6, "isAround", "(I)Z"⟩
abbrev cX6_own : ByteArray := prog_8_method_30_code
def yX6_own : MethodName := ⟨RX6, "own", "(I)V"⟩
abbrev cX6_hasOwn : ByteArray := prog_8_method_31_code
def yX6_hasOwn : MethodName := ⟨RX6, "hasOwn", "(I)Z"⟩
abbrev cX6_used : ByteArray := prog_8_method_32_code
def yX6_used : MethodName := ⟨RX6, "used", "(II)I"⟩
abbrev cX6_nameFound : ByteArray := prog_8_method_33_code
def yX6_nameFound : MethodName := ⟨RX6, "nameFound", "(I)I"⟩
abbrev cX6_inside : ByteArray := prog_8_method_34_code
def yX6_inside : MethodName := ⟨RX6, "inside", "(III)I"⟩
abbrev cX6_wheelFound : ByteArray := prog_8_method_35_code
def yX6_wheelFound : MethodName := ⟨RX6, "wheelFound", "(I)I"⟩
abbrev cX6_turningFound : ByteArray := prog_8_method_36_code
def yX6_turningFound : MethodName := ⟨RX6, "turningFound", "(I)I"⟩
abbrev cX6_tellingFound : ByteArray := prog_8_method_37_code
def yX6_tellingFound : MethodName := ⟨RX6, "tellingFound", "(I)I"⟩
abbrev cX6_axleFound : ByteArray := prog_8_method_38_code
def yX6_axleFound : MethodName := ⟨RX6, "axleFound", "(I)I"⟩
abbrev cX6_endFound : ByteArray := prog_8_method_39_code
def yX6_endFound : MethodName := ⟨RX6, "endFound", "(I)I"⟩
abbrev cX6_choiceFound : ByteArray := prog_8_method_40_code
def yX6_choiceFound : MethodName := ⟨RX6, "choiceFound", "(I)I"⟩
abbrev cX6_sortFound : ByteArray := prog_8_method_41_code
def yX6_sortFound : MethodName := ⟨RX6, "sortFound", "(I)I"⟩
abbrev cX6_found : ByteArray := prog_8_method_42_code
def yX6_found : MethodName := ⟨RX6, "found", "(I)I"⟩
abbrev cX6_typeOf : ByteArray := prog_8_method_43_code
def yX6_typeOf : MethodName := ⟨RX6, "typeOf", "(I)I"⟩
abbrev cX6_write : ByteArray := prog_8_method_44_code
def yX6_write : MethodName := ⟨RX6, "write", "(I[II[I)I"⟩
abbrev cX6_row : ByteArray := prog_8_method_45_code
def yX6_row : MethodName := ⟨RX6, "row", "(I)[I"⟩
abbrev cX6_deep : ByteArray := prog_8_method_46_code
def yX6_deep : MethodName := ⟨RX6, "deep", "(I)I"⟩
abbrev cX6_depth : ByteArray := prog_8_method_47_code
def yX6_depth : MethodName := ⟨RX6, "depth", "(I)I"⟩
abbrev cX6_partTold : ByteArray := prog_8_method_48_code
def yX6_partTold : MethodName := ⟨RX6, "partTold", "(II)I"⟩
abbrev cX6_part : ByteArray := prog_8_method_49_code
def yX6_part : MethodName := ⟨RX6, "part", "(II)I"⟩
abbrev cX6_typeTold : ByteArray := prog_8_method_50_code
def yX6_typeTold : MethodName := ⟨RX6, "typeTold", "(II)I"⟩
abbrev cX6_type : ByteArray := prog_8_method_51_code
def yX6_type : MethodName := ⟨RX6, "type", "(II)I"⟩
abbrev cX6_code : ByteArray := prog_8_method_52_code
def yX6_code : MethodName := ⟨RX6, "code", "(II)I"⟩
abbrev cX6_counted : ByteArray := prog_8_method_53_code
def yX6_counted : MethodName := ⟨RX6, "counted", "(I)I"⟩
abbrev cX6_count : ByteArray := prog_8_method_54_code
def yX6_count : MethodName := ⟨RX6, "count", "(I)I"⟩
abbrev cX6_same : ByteArray := prog_8_method_55_code
def yX6_same : MethodName := ⟨RX6, "same", "(II)Z"⟩
abbrev cX6_behind : ByteArray := prog_8_method_56_code
def yX6_behind : MethodName := ⟨RX6, "behind", "([II)I"⟩
abbrev cX6_fits : ByteArray := prog_8_method_57_code
def yX6_fits : MethodName := ⟨RX6, "fits", "(II)Z"⟩
abbrev cX6_turned : ByteArray := prog_8_method_58_code
def yX6_turned : MethodName := ⟨RX6, "turned", "(II)I"⟩
abbrev cX6_goes : ByteArray := prog_8_method_59_code
def yX6_goes : MethodName := ⟨RX6, "goes", "(II)I"⟩
abbrev cX6_first : ByteArray := prog_8_method_60_code
def yX6_first : MethodName := ⟨RX6, "first", "(I)I"⟩
abbrev cX6_length : ByteArray := prog_8_method_61_code
def yX6_length : MethodName := ⟨RX6, "length", "(I)I"⟩
abbrev cX6_longest : ByteArray := prog_8_method_62_code
def yX6_longest : MethodName := ⟨RX6, "longest", "()I"⟩
abbrev cX6_mean : ByteArray := prog_8_method_63_code
def yX6_mean : MethodName := ⟨RX6, "mean", "()D"⟩
abbrev cX6_digest : ByteArray := prog_8_method_64_code
def yX6_digest : MethodName := ⟨RX6, "digest", "()J"⟩
def RL : String := "GearTypesLaw"
abbrev cL_plain : ByteArray := method_3_code
def yL_plain : MethodName := ⟨RL, "plain", "(LGearTypes;I[J)I"⟩
abbrev cL_name : ByteArray := method_4_code
def yL_name : MethodName := ⟨RL, "name", "(LGearTypes;I[J)I"⟩
abbrev cL_wheel : ByteArray := method_5_code
def yL_wheel : MethodName := ⟨RL, "wheel", "(LGearTypes;II[J)I"⟩
abbrev cL_turn : ByteArray := method_6_code
def yL_turn : MethodName := ⟨RL, "turn", "(LGearTypes;II[J)I"⟩
abbrev cL_tell : ByteArray := method_7_code
def yL_tell : MethodName := ⟨RL, "tell", "(LGearTypes;III[J)I"⟩
abbrev cL_axle : ByteArray := method_8_code
def yL_axle : MethodName := ⟨RL, "axle", "(LGearTypes;II[J)I"⟩
abbrev cL_end : ByteArray := method_9_code
def yL_end : MethodName := ⟨RL, "end", "(LGearTypes;II[J)I"⟩
abbrev cL_either : ByteArray := method_10_code
def yL_either : MethodName := ⟨RL, "either", "(LGearTypes;III[J)I"⟩
abbrev cL_undo : ByteArray := method_11_code
def yL_undo : MethodName := ⟨RL, "undo", "(LGearTypes;[J)I"⟩
abbrev cL_part : ByteArray := method_12_code
def yL_part : MethodName := ⟨RL, "part", "(LGearTypes;II[J)I"⟩
abbrev cL_type : ByteArray := method_13_code
def yL_type : MethodName := ⟨RL, "type", "(LGearTypes;II[J)I"⟩
abbrev cL_code : ByteArray := method_14_code
def yL_code : MethodName := ⟨RL, "code", "(LGearTypes;II[J)I"⟩
abbrev cL_count : ByteArray := method_15_code
def yL_count : MethodName := ⟨RL, "count", "(LGearTypes;I[J)I"⟩
abbrev cL_same : ByteArray := method_16_code
def yL_same : MethodName := ⟨RL, "same", "(LGearTypes;II[J)I"⟩
abbrev cL_fits : ByteArray := method_17_code
def yL_fits : MethodName := ⟨RL, "fits", "(LGearTypes;II[J)I"⟩
abbrev cL_goes : ByteArray := method_18_code
def yL_goes : MethodName := ⟨RL, "goes", "(LGearTypes;II[J)I"⟩
abbrev cL_first : ByteArray := method_19_code
def yL_first : MethodName := ⟨RL, "first", "(LGearTypes;I[J)I"⟩
abbrev cL_law : ByteArray := code
def yL_law : MethodName := ⟨RL, "law", "([I)Z"⟩
abbrev vwCl : List vw_C := [(RX0, TX0, 5), (RX1, TX1, 4), (RX2, TX2, 2), (RX3, TX3, 4), (RX4, TX4, 11), (RX5, TX5, 3), (RX6, TX6, 14)]
end
section
/-! THE WHOLE SYSTEM'S MEMORY AS ONE FUNCTION OF TWO NUMBERS: cell, place ↦ Int32. Every cell of the class, of the reference and of the law has a fixed number ('logical cell'). -/
/-- the words of the tables that a call may take along -/
def gtb : List Cond := lw_tbl.filter goodWord
theorem g_tb {w : Cond} (h : w ∈ lw_tbl) (hg : goodWord w = true) : w ∈ gtb := List.mem_filter.mpr ⟨h, hg⟩
def g_ws (y : MethodName) (b : ByteArray) (n : Nat) (r : Option FieldType) : List Cond := Cond.code y b n r :: gtb
theorem g_word {w : Cond} (h : w ∈ gtb) : goodWord w = true := (List.mem_filter.mp h).2
theorem g_inL {z : MethodName} {b2 : ByteArray} {n2 : Nat} {r2 : Option FieldType} (h : Cond.code z b2 n2 r2 ∈ gtb) : GoodIn gtb (g_ws z b2 n2 r2) := by
  intro w hw
  rcases List.mem_cons.mp hw with rfl | hw
  · exact ⟨h, good_of_word (g_word h)⟩
  · exact ⟨hw, good_of_word (g_word hw)⟩
abbrev gM : Type := Nat → Nat → Int32
/-- class ids of int[], boolean[], long[], int[][] -/
abbrev gT : Type := ClassId × ClassId × ClassId × ClassId
abbrev gV : Type := Nat ⊕ Value
abbrev gi (x : Int32) : gV := .inr (.int x)
abbrev gl (x : Int64) : gV := .inr (.long x)
abbrev gd (x : UInt64) : gV := .inr (.double x)
abbrev gr (i : Nat) : gV := .inl i
def g_v (ad : Nat → Nat) : gV → Value
  | .inl i => .ref (ad i)
  | .inr v => v
def g_q (ad : Nat → Nat) (q : Nat × gV) : Nat × Value := (q.1, g_v ad q.2)
/-- the outer array of rows b, b + 1, .. -/
def g_out (ad : Nat → Nat) (b : Nat) : vp_A := (40, .inr (.inr (.inr (.inr (fun j => if j < 40 then some (ad (b + j)) else none)))))
/-- what a cell of number i with row f (and n places, if it is an array) is -/
def g_ce (g : gT) (ad : Nat → Nat) (n : Nat) (f : Nat → Int32) (i : Nat) : va_E :=
  if i = 129 then .inr (4, [.ref (ad 130), .ref (ad 131), .ref (ad 132), .ref (ad 133), .ref (ad 134), .ref (ad 135), .ref (ad 136), .ref (ad 137), .int (f 8), .int (f 9), .int (f 10)])
  else if i = 183 then .inr (6, [.int (f 0), .int (f 1), .ref (ad 184), .int (f 3), .ref (ad 185), .ref (ad 186), .ref (ad 187), .ref (ad 188), .ref (ad 189), .int (f 9), .ref (ad 190), .ref (ad 191), .int (f 12), .int (f 13)])
  else if i = 188 then .inl (g.2.1, n, .inl f)
  else if i = 192 then .inl (g.2.2.1, n, .inr (.inl (fun j => (f j).toInt64)))
  else if i = 0 then .inr (5, [.ref (ad 1), .ref (ad 43), .ref (ad 128)])
  else if i = 1 then .inr (2, [.ref (ad 2), .int (f 1)])
  else if i = 43 then .inr (3, [.ref (ad 44), .ref (ad 85), .ref (ad 126), .ref (ad 127)])
  else if i = 128 then .inr (0, [.ref (ad 129), .ref (ad 138), .ref (ad 182), .int (f 3), .int (f 4)])
  else if i = 138 then .inr (1, [.ref (ad 139), .ref (ad 140), .ref (ad 181), .int (f 3)])
  else if i = 2 then .inl (g.2.2.2, g_out ad 3)
  else if i = 44 then .inl (g.2.2.2, g_out ad 45)
  else if i = 85 then .inl (g.2.2.2, g_out ad 86)
  else if i = 140 then .inl (g.2.2.2, g_out ad 141)
  else .inl (g.1, n, .inl f)
/-- the plain int arrays -/
def g_isI (i : Nat) : Bool := !([129, 183, 188, 192, 0, 1, 43, 128, 138, 2, 44, 85, 140].contains i)
theorem g_ce_I {g : gT} {ad : Nat → Nat} {n : Nat} {f : Nat → Int32} {i : Nat} (h : g_isI i = true) : g_ce g ad n f i = .inl (g.1, n, .inl f) := by
  have h : ¬ (i = 129 ∨ i = 183 ∨ i = 188 ∨ i = 192 ∨ i = 0 ∨ i = 1 ∨ i = 43 ∨ i = 128 ∨ i = 138 ∨ i = 2 ∨ i = 44 ∨ i = 85 ∨ i = 140) := by
    simpa [g_isI] using h
  unfold g_ce
  rw [if_neg (by omega), if_neg (by omega), if_neg (by omega), if_neg (by omega), if_neg (by omega), if_neg (by omega), if_neg (by omega), if_neg (by omega), if_neg (by omega), if_neg (by omega), if_neg (by omega), if_neg (by omega), if_neg (by omega)]
def g_len (i : Nat) : Nat :=
  if i < 43 then 7 else if i < 85 then 60 else if i < 126 then 5 else if i < 128 then 60 else if i < 134 then 2600 else if i < 137 then 5208 else if i < 138 then 60 else if i < 140 then 40 else if i < 181 then 60 else if i < 182 then 40 else if i < 184 then 60 else if i < 185 then 246 else if i < 192 then 61 else 1
/-- how many places cell i has: ln says it of the arrays that grow (185 to 189) and of the new ones (193 on) -/
def g_ln (ln : Nat → Nat) (i : Nat) : Nat := if 185 ≤ i ∧ i ≤ 189 ∨ 193 ≤ i then ln i else g_len i
theorem g_ln_c {ln : Nat → Nat} {i : Nat} (h : i < 185) : g_ln ln i = g_len i := if_neg (by omega)
def gw (g : gT) (ad ln : Nat → Nat) (A : gM) (N : Nat) : va_W := (List.range N).map (fun i => (ad i, g_ce g ad (g_ln ln i) (A i) i))
theorem gw_at {g : gT} {ad ln : Nat → Nat} {A : gM} {N i : Nat} (h : i < N) : (gw g ad ln A N)[i]? = some (ad i, g_ce g ad (g_ln ln i) (A i) i) := by
  simp [gw, h]
theorem gw_of {g : gT} {ad ln : Nat → Nat} {A : gM} {N k : Nat} {q : Nat × va_E} (h : (gw g ad ln A N)[k]? = some q) : k < N ∧ q = (ad k, g_ce g ad (g_ln ln k) (A k) k) := by
  have hk : k < N := by
    have := (List.getElem?_eq_some_iff.mp h).1
    simpa [gw] using this
  refine ⟨hk, ?_⟩
  rw [gw_at hk] at h
  exact (Option.some.inj h).symm
/-- row i of A becomes f -/
def g_row (A : gM) (i : Nat) (f : Nat → Int32) : gM := fun a => if a = i then f else A a
/-- place j of cell i becomes v -/
def g_up (A : gM) (i j : Nat) (v : Int32) : gM := g_row A i (upd (A i) j v)
theorem g_row_s {A : gM} {i : Nat} {f : Nat → Int32} : g_row A i f i = f := if_pos rfl
theorem g_row_n {A : gM} {i a : Nat} {f : Nat → Int32} (h : a ≠ i) : g_row A i f a = A a := if_neg h
theorem gw_set {g : gT} {ad ln : Nat → Nat} {A : gM} {N i : Nat} {f : Nat → Int32} (h : i < N) : (gw g ad ln A N).set i (ad i, g_ce g ad (g_ln ln i) f i) = gw g ad ln (g_row A i f) N := by
  apply List.ext_getElem?
  intro k
  rw [List.getElem?_set]
  by_cases hk : k < N
  · rw [gw_at hk]
    by_cases e : i = k
    · subst e
      rw [if_pos rfl, if_pos (by simpa [gw] using h), gw_at h, g_row_s]
    · rw [if_neg e, gw_at hk, g_row_n (fun q => e q.symm)]
  · have h2 : (gw g ad ln (g_row A i f) N)[k]? = none := by
      rw [List.getElem?_eq_none_iff]; simp [gw]; omega
    rw [h2, if_neg (by omega), List.getElem?_eq_none_iff]
    simp [gw]; omega
abbrev g_tys (g : gT) : List (ClassId × FieldType) := [(g.1, .int), (g.2.1, .boolean), (g.2.2.1, .long), (g.2.2.2, .array .int)]
section GJ
variable {p : Program} {l : Launch} {e : Env} {R : Room} {s : State} {m : MethodId} {args : Array Value} {below : List Frame} {meth : Method} {c : Code} {Q : State → Prop} {nL : Nat} {D : va_G} {g : gT} {As : Nat → Prop} {N : Nat} {ad ln : Nat → Nat} {A : gM} {loc loc' : List (Nat × gV)} {k n pc : Nat} {st : List gV} {cc : ByteArray} {own : String} {d : Nat}
/-- the machine at pc, the world gw, locals loc, operands st, comes to Q -/
def gJ (p : Program) (l : Launch) (e : Env) (R : Room) (s : State) (m : MethodId) (args : Array Value) (below : List Frame) (meth : Method) (c : Code) (Q : State → Prop) (nL : Nat) (D : va_G) (g : gT) (As : Nat → Prop) (N : Nat) (ad ln : Nat → Nat) (A : gM) (loc : List (Nat × gV)) (k n pc : Nat) (st : List gV) : Prop :=
  ∀ (H : Heap) (locs : List Loc) (ls : Array Slot), va_P D vwCl (gw g ad ln A N) H → va_D As (gw g ad ln A N) → va_S As s.heap H locs → lv_has ls nL (loc.map (g_q ad)) → W p l e R s m args below meth c H locs k n Q (F0 m pc ls (st.map (g_v ad)))
/-- what stays while a method runs -/
def gC (p : Program) (R : Room) (s : State) (m : MethodId) (args : Array Value) (meth : Method) (c : Code) (cc : ByteArray) (own : String) (nL : Nat) (D : va_G) (g : gT) (As : Nat → Prop) (d : Nat) : Prop :=
  p.tables.exec = Jvm.exec ∧ c.code = cc ∧ c.maxLocals = nL ∧ s.vm.findClass own = some m.cls ∧ (∀ w ∈ gtb, w.before args s = true) ∧ va_K D vwCl (g_tys g) s ∧ (∀ q : Nat, s.heap.size ≤ q → As q) ∧ meth.locks = false ∧ d ≤ R.frames ∧ 40 * d ≤ R.locals
theorem g_pc {pc2 : Nat} (h : pc = pc2) (kk : gJ p l e R s m args below meth c Q nL D g As N ad ln A loc k n pc2 st) : gJ p l e R s m args below meth c Q nL D g As N ad ln A loc k n pc st := h ▸ kk
theorem g_mem {A2 : gM} (h : A = A2) (kk : gJ p l e R s m args below meth c Q nL D g As N ad ln A2 loc k n pc st) : gJ p l e R s m args below meth c Q nL D g As N ad ln A loc k n pc st := h ▸ kk
theorem g_sub (ks : List Nat) (h : ks.filterMap (fun i => loc[i]?) = loc') (kk : gJ p l e R s m args below meth c Q nL D g As N ad ln A loc' k n pc st) : gJ p l e R s m args below meth c Q nL D g As N ad ln A loc k n pc st := by
  intro H locs ls hP hD hS hl
  refine kk H locs ls hP hD hS ⟨hl.1, hl.2.1, fun q hq => hl.2.2 q ?_⟩
  obtain ⟨q0, h0, rfl⟩ := List.mem_map.mp hq
  rw [← h] at h0
  obtain ⟨i, -, hi⟩ := List.mem_filterMap.mp h0
  exact List.mem_map.mpr ⟨q0, List.mem_of_getElem? hi, rfl⟩
variable (C : gC p R s m args meth c cc own nL D g As d)
theorem g_at {ad : Nat → Nat} {loc : List (Nat × gV)} {ls : Array Slot} {q i : Nat} {v : gV} (hl : lv_has ls nL (loc.map (g_q ad))) (h : loc[q]? = some (i, v)) : ls[i]? = some (.val (g_v ad v)) :=
  lv_at hl q (by rw [List.getElem?_map, h]; rfl)
theorem g_iconst (C : gC p R s m args meth c cc own nL D g As d) {v : Int32} {z : Int} (hdg : decode cc pc = .ok (.iconst z, 1)) (hv : Int32.ofInt z = v) (kk : gJ p l e R s m args below meth c Q nL D g As N ad ln A loc k n (pc + 1) (gi v :: st)) : gJ p l e R s m args below meth c Q nL D g As N ad ln A loc k n pc (st) := fun H locs ls hP hD hS hl => lv_iconst C.1 C.2.1 hdg hv (kk H locs ls hP hD hS hl)
theorem g_bipush (C : gC p R s m args meth c cc own nL D g As d) {v : Int32} {z : Int} (hdg : decode cc pc = .ok (.bipush z, 2)) (hv : (Int8.ofInt z).toInt32 = v) (kk : gJ p l e R s m args below meth c Q nL D g As N ad ln A loc k n (pc + 2) (gi v :: st)) : gJ p l e R s m args below meth c Q nL D g As N ad ln A loc k n pc (st) := fun H locs ls hP hD hS hl => lv_bipush C.1 C.2.1 hdg hv (kk H locs ls hP hD hS hl)
theorem g_sipush (C : gC p R s m args meth c cc own nL D g As d) {v : Int32} {z : Int} (hdg : decode cc pc = .ok (.sipush z, 3)) (hv : (Int16.ofInt z).toInt32 = v) (kk : gJ p l e R s m args below meth c Q nL D g As N ad ln A loc k n (pc + 3) (gi v :: st)) : gJ p l e R s m args below meth c Q nL D g As N ad ln A loc k n pc (st) := fun H locs ls hP hD hS hl => lv_sipush C.1 C.2.1 hdg hv (kk H locs ls hP hD hS hl)
theorem g_lconst (C : gC p R s m args meth c cc own nL D g As d) {v : Int64} {z : Fin 2} (hdg : decode cc pc = .ok (.lconst z, 1)) (hv : Int64.ofNat (z : Nat) = v) (kk : gJ p l e R s m args below meth c Q nL D g As N ad ln A loc k n (pc + 1) (gl v :: st)) : gJ p l e R s m args below meth c Q nL D g As N ad ln A loc k n pc (st) := fun H locs ls hP hD hS hl => lv_lconst C.1 C.2.1 hdg hv (kk H locs ls hP hD hS hl)
theorem g_ldc (C : gC p R s m args meth c cc own nL D g As d) {v : Int32} {ix : Nat} (hw : Cond.constant own ix v ∈ gtb) (hdg : decode cc pc = .ok (.ldc ix, 2)) (kk : gJ p l e R s m args below meth c Q nL D g As N ad ln A loc k n (pc + 2) (gi v :: st)) : gJ p l e R s m args below meth c Q nL D g As N ad ln A loc k n pc (st) := fun H locs ls hP hD hS hl => lv_ldc C.1 C.2.1 C.2.2.2.1 (C.2.2.2.2.1 _ hw) hdg (kk H locs ls hP hD hS hl)
theorem g_ldc2 (C : gC p R s m args meth c cc own nL D g As d) {v : Int64} {ix : Nat} (hw : Cond.constantLong own ix v ∈ gtb) (hdg : decode cc pc = .ok (.ldc2_w ix, 3)) (kk : gJ p l e R s m args below meth c Q nL D g As N ad ln A loc k n (pc + 3) (gl v :: st)) : gJ p l e R s m args below meth c Q nL D g As N ad ln A loc k n pc (st) := fun H locs ls hP hD hS hl => lv_ldc2 C.1 C.2.1 C.2.2.2.1 (C.2.2.2.2.1 _ hw) hdg (kk H locs ls hP hD hS hl)
theorem g_dconst0 (C : gC p R s m args meth c cc own nL D g As d) (hdg : decode cc pc = .ok (.dconst 0, 1)) (kk : gJ p l e R s m args below meth c Q nL D g As N ad ln A loc k n (pc + 1) (gd 0 :: st)) : gJ p l e R s m args below meth c Q nL D g As N ad ln A loc k n pc (st) := fun H locs ls hP hD hS hl => lv_dconst0 C.1 C.2.1 hdg (kk H locs ls hP hD hS hl)
theorem g_iload_n (C : gC p R s m args meth c cc own nL D g As d) (q : Nat) {x : Int32} {z : Fin 4} (hdg : decode cc pc = .ok (.iload_n z, 1)) (h : loc[q]? = some ((z : Nat), gi x)) (kk : gJ p l e R s m args below meth c Q nL D g As N ad ln A loc k n (pc + 1) (gi x :: st)) : gJ p l e R s m args below meth c Q nL D g As N ad ln A loc k n pc (st) := fun H locs ls hP hD hS hl => lv_iload_n C.1 C.2.1 hdg rfl (g_at hl h) (kk H locs ls hP hD hS hl)
theorem g_iload (C : gC p R s m args meth c cc own nL D g As d) (q : Nat) {x : Int32} {i : Nat} (hdg : decode cc pc = .ok (.iload i, 2)) (h : loc[q]? = some (i, gi x)) (kk : gJ p l e R s m args below meth c Q nL D g As N ad ln A loc k n (pc + 2) (gi x :: st)) : gJ p l e R s m args below meth c Q nL D g As N ad ln A loc k n pc (st) := fun H locs ls hP hD hS hl => lv_iload C.1 C.2.1 hdg (g_at hl h) (kk H locs ls hP hD hS hl)
theorem g_lload_n (C : gC p R s m args meth c cc own nL D g As d) (q : Nat) {x : Int64} {z : Fin 4} (hdg : decode cc pc = .ok (.lload_n z, 1)) (h : loc[q]? = some ((z : Nat), gl x)) (kk : gJ p l e R s m args below meth c Q nL D g As N ad ln A loc k n (pc + 1) (gl x :: st)) : gJ p l e R s m args below meth c Q nL D g As N ad ln A loc k n pc (st) := fun H locs ls hP hD hS hl => lv_lload_n C.1 C.2.1 hdg rfl (g_at hl h) (kk H locs ls hP hD hS hl)
theorem g_lload (C : gC p R s m args meth c cc own nL D g As d) (q : Nat) {x : Int64} {i : Nat} (hdg : decode cc pc = .ok (.lload i, 2)) (h : loc[q]? = some (i, gl x)) (kk : gJ p l e R s m args below meth c Q nL D g As N ad ln A loc k n (pc + 2) (gl x :: st)) : gJ p l e R s m args below meth c Q nL D g As N ad ln A loc k n pc (st) := fun H locs ls hP hD hS hl => lv_lload C.1 C.2.1 hdg (g_at hl h) (kk H locs ls hP hD hS hl)
theorem g_aload_n (C : gC p R s m args meth c cc own nL D g As d) (q : Nat) {x : Nat} {z : Fin 4} (hdg : decode cc pc = .ok (.aload_n z, 1)) (h : loc[q]? = some ((z : Nat), gr x)) (kk : gJ p l e R s m args below meth c Q nL D g As N ad ln A loc k n (pc + 1) (gr x :: st)) : gJ p l e R s m args below meth c Q nL D g As N ad ln A loc k n pc (st) := fun H locs ls hP hD hS hl => lv_aload_n C.1 C.2.1 hdg rfl (g_at hl h) (kk H locs ls hP hD hS hl)
theorem g_aload (C : gC p R s m args meth c cc own nL D g As d) (q : Nat) {x : Nat} {i : Nat} (hdg : decode cc pc = .ok (.aload i, 2)) (h : loc[q]? = some (i, gr x)) (kk : gJ p l e R s m args below meth c Q nL D g As N ad ln A loc k n (pc + 2) (gr x :: st)) : gJ p l e R s m args below meth c Q nL D g As N ad ln A loc k n pc (st) := fun H locs ls hP hD hS hl => lv_aload C.1 C.2.1 hdg (g_at hl h) (kk H locs ls hP hD hS hl)
theorem g_dload_n (C : gC p R s m args meth c cc own nL D g As d) (q : Nat) {x : UInt64} {z : Fin 4} (hdg : decode cc pc = .ok (.dload_n z, 1)) (h : loc[q]? = some ((z : Nat), gd x)) (kk : gJ p l e R s m args below meth c Q nL D g As N ad ln A loc k n (pc + 1) (gd x :: st)) : gJ p l e R s m args below meth c Q nL D g As N ad ln A loc k n pc (st) := fun H locs ls hP hD hS hl => lv_dload_n C.1 C.2.1 hdg rfl (g_at hl h) (kk H locs ls hP hD hS hl)
theorem g_dload (C : gC p R s m args meth c cc own nL D g As d) (q : Nat) {x : UInt64} {i : Nat} (hdg : decode cc pc = .ok (.dload i, 2)) (h : loc[q]? = some (i, gd x)) (kk : gJ p l e R s m args below meth c Q nL D g As N ad ln A loc k n (pc + 2) (gd x :: st)) : gJ p l e R s m args below meth c Q nL D g As N ad ln A loc k n pc (st) := fun H locs ls hP hD hS hl => lv_dload C.1 C.2.1 hdg (g_at hl h) (kk H locs ls hP hD hS hl)
theorem g_iadd (C : gC p R s m args meth c cc own nL D g As d) {x y : Int32} (hdg : decode cc pc = .ok (.iadd, 1)) (kk : gJ p l e R s m args below meth c Q nL D g As N ad ln A loc k n (pc + 1) (gi (x + y) :: st)) : gJ p l e R s m args below meth c Q nL D g As N ad ln A loc k n pc (gi y :: gi x :: st) := fun H locs ls hP hD hS hl => lv_iadd C.1 C.2.1 hdg (kk H locs ls hP hD hS hl)
theorem g_isub (C : gC p R s m args meth c cc own nL D g As d) {x y : Int32} (hdg : decode cc pc = .ok (.isub, 1)) (kk : gJ p l e R s m args below meth c Q nL D g As N ad ln A loc k n (pc + 1) (gi (x - y) :: st)) : gJ p l e R s m args below meth c Q nL D g As N ad ln A loc k n pc (gi y :: gi x :: st) := fun H locs ls hP hD hS hl => lv_isub C.1 C.2.1 hdg (kk H locs ls hP hD hS hl)
theorem g_imul (C : gC p R s m args meth c cc own nL D g As d) {x y : Int32} (hdg : decode cc pc = .ok (.imul, 1)) (kk : gJ p l e R s m args below meth c Q nL D g As N ad ln A loc k n (pc + 1) (gi (x * y) :: st)) : gJ p l e R s m args below meth c Q nL D g As N ad ln A loc k n pc (gi y :: gi x :: st) := fun H locs ls hP hD hS hl => lv_imul C.1 C.2.1 hdg (kk H locs ls hP hD hS hl)
theorem g_iand (C : gC p R s m args meth c cc own nL D g As d) {x y : Int32} (hdg : decode cc pc = .ok (.iand, 1)) (kk : gJ p l e R s m args below meth c Q nL D g As N ad ln A loc k n (pc + 1) (gi (x &&& y) :: st)) : gJ p l e R s m args below meth c Q nL D g As N ad ln A loc k n pc (gi y :: gi x :: st) := fun H locs ls hP hD hS hl => lv_iand C.1 C.2.1 hdg (kk H locs ls hP hD hS hl)
theorem g_ladd (C : gC p R s m args meth c cc own nL D g As d) {x y : Int64} (hdg : decode cc pc = .ok (.ladd, 1)) (kk : gJ p l e R s m args below meth c Q nL D g As N ad ln A loc k n (pc + 1) (gl (x + y) :: st)) : gJ p l e R s m args below meth c Q nL D g As N ad ln A loc k n pc (gl y :: gl x :: st) := fun H locs ls hP hD hS hl => lv_ladd C.1 C.2.1 hdg (kk H locs ls hP hD hS hl)
theorem g_lmul (C : gC p R s m args meth c cc own nL D g As d) {x y : Int64} (hdg : decode cc pc = .ok (.lmul, 1)) (kk : gJ p l e R s m args below meth c Q nL D g As N ad ln A loc k n (pc + 1) (gl (x * y) :: st)) : gJ p l e R s m args below meth c Q nL D g As N ad ln A loc k n pc (gl y :: gl x :: st) := fun H locs ls hP hD hS hl => lv_lmul C.1 C.2.1 hdg (kk H locs ls hP hD hS hl)
theorem g_i2l (C : gC p R s m args meth c cc own nL D g As d) {x : Int32} (hdg : decode cc pc = .ok (.i2l, 1)) (kk : gJ p l e R s m args below meth c Q nL D g As N ad ln A loc k n (pc + 1) (gl x.toInt64 :: st)) : gJ p l e R s m args below meth c Q nL D g As N ad ln A loc k n pc (gi x :: st) := fun H locs ls hP hD hS hl => lv_i2l C.1 C.2.1 hdg rfl (kk H locs ls hP hD hS hl)
theorem g_i2d (C : gC p R s m args meth c cc own nL D g As d) {x : Int32} (hdg : decode cc pc = .ok (.i2d, 1)) (kk : gJ p l e R s m args below meth c Q nL D g As N ad ln A loc k n (pc + 1) (gd (FP.i2d x) :: st)) : gJ p l e R s m args below meth c Q nL D g As N ad ln A loc k n pc (gi x :: st) := fun H locs ls hP hD hS hl => lv_i2d C.1 C.2.1 hdg (kk H locs ls hP hD hS hl)
theorem g_lcmp (C : gC p R s m args meth c cc own nL D g As d) {x y : Int64} (hdg : decode cc pc = .ok (.lcmp, 1)) (kk : gJ p l e R s m args below meth c Q nL D g As N ad ln A loc k n (pc + 1) (gi (lg_cmp x y) :: st)) : gJ p l e R s m args below meth c Q nL D g As N ad ln A loc k n pc (gl y :: gl x :: st) := fun H locs ls hP hD hS hl => W.lcmp C.1 C.2.1 hdg (kk H locs ls hP hD hS hl)
theorem g_dcmp (C : gC p R s m args meth c cc own nL D g As d) {x y : UInt64} {op : CmpOp} (hdg : decode cc pc = .ok (.dcmp op, 1)) (kk : gJ p l e R s m args below meth c Q nL D g As N ad ln A loc k n (pc + 1) (gi (Op.cmpValue (FP.dcmp x y) op) :: st)) : gJ p l e R s m args below meth c Q nL D g As N ad ln A loc k n pc (gd y :: gd x :: st) := fun H locs ls hP hD hS hl => lv_dcmp C.1 C.2.1 hdg (kk H locs ls hP hD hS hl)
theorem g_dup_r (C : gC p R s m args meth c cc own nL D g As d) {x : Nat} (hdg : decode cc pc = .ok (.dup, 1)) (kk : gJ p l e R s m args below meth c Q nL D g As N ad ln A loc k n (pc + 1) (gr x :: gr x :: st)) : gJ p l e R s m args below meth c Q nL D g As N ad ln A loc k n pc (gr x :: st) := fun H locs ls hP hD hS hl => lv_dup C.1 C.2.1 hdg rfl (kk H locs ls hP hD hS hl)
theorem g_dup_i (C : gC p R s m args meth c cc own nL D g As d) {x : Int32} (hdg : decode cc pc = .ok (.dup, 1)) (kk : gJ p l e R s m args below meth c Q nL D g As N ad ln A loc k n (pc + 1) (gi x :: gi x :: st)) : gJ p l e R s m args below meth c Q nL D g As N ad ln A loc k n pc (gi x :: st) := fun H locs ls hP hD hS hl => lv_dup C.1 C.2.1 hdg rfl (kk H locs ls hP hD hS hl)
theorem g_pop_i (C : gC p R s m args meth c cc own nL D g As d) {x : Int32} (hdg : decode cc pc = .ok (.pop, 1)) (kk : gJ p l e R s m args below meth c Q nL D g As N ad ln A loc k n (pc + 1) (st)) : gJ p l e R s m args below meth c Q nL D g As N ad ln A loc k n pc (gi x :: st) := fun H locs ls hP hD hS hl => lv_pop C.1 C.2.1 hdg rfl (kk H locs ls hP hD hS hl)
theorem g_if_eq (C : gC p R s m args meth c cc own nL D g As d) {x : Int32} {off : Int} {tgt : Nat} (hdg : decode cc pc = .ok (.ifCond .eq off, 3)) (ht : (pc : Int) + off = (tgt : Int)) (kt : x = 0 → gJ p l e R s m args below meth c Q nL D g As N ad ln A loc k n tgt st) (kf : ¬ x = 0 → gJ p l e R s m args below meth c Q nL D g As N ad ln A loc k n (pc + 3) st) : gJ p l e R s m args below meth c Q nL D g As N ad ln A loc k n pc (gi x :: st) := fun H locs ls hP hD hS hl => lv_if_eq C.1 C.2.1 hdg ht (fun q => kt q H locs ls hP hD hS hl) (fun q => kf q H locs ls hP hD hS hl)
theorem g_if_ne (C : gC p R s m args meth c cc own nL D g As d) {x : Int32} {off : Int} {tgt : Nat} (hdg : decode cc pc = .ok (.ifCond .ne off, 3)) (ht : (pc : Int) + off = (tgt : Int)) (kt : ¬ x = 0 → gJ p l e R s m args below meth c Q nL D g As N ad ln A loc k n tgt st) (kf : x = 0 → gJ p l e R s m args below meth c Q nL D g As N ad ln A loc k n (pc + 3) st) : gJ p l e R s m args below meth c Q nL D g As N ad ln A loc k n pc (gi x :: st) := fun H locs ls hP hD hS hl => lv_if_ne C.1 C.2.1 hdg ht (fun q => kt q H locs ls hP hD hS hl) (fun q => kf q H locs ls hP hD hS hl)
theorem g_if_lt (C : gC p R s m args meth c cc own nL D g As d) {x : Int32} {off : Int} {tgt : Nat} (hdg : decode cc pc = .ok (.ifCond .lt off, 3)) (ht : (pc : Int) + off = (tgt : Int)) (kt : x < 0 → gJ p l e R s m args below meth c Q nL D g As N ad ln A loc k n tgt st) (kf : ¬ x < 0 → gJ p l e R s m args below meth c Q nL D g As N ad ln A loc k n (pc + 3) st) : gJ p l e R s m args below meth c Q nL D g As N ad ln A loc k n pc (gi x :: st) := fun H locs ls hP hD hS hl => lv_if_lt C.1 C.2.1 hdg ht (fun q => kt q H locs ls hP hD hS hl) (fun q => kf q H locs ls hP hD hS hl)
theorem g_if_ge (C : gC p R s m args meth c cc own nL D g As d) {x : Int32} {off : Int} {tgt : Nat} (hdg : decode cc pc = .ok (.ifCond .ge off, 3)) (ht : (pc : Int) + off = (tgt : Int)) (kt : 0 ≤ x → gJ p l e R s m args below meth c Q nL D g As N ad ln A loc k n tgt st) (kf : ¬ 0 ≤ x → gJ p l e R s m args below meth c Q nL D g As N ad ln A loc k n (pc + 3) st) : gJ p l e R s m args below meth c Q nL D g As N ad ln A loc k n pc (gi x :: st) := fun H locs ls hP hD hS hl => lv_if_ge C.1 C.2.1 hdg ht (fun q => kt q H locs ls hP hD hS hl) (fun q => kf q H locs ls hP hD hS hl)
theorem g_if_gt (C : gC p R s m args meth c cc own nL D g As d) {x : Int32} {off : Int} {tgt : Nat} (hdg : decode cc pc = .ok (.ifCond .gt off, 3)) (ht : (pc : Int) + off = (tgt : Int)) (kt : 0 < x → gJ p l e R s m args below meth c Q nL D g As N ad ln A loc k n tgt st) (kf : ¬ 0 < x → gJ p l e R s m args below meth c Q nL D g As N ad ln A loc k n (pc + 3) st) : gJ p l e R s m args below meth c Q nL D g As N ad ln A loc k n pc (gi x :: st) := fun H locs ls hP hD hS hl => lv_if_gt C.1 C.2.1 hdg ht (fun q => kt q H locs ls hP hD hS hl) (fun q => kf q H locs ls hP hD hS hl)
theorem g_if_le (C : gC p R s m args meth c cc own nL D g As d) {x : Int32} {off : Int} {tgt : Nat} (hdg : decode cc pc = .ok (.ifCond .le off, 3)) (ht : (pc : Int) + off = (tgt : Int)) (kt : x ≤ 0 → gJ p l e R s m args below meth c Q nL D g As N ad ln A loc k n tgt st) (kf : ¬ x ≤ 0 → gJ p l e R s m args below meth c Q nL D g As N ad ln A loc k n (pc + 3) st) : gJ p l e R s m args below meth c Q nL D g As N ad ln A loc k n pc (gi x :: st) := fun H locs ls hP hD hS hl => lv_if_le C.1 C.2.1 hdg ht (fun q => kt q H locs ls hP hD hS hl) (fun q => kf q H locs ls hP hD hS hl)
theorem g_icmp_eq (C : gC p R s m args meth c cc own nL D g As d) {x y : Int32} {off : Int} {tgt : Nat} (hdg : decode cc pc = .ok (.if_icmp .eq off, 3)) (ht : (pc : Int) + off = (tgt : Int)) (kt : x = y → gJ p l e R s m args below meth c Q nL D g As N ad ln A loc k n tgt st) (kf : ¬ x = y → gJ p l e R s m args below meth c Q nL D g As N ad ln A loc k n (pc + 3) st) : gJ p l e R s m args below meth c Q nL D g As N ad ln A loc k n pc (gi y :: gi x :: st) := fun H locs ls hP hD hS hl => lv_icmp_eq C.1 C.2.1 hdg ht (fun q => kt q H locs ls hP hD hS hl) (fun q => kf q H locs ls hP hD hS hl)
theorem g_icmp_ne (C : gC p R s m args meth c cc own nL D g As d) {x y : Int32} {off : Int} {tgt : Nat} (hdg : decode cc pc = .ok (.if_icmp .ne off, 3)) (ht : (pc : Int) + off = (tgt : Int)) (kt : ¬ x = y → gJ p l e R s m args below meth c Q nL D g As N ad ln A loc k n tgt st) (kf : x = y → gJ p l e R s m args below meth c Q nL D g As N ad ln A loc k n (pc + 3) st) : gJ p l e R s m args below meth c Q nL D g As N ad ln A loc k n pc (gi y :: gi x :: st) := fun H locs ls hP hD hS hl => lv_icmp_ne C.1 C.2.1 hdg ht (fun q => kt q H locs ls hP hD hS hl) (fun q => kf q H locs ls hP hD hS hl)
theorem g_icmp_lt (C : gC p R s m args meth c cc own nL D g As d) {x y : Int32} {off : Int} {tgt : Nat} (hdg : decode cc pc = .ok (.if_icmp .lt off, 3)) (ht : (pc : Int) + off = (tgt : Int)) (kt : x < y → gJ p l e R s m args below meth c Q nL D g As N ad ln A loc k n tgt st) (kf : ¬ x < y → gJ p l e R s m args below meth c Q nL D g As N ad ln A loc k n (pc + 3) st) : gJ p l e R s m args below meth c Q nL D g As N ad ln A loc k n pc (gi y :: gi x :: st) := fun H locs ls hP hD hS hl => lv_icmp_lt C.1 C.2.1 hdg ht (fun q => kt q H locs ls hP hD hS hl) (fun q => kf q H locs ls hP hD hS hl)
theorem g_icmp_ge (C : gC p R s m args meth c cc own nL D g As d) {x y : Int32} {off : Int} {tgt : Nat} (hdg : decode cc pc = .ok (.if_icmp .ge off, 3)) (ht : (pc : Int) + off = (tgt : Int)) (kt : y ≤ x → gJ p l e R s m args below meth c Q nL D g As N ad ln A loc k n tgt st) (kf : ¬ y ≤ x → gJ p l e R s m args below meth c Q nL D g As N ad ln A loc k n (pc + 3) st) : gJ p l e R s m args below meth c Q nL D g As N ad ln A loc k n pc (gi y :: gi x :: st) := fun H locs ls hP hD hS hl => lv_icmp_ge C.1 C.2.1 hdg ht (fun q => kt q H locs ls hP hD hS hl) (fun q => kf q H locs ls hP hD hS hl)
theorem g_icmp_gt (C : gC p R s m args meth c cc own nL D g As d) {x y : Int32} {off : Int} {tgt : Nat} (hdg : decode cc pc = .ok (.if_icmp .gt off, 3)) (ht : (pc : Int) + off = (tgt : Int)) (kt : y < x → gJ p l e R s m args below meth c Q nL D g As N ad ln A loc k n tgt st) (kf : ¬ y < x → gJ p l e R s m args below meth c Q nL D g As N ad ln A loc k n (pc + 3) st) : gJ p l e R s m args below meth c Q nL D g As N ad ln A loc k n pc (gi y :: gi x :: st) := fun H locs ls hP hD hS hl => lv_icmp_gt C.1 C.2.1 hdg ht (fun q => kt q H locs ls hP hD hS hl) (fun q => kf q H locs ls hP hD hS hl)
theorem g_icmp_le (C : gC p R s m args meth c cc own nL D g As d) {x y : Int32} {off : Int} {tgt : Nat} (hdg : decode cc pc = .ok (.if_icmp .le off, 3)) (ht : (pc : Int) + off = (tgt : Int)) (kt : x ≤ y → gJ p l e R s m args below meth c Q nL D g As N ad ln A loc k n tgt st) (kf : ¬ x ≤ y → gJ p l e R s m args below meth c Q nL D g As N ad ln A loc k n (pc + 3) st) : gJ p l e R s m args below meth c Q nL D g As N ad ln A loc k n pc (gi y :: gi x :: st) := fun H locs ls hP hD hS hl => lv_icmp_le C.1 C.2.1 hdg ht (fun q => kt q H locs ls hP hD hS hl) (fun q => kf q H locs ls hP hD hS hl)
theorem g_goto (C : gC p R s m args meth c cc own nL D g As d) {off : Int} {tgt : Nat} (hdg : decode cc pc = .ok (.goto off, 3)) (ht : (pc : Int) + off = (tgt : Int)) (kk : gJ p l e R s m args below meth c Q nL D g As N ad ln A loc k n tgt st) : gJ p l e R s m args below meth c Q nL D g As N ad ln A loc k n pc st := fun H locs ls hP hD hS hl => lv_goto C.1 C.2.1 hdg ht (kk H locs ls hP hD hS hl)
def g_cat : gV → Nat
  | .inl _ => 1
  | .inr v => v.category
theorem g_cat_v {ad : Nat → Nat} {v : gV} : (g_v ad v).category = g_cat v := by cases v <;> rfl
/-- the locals behind a store of one word, of two -/
def g_st (i : Nat) (v : gV) (loc : List (Nat × gV)) : List (Nat × gV) := (i, v) :: loc.filter (fun q => !(q.1 == i) && !(q.1 + 1 == i && g_cat q.2 == 2))
def g_st2 (i : Nat) (v : gV) (loc : List (Nat × gV)) : List (Nat × gV) := (i, v) :: loc.filter (fun q => !(q.1 == i) && (!(q.1 == i + 1) && !(q.1 + 1 == i && g_cat q.2 == 2)))
theorem g_st_map {ad : Nat → Nat} {i : Nat} {v : gV} {loc : List (Nat × gV)} : (i, g_v ad v) :: (loc.map (g_q ad)).filter (fun q => !(q.1 == i) && !(q.1 + 1 == i && q.2.category == 2)) = (g_st i v loc).map (g_q ad) := by
  show _ = (i, g_v ad v) :: _
  rw [List.filter_map]
  congr 2
  apply List.filter_congr
  intro q _
  simp [g_q, g_cat_v]
theorem g_st2_map {ad : Nat → Nat} {i : Nat} {v : gV} {loc : List (Nat × gV)} : (i, g_v ad v) :: (loc.map (g_q ad)).filter (fun q => !(q.1 == i) && (!(q.1 == i + 1) && !(q.1 + 1 == i && q.2.category == 2))) = (g_st2 i v loc).map (g_q ad) := by
  show _ = (i, g_v ad v) :: _
  rw [List.filter_map]
  congr 2
  apply List.filter_congr
  intro q _
  simp [g_q, g_cat_v]
theorem g_istore_n (C : gC p R s m args meth c cc own nL D g As d) {x : Int32} {z : Fin 4} (hdg : decode cc pc = .ok (.istore_n z, 1)) (hn : (z : Nat) < nL) (h : g_st z (gi x) loc = loc') (kk : gJ p l e R s m args below meth c Q nL D g As N ad ln A loc' k n (pc + 1) st) : gJ p l e R s m args below meth c Q nL D g As N ad ln A loc k n pc (gi x :: st) := fun H locs ls hP hD hS hl => lv_istore_n C.1 C.2.1 hdg rfl hl hn (g_st_map.trans (by rw [h])) (fun ls' hl' => kk H locs ls' hP hD hS hl')
theorem g_istore (C : gC p R s m args meth c cc own nL D g As d) {x : Int32} {i : Nat} (hdg : decode cc pc = .ok (.istore i, 2)) (hn : i < nL) (h : g_st i (gi x) loc = loc') (kk : gJ p l e R s m args below meth c Q nL D g As N ad ln A loc' k n (pc + 2) st) : gJ p l e R s m args below meth c Q nL D g As N ad ln A loc k n pc (gi x :: st) := fun H locs ls hP hD hS hl => lv_istore C.1 C.2.1 hdg hl hn (g_st_map.trans (by rw [h])) (fun ls' hl' => kk H locs ls' hP hD hS hl')
theorem g_lstore_n (C : gC p R s m args meth c cc own nL D g As d) {x : Int64} {z : Fin 4} (hdg : decode cc pc = .ok (.lstore_n z, 1)) (hn : (z : Nat) + 1 < nL) (h : g_st2 z (gl x) loc = loc') (kk : gJ p l e R s m args below meth c Q nL D g As N ad ln A loc' k n (pc + 1) st) : gJ p l e R s m args below meth c Q nL D g As N ad ln A loc k n pc (gl x :: st) := fun H locs ls hP hD hS hl => lv_lstore_n C.1 C.2.1 hdg rfl hl hn (g_st2_map.trans (by rw [h])) (fun ls' hl' => kk H locs ls' hP hD hS hl')
theorem g_lstore (C : gC p R s m args meth c cc own nL D g As d) {x : Int64} {i : Nat} (hdg : decode cc pc = .ok (.lstore i, 2)) (hn : i + 1 < nL) (h : g_st2 i (gl x) loc = loc') (kk : gJ p l e R s m args below meth c Q nL D g As N ad ln A loc' k n (pc + 2) st) : gJ p l e R s m args below meth c Q nL D g As N ad ln A loc k n pc (gl x :: st) := fun H locs ls hP hD hS hl => lv_lstore C.1 C.2.1 hdg hl hn (g_st2_map.trans (by rw [h])) (fun ls' hl' => kk H locs ls' hP hD hS hl')
theorem g_astore_n (C : gC p R s m args meth c cc own nL D g As d) {x : Nat} {z : Fin 4} (hdg : decode cc pc = .ok (.astore_n z, 1)) (hn : (z : Nat) < nL) (h : g_st z (gr x) loc = loc') (kk : gJ p l e R s m args below meth c Q nL D g As N ad ln A loc' k n (pc + 1) st) : gJ p l e R s m args below meth c Q nL D g As N ad ln A loc k n pc (gr x :: st) := fun H locs ls hP hD hS hl => lv_astore_n C.1 C.2.1 hdg rfl hl hn (g_st_map.trans (by rw [h])) (fun ls' hl' => kk H locs ls' hP hD hS hl')
theorem g_astore (C : gC p R s m args meth c cc own nL D g As d) {x : Nat} {i : Nat} (hdg : decode cc pc = .ok (.astore i, 2)) (hn : i < nL) (h : g_st i (gr x) loc = loc') (kk : gJ p l e R s m args below meth c Q nL D g As N ad ln A loc' k n (pc + 2) st) : gJ p l e R s m args below meth c Q nL D g As N ad ln A loc k n pc (gr x :: st) := fun H locs ls hP hD hS hl => lv_astore C.1 C.2.1 hdg hl hn (g_st_map.trans (by rw [h])) (fun ls' hl' => kk H locs ls' hP hD hS hl')
theorem g_dstore_n (C : gC p R s m args meth c cc own nL D g As d) {x : UInt64} {z : Fin 4} (hdg : decode cc pc = .ok (.dstore_n z, 1)) (hn : (z : Nat) + 1 < nL) (h : g_st2 z (gd x) loc = loc') (kk : gJ p l e R s m args below meth c Q nL D g As N ad ln A loc' k n (pc + 1) st) : gJ p l e R s m args below meth c Q nL D g As N ad ln A loc k n pc (gd x :: st) := fun H locs ls hP hD hS hl => lv_dstore_n C.1 C.2.1 hdg rfl hl hn (g_st2_map.trans (by rw [h])) (fun ls' hl' => kk H locs ls' hP hD hS hl')
theorem g_dstore (C : gC p R s m args meth c cc own nL D g As d) {x : UInt64} {i : Nat} (hdg : decode cc pc = .ok (.dstore i, 2)) (hn : i + 1 < nL) (h : g_st2 i (gd x) loc = loc') (kk : gJ p l e R s m args below meth c Q nL D g As N ad ln A loc' k n (pc + 2) st) : gJ p l e R s m args below meth c Q nL D g As N ad ln A loc k n pc (gd x :: st) := fun H locs ls hP hD hS hl => lv_dstore C.1 C.2.1 hdg hl hn (g_st2_map.trans (by rw [h])) (fun ls' hl' => kk H locs ls' hP hD hS hl')
theorem g_iinc (C : gC p R s m args meth c cc own nL D g As d) (q : Nat) {x v : Int32} {i : Nat} {z : Int} (hdg : decode cc pc = .ok (.iinc i z, 3)) (hq : loc[q]? = some (i, gi x)) (hv : x + Int32.ofInt z = v) (hn : i < nL) (h : g_st i (gi v) loc = loc') (kk : gJ p l e R s m args below meth c Q nL D g As N ad ln A loc' k n (pc + 3) st) : gJ p l e R s m args below meth c Q nL D g As N ad ln A loc k n pc st := fun H locs ls hP hD hS hl => lv_iinc (k := q) C.1 C.2.1 hdg hl (by rw [List.getElem?_map, hq]; rfl) hv hn (g_st_map.trans (by rw [h])) (fun ls' hl' => kk H locs ls' hP hD hS hl')
def g_in (x : Int32) (n : Nat) : Bool := decide (¬ (x < 0 ∨ n ≤ x.toNatClampNeg))
theorem g_in_vp {x : Int32} {n : Nat} (h : g_in x n = true) : vp_in x n := (of_decide_eq_true h : ¬ (x < 0 ∨ n ≤ x.toNatClampNeg))
theorem g_in_lt {x : Int32} {n : Nat} (h : g_in x n = true) : x.toNatClampNeg < n := Nat.not_le.mp fun q => g_in_vp h (Or.inr q)
theorem g_iald (C : gC p R s m args meth c cc own nL D g As d) (i : Nat) {nn : Nat} {x : Int32} (hi : i < N) (hI : g_isI i = true) (hn : g_ln ln i = nn) (hin : g_in x nn = true) (hdg : decode cc pc = .ok (.iaload, 1)) (kk : gJ p l e R s m args below meth c Q nL D g As N ad ln A loc k n (pc + 1) (gi (A i x.toNatClampNeg) :: st)) : gJ p l e R s m args below meth c Q nL D g As N ad ln A loc k n pc (gi x :: gr i :: st) := fun H locs ls hP hD hS hl => va_iald C.1 C.2.1 C.2.2.2.2.2.1 hP i 0 (f := A i) (n := nn) (cA := g.1) (by rw [gw_at hi, g_ce_I hI, hn]) rfl (g_in_vp hin) hdg (kk H locs ls hP hD hS hl)
theorem g_iast (C : gC p R s m args meth c cc own nL D g As d) (i : Nat) {nn : Nat} {x v : Int32} {A' : gM} (hi : i < N) (hI : g_isI i = true) (hn : g_ln ln i = nn) (hin : g_in x nn = true) (hA : g_up A i x.toNatClampNeg v = A') (hdg : decode cc pc = .ok (.iastore, 1)) (kk : gJ p l e R s m args below meth c Q nL D g As N ad ln A' loc k n (pc + 1) st) : gJ p l e R s m args below meth c Q nL D g As N ad ln A loc k n pc (gi v :: gi x :: gr i :: st) := fun H locs ls hP hD hS hl => va_iast C.1 C.2.1 C.2.2.2.2.2.1 hP hD hS i 0 (f := A i) (n := nn) (cA := g.1) (by rw [gw_at hi, g_ce_I hI, hn]) rfl (g_in_vp hin) hdg (fun H1 locs1 hP1 hD1 hS1 => by
  have e : (gw g ad ln A N).set i (ad i, .inl (g.1, nn, .inl (upd (A i) x.toNatClampNeg v))) = gw g ad ln A' N := by
    rw [← hA, g_up, ← gw_set hi, g_ce_I hI, hn]
  rw [e] at hP1 hD1
  exact kk H1 locs1 ls hP1 hD1 hS1 hl)
theorem g_zald (C : gC p R s m args meth c cc own nL D g As d) {x : Int32} (hi : 188 < N) (hin : g_in x (ln 188) = true) (hdg : decode cc pc = .ok (.baload, 1)) (kk : gJ p l e R s m args below meth c Q nL D g As N ad ln A loc k n (pc + 1) (gi (A 188 x.toNatClampNeg) :: st)) : gJ p l e R s m args below meth c Q nL D g As N ad ln A loc k n pc (gi x :: gr 188 :: st) := fun H locs ls hP hD hS hl => va_zald C.1 C.2.1 C.2.2.2.2.2.1 hP 188 1 (f := A 188) (n := ln 188) (cA := g.2.1) (by rw [gw_at hi]; rfl) rfl (g_in_vp hin) hdg (kk H locs ls hP hD hS hl)
theorem g_zast (C : gC p R s m args meth c cc own nL D g As d) {x v : Int32} {A' : gM} (hi : 188 < N) (hin : g_in x (ln 188) = true) (hA : g_up A 188 x.toNatClampNeg (vp_nar .boolean v) = A') (hdg : decode cc pc = .ok (.bastore, 1)) (kk : gJ p l e R s m args below meth c Q nL D g As N ad ln A' loc k n (pc + 1) st) : gJ p l e R s m args below meth c Q nL D g As N ad ln A loc k n pc (gi v :: gi x :: gr 188 :: st) := fun H locs ls hP hD hS hl => va_zast C.1 C.2.1 C.2.2.2.2.2.1 hP hD hS 188 1 (f := A 188) (n := ln 188) (cA := g.2.1) (by rw [gw_at hi]; rfl) rfl (g_in_vp hin) hdg (fun H1 locs1 hP1 hD1 hS1 => by
  have e : (gw g ad ln A N).set 188 (ad 188, .inl (g.2.1, ln 188, .inl (upd (A 188) x.toNatClampNeg (vp_nar .boolean v)))) = gw g ad ln A' N := by
    rw [← hA, g_up, ← gw_set hi]; rfl
  rw [e] at hP1 hD1
  exact kk H1 locs1 ls hP1 hD1 hS1 hl)
theorem g_lald (C : gC p R s m args meth c cc own nL D g As d) {x : Int32} (hi : 192 < N) (hin : g_in x 1 = true) (hdg : decode cc pc = .ok (.laload, 1)) (kk : gJ p l e R s m args below meth c Q nL D g As N ad ln A loc k n (pc + 1) (gl (A 192 x.toNatClampNeg).toInt64 :: st)) : gJ p l e R s m args below meth c Q nL D g As N ad ln A loc k n pc (gi x :: gr 192 :: st) := fun H locs ls hP hD hS hl => va_lald C.1 C.2.1 C.2.2.2.2.2.1 hP 192 2 (f := fun j => (A 192 j).toInt64) (n := 1) (cA := g.2.2.1) (by rw [gw_at hi]; rfl) rfl (g_in_vp hin) hdg (kk H locs ls hP hD hS hl)
theorem g_last (C : gC p R s m args meth c cc own nL D g As d) {x v : Int32} {A' : gM} (hi : 192 < N) (hin : g_in x 1 = true) (hA : g_up A 192 x.toNatClampNeg v = A') (hdg : decode cc pc = .ok (.lastore, 1)) (kk : gJ p l e R s m args below meth c Q nL D g As N ad ln A' loc k n (pc + 1) st) : gJ p l e R s m args below meth c Q nL D g As N ad ln A loc k n pc (gl v.toInt64 :: gi x :: gr 192 :: st) := fun H locs ls hP hD hS hl => va_last C.1 C.2.1 C.2.2.2.2.2.1 hP hD hS 192 2 (f := fun j => (A 192 j).toInt64) (n := 1) (cA := g.2.2.1) (by rw [gw_at hi]; rfl) rfl (g_in_vp hin) hdg (fun H1 locs1 hP1 hD1 hS1 => by
  have e : (gw g ad ln A N).set 192 (ad 192, .inl (g.2.2.1, 1, .inr (.inl (vp_updL (fun j => (A 192 j).toInt64) x.toNatClampNeg v.toInt64)))) = gw g ad ln A' N := by
    rw [← hA, g_up, ← gw_set hi]
    have : (fun j => (upd (A 192) x.toNatClampNeg v j).toInt64) = vp_updL (fun j => (A 192 j).toInt64) x.toNatClampNeg v.toInt64 := by
      funext j
      show _ = if j = x.toNatClampNeg then v.toInt64 else (A 192 j).toInt64
      by_cases q : j = x.toNatClampNeg
      · rw [if_pos q, q, pk_us]
      · rw [if_neg q, pk_un q]
    show _ = (gw g ad ln A N).set 192 (ad 192, .inl (g.2.2.1, 1, .inr (.inl (fun j => (upd (A 192) x.toNatClampNeg v j).toInt64))))
    rw [this]
  rw [e] at hP1 hD1
  exact kk H1 locs1 ls hP1 hD1 hS1 hl)
theorem g_aald (C : gC p R s m args meth c cc own nL D g As d) (i b : Nat) {x : Int32} (hi : i < N) (hc : g_ce g ad (g_ln ln i) (A i) i = .inl (g.2.2.2, g_out ad b)) (hin : g_in x 40 = true) (hdg : decode cc pc = .ok (.aaload, 1)) (kk : gJ p l e R s m args below meth c Q nL D g As N ad ln A loc k n (pc + 1) (gr (b + x.toNatClampNeg) :: st)) : gJ p l e R s m args below meth c Q nL D g As N ad ln A loc k n pc (gi x :: gr i :: st) := fun H locs ls hP hD hS hl => by
  have hlt := g_in_lt hin
  have hin := g_in_vp hin
  have ha : H[ad i]? = some (arrV g.2.2.2 40 (fun j => va_rf (if j < 40 then some (ad (b + j)) else none))) := by
    have h1 := hP i _ (gw_at hi)
    rw [hc] at h1
    exact h1
  have hv : va_rf (if x.toNatClampNeg < 40 then some (ad (b + x.toNatClampNeg)) else none) = .ref (ad (b + x.toNatClampNeg)) := by rw [if_pos hlt]; rfl
  exact W.aald (v := .ref (ad (b + x.toNatClampNeg))) (ty := .array .int) C.1 C.2.1 ha ((C.2.2.2.2.2.1.2 3 _ rfl).1 40 (fun j => va_rf (if j < 40 then some (ad (b + j)) else none))) rfl (fun q => by cases q) (by show ¬ (x < 0 ∨ (arrV _ _ _).slots.size ≤ _); rw [arrV_size]; exact hin) (by show (arrV _ _ _).slots[_]? = _; rw [arrV_read _ _ hlt, hv]) rfl rfl hdg (kk H locs ls hP hD hS hl)
theorem g_alen (C : gC p R s m args meth c cc own nL D g As d) (i : Nat) {v : Int32} (hi : i < N) (hI : g_isI i = true) (hv : Int32.ofNat (g_ln ln i) = v) (hdg : decode cc pc = .ok (.arraylength, 1)) (kk : gJ p l e R s m args below meth c Q nL D g As N ad ln A loc k n (pc + 1) (gi v :: st)) : gJ p l e R s m args below meth c Q nL D g As N ad ln A loc k n pc (gr i :: st) := fun H locs ls hP hD hS hl => va_alen C.1 C.2.1 C.2.2.2.2.2.1 hP i 0 (x := (g_ln ln i, .inl (A i))) (cA := g.1) (by rw [gw_at hi, g_ce_I hI]) rfl hv hdg (kk H locs ls hP hD hS hl)
theorem g_get (C : gC p R s m args meth c cc own nL D g As d) (i q : Nat) {ci ix Nn : Nat} {fs : List Value} {Cn : String} {T : u_T} {v : gV} (hi : i < N) (he : g_ce g ad (g_ln ln i) (A i) i = .inr (ci, fs)) (hc : vwCl[ci]? = some (Cn, T, Nn)) (hu : ∀ w ∈ u_ws Cn T Nn, w ∈ gtb) (hq : q < Nn) (hw : Cond.fieldLink own ix (T q).1 (T q).2.1 (T q).2.2.1 ∈ gtb) (hv : fs[q]? = some (g_v ad v)) (hdg : decode cc pc = .ok (.getfield ix, 3)) (kk : gJ p l e R s m args below meth c Q nL D g As N ad ln A loc k n (pc + 3) (v :: st)) : gJ p l e R s m args below meth c Q nL D g As N ad ln A loc k n pc (gr i :: st) := fun H locs ls hP hD hS hl => va_get C.1 C.2.1 C.2.2.2.2.1 hu C.2.2.2.1 C.2.2.2.2.2.1 hP i (fs := fs) (by rw [gw_at hi, he]) hc q hq (C.2.2.2.2.1 _ hw) (fun _ h9 => h9) hv hdg (kk H locs ls hP hD hS hl)
theorem g_put (C : gC p R s m args meth c cc own nL D g As d) (i q : Nat) {ci ix Nn : Nat} {fs : List Value} {Cn : String} {T : u_T} {v : Int32} {A' : gM} (ty0 : Nat → FieldType) (hty : ∀ k, k < Nn → parseFieldDescriptor (T k).2.2.1 = some (ty0 k)) (hnm : ∀ a, a < Nn → ∀ b, b < Nn → a ≠ b → (T a).2.1 ≠ (T b).2.1) (hi : i < N) (he : g_ce g ad (g_ln ln i) (A i) i = .inr (ci, fs)) (hc : vwCl[ci]? = some (Cn, T, Nn)) (hu : ∀ w ∈ u_ws Cn T Nn, w ∈ gtb) (hq : q < Nn) (hw : Cond.fieldLink own ix (T q).1 (T q).2.1 (T q).2.2.1 ∈ gtb) (hfin : (T q).2.2.2 = false) (hd : parseFieldDescriptor (T q).2.2.1 = some .int) (hlen : q < fs.length) (he2 : g_ce g ad (g_ln ln i) (upd (A i) q v) i = .inr (ci, fs.set q (.int v))) (hA : g_up A i q v = A') (hdg : decode cc pc = .ok (.putfield ix, 3)) (kk : gJ p l e R s m args below meth c Q nL D g As N ad ln A' loc k n (pc + 3) st) : gJ p l e R s m args below meth c Q nL D g As N ad ln A loc k n pc (gi v :: gr i :: st) := fun H locs ls hP hD hS hl => va_put C.1 C.2.1 C.2.2.2.2.1 hu ty0 hty hnm C.2.2.2.1 C.2.2.2.2.2.1 hP hD hS i (fs := fs) (v := .int v) (by rw [gw_at hi, he]) hc q hq (C.2.2.2.2.1 _ hw) (fun _ h9 => h9) hfin hd rfl rfl hlen hdg (fun H1 locs1 hP1 hD1 hS1 => by
  rw [← he2, gw_set hi, ← g_up, hA] at hP1 hD1
  exact kk H1 locs1 ls hP1 hD1 hS1 hl)
end GJ
end
section
/-! CONTRACTS of methods that make nothing: the memory A becomes A', the answer is r -/
def g_rm (d : Nat) : Room := { frames := d, cells := 0, slots := 0, locals := 40 * d }
def g_pre (D : va_G) (g : gT) (N : Nat) (ad ln : Nat → Nat) (A : gM) (sz : Nat) (av : List gV) : Array Value → State → Prop :=
  va_Pc (av.map (g_v ad)) (fun U => U.heap.size = sz ∧ va_P D vwCl (gw g ad ln A N) U.heap ∧ va_K D vwCl (g_tys g) U ∧ va_D (fun _ => True) (gw g ad ln A N))
def g_B (D : va_G) (g : gT) (N : Nat) (ad ln : Nat → Nat) (A A' : gM) (sz : Nat) (t : State) : Prop :=
  va_P D vwCl (gw g ad ln A' N) t.heap ∧ va_K D vwCl (g_tys g) t ∧ va_D (va_A (gw g ad ln A N) sz) (gw g ad ln A' N)
def g_Qi (D : va_G) (g : gT) (N : Nat) (ad ln : Nat → Nat) (A : gM) (sz : Nat) (A' : gM) (r : Int32) : Array Value → State → Outcome → State → Prop :=
  va_Qi (S := Unit) (fun x _ => x = r) (fun _ t => g_B D g N ad ln A A' sz t) (va_A (gw g ad ln A N) sz)
def g_Ql (D : va_G) (g : gT) (N : Nat) (ad ln : Nat → Nat) (A : gM) (sz : Nat) (A' : gM) (r : Int64) : Array Value → State → Outcome → State → Prop :=
  va_Ql (S := Unit) (fun x _ => x = r) (fun _ t => g_B D g N ad ln A A' sz t) (va_A (gw g ad ln A N) sz)
def g_Qv (D : va_G) (g : gT) (N : Nat) (ad ln : Nat → Nat) (A : gM) (sz : Nat) (A' : gM) : Array Value → State → Outcome → State → Prop :=
  va_Qv (S := Unit) (fun _ => True) (fun _ t => g_B D g N ad ln A A' sz t) (va_A (gw g ad ln A N) sz)
def g_Qr (D : va_G) (g : gT) (N : Nat) (ad ln : Nat → Nat) (A : gM) (sz : Nat) (A' : gM) (r : Nat) : Array Value → State → Outcome → State → Prop :=
  va_Qr (S := Unit) (fun _ => True) (fun _ a t => a = ad r ∧ g_B D g N ad ln A A' sz t) (va_A (gw g ad ln A N) sz)
/-- the contract of method y at depth d: from memory A with arguments av it answers r and leaves A' -/
def gKi (l : Launch) (y : MethodName) (b : ByteArray) (nl : Nat) (rt : Option FieldType) (d : Nat) (D : va_G) (g : gT) (N : Nat) (ad ln : Nat → Nat) (A : gM) (av : List gV) (A' : gM) (r : Int32) : Prop :=
  ∀ sz, Met l y (g_ws y b nl rt) (g_rm d) (g_pre D g N ad ln A sz av) (g_Qi D g N ad ln A sz A' r) 0 0 (va_A (gw g ad ln A N) sz)
def gKl (l : Launch) (y : MethodName) (b : ByteArray) (nl : Nat) (rt : Option FieldType) (d : Nat) (D : va_G) (g : gT) (N : Nat) (ad ln : Nat → Nat) (A : gM) (av : List gV) (A' : gM) (r : Int64) : Prop :=
  ∀ sz, Met l y (g_ws y b nl rt) (g_rm d) (g_pre D g N ad ln A sz av) (g_Ql D g N ad ln A sz A' r) 0 0 (va_A (gw g ad ln A N) sz)
def gKv (l : Launch) (y : MethodName) (b : ByteArray) (nl : Nat) (rt : Option FieldType) (d : Nat) (D : va_G) (g : gT) (N : Nat) (ad ln : Nat → Nat) (A : gM) (av : List gV) (A' : gM) : Prop :=
  ∀ sz, Met l y (g_ws y b nl rt) (g_rm d) (g_pre D g N ad ln A sz av) (g_Qv D g N ad ln A sz A') 0 0 (va_A (gw g ad ln A N) sz)
def gKr (l : Launch) (y : MethodName) (b : ByteArray) (nl : Nat) (rt : Option FieldType) (d : Nat) (D : va_G) (g : gT) (N : Nat) (ad ln : Nat → Nat) (A : gM) (av : List gV) (A' : gM) (r : Nat) : Prop :=
  ∀ sz, Met l y (g_ws y b nl rt) (g_rm d) (g_pre D g N ad ln A sz av) (g_Qr D g N ad ln A sz A' r) 0 0 (va_A (gw g ad ln A N) sz)
theorem g_blind {D : va_G} {g : gT} {N : Nat} {ad ln : Nat → Nat} {A : gM} {sz : Nat} {av : List gV} : FrameBlind (g_pre D g N ad ln A sz av) := fun a U q mk h => by
  obtain ⟨q0, q1, qP, qK, qD⟩ := h
  exact ⟨q0, q1, qP, va_K.moved (u := U) (U := U.calling q mk a) (Vm.Alike.refl U.vm) qK, qD⟩
section GK
variable {p : Program} {l : Launch} {e : Env} {R : Room} {s : State} {m : MethodId} {args : Array Value} {below : List Frame} {meth : Method} {c : Code} {Q : State → Prop} {nL : Nat} {D : va_G} {g : gT} {As : Nat → Prop} {N : Nat} {ad ln : Nat → Nat} {A A' : gM} {loc loc' : List (Nat × gV)} {k n pc : Nat} {st : List gV} {cc : ByteArray} {own : String} {d : Nat}
theorem g_frees {H : Heap} {locs : List Loc} (hD : va_D As (gw g ad ln A N)) (hS : va_S As s.heap H locs) (hA : ∀ q : Nat, s.heap.size ≤ q → As q) : ∀ q, va_A (gw g ad ln A N) H.size q → As q := by
  intro q h
  rcases h with ⟨k, e, h⟩ | h
  · exact hD.2 k (q, e) h
  · exact hA q (Nat.le_trans hS.1 h)
theorem g_room {d d' mL : Nat} {R : Room} (h1 : d ≤ R.frames ∧ 40 * d ≤ R.locals) (h2 : d' + 1 ≤ d) (h3 : mL ≤ 20) : (g_rm d').frames + 1 ≤ R.frames ∧ 8 + (mL + 11) + (g_rm d').locals ≤ R.locals := by
  show d' + 1 ≤ R.frames ∧ 8 + (mL + 11) + 40 * d' ≤ R.locals
  omega
/-- the words of a call by name: link, receiver's method, code -/
def g_site (own C : String) (ix : Nat) (z : MethodName) (b : ByteArray) (mL : Nat) (rt : Option FieldType) (np : Nat) : Prop :=
  Cond.methodLink own ix z ∈ gtb ∧ Cond.instanceMethod z ∈ gtb ∧ Cond.selects C z z ∈ gtb ∧ Cond.initialized C ∈ gtb ∧ Cond.code z b mL rt ∈ gtb ∧ (z.cls = C ∧ z.cls ≠ "java/lang/invoke/MethodHandle" ∧ z.cls ≠ "java/lang/invoke/VarHandle" ∧ (parseMethodDescriptor z.desc).map (fun d => d.parameters.length) = some np) ∧ mL ≤ 20
/-- of a static call -/
def g_siteS (own : String) (ix : Nat) (z : MethodName) (b : ByteArray) (mL : Nat) (rt : Option FieldType) (np : Nat) : Prop :=
  Cond.methodLink own ix z ∈ gtb ∧ Cond.static z ∈ gtb ∧ Cond.initialized own ∈ gtb ∧ Cond.code z b mL rt ∈ gtb ∧ (z.cls = own ∧ z.cls ≠ "java/lang/invoke/MethodHandle" ∧ z.cls ≠ "java/lang/invoke/VarHandle" ∧ (parseMethodDescriptor z.desc).map (fun d => d.parameters.length) = some np) ∧ mL ≤ 20
theorem g_goodV {own Cn : String} {ix : Nat} {z : MethodName} {b : ByteArray} {mL np : Nat} {rt : Option FieldType} (h : g_site own Cn ix z b mL rt np) : GoodIn gtb (wsV own ix Cn z (g_ws z b mL rt)) := by
  intro w hw
  rcases List.mem_append.mp hw with hw | hw
  · have hm : w ∈ gtb := by
      rcases List.mem_cons.mp hw with rfl | hw
      · exact h.1
      · rcases List.mem_cons.mp hw with rfl | hw
        · exact h.2.1
        · rcases List.mem_cons.mp hw with rfl | hw
          · exact h.2.2.1
          · rcases List.mem_cons.mp hw with rfl | hw
            · exact h.2.2.2.1
            · cases hw
    exact ⟨hm, good_of_word (g_word hm)⟩
  · exact g_inL h.2.2.2.2.1 w hw
theorem g_goodS {own : String} {ix : Nat} {z : MethodName} {b : ByteArray} {mL np : Nat} {rt : Option FieldType} (h : g_siteS own ix z b mL rt np) : GoodIn gtb (wsS own ix z (g_ws z b mL rt)) := by
  intro w hw
  rcases List.mem_append.mp hw with hw | hw
  · have hm : w ∈ gtb := by
      rcases List.mem_cons.mp hw with rfl | hw
      · exact h.1
      · rcases List.mem_cons.mp hw with rfl | hw
        · exact h.2.1
        · rcases List.mem_cons.mp hw with rfl | hw
          · exact h.2.2.1
          · cases hw
    exact ⟨hm, good_of_word (g_word hm)⟩
  · exact g_inL h.2.2.2.1 w hw
theorem g_lv {ad : Nat → Nat} {st : List gV} (h : (st.map g_cat).sum ≤ 8) : 2 * 0 + ((st.map (g_v ad)).map fun v => v.category).sum ≤ 8 := by
  have : (st.map (g_v ad)).map (fun v => v.category) = st.map g_cat := by
    rw [List.map_map]
    exact List.map_congr_left fun v _ => g_cat_v
  rw [this]; omega
theorem g_calliV (C : gC p R s m args meth c cc own nL D g As d) (i : Nat) (as : List gV) {st0 : List gV} {Cn : String} {ci ix np mL d' : Nat} {z : MethodName} {b : ByteArray} {rt : Option FieldType} {fs : List Value} {T : u_T} {Nn : Nat} {r : Int32} (hM : gKi l z b mL rt d' D g N ad ln A (gr i :: as) A' r) (hs : g_site own Cn ix z b mL rt np) (hd : d' + 1 ≤ d) (hi : i < N) (he : g_ce g ad (g_ln ln i) (A i) i = .inr (ci, fs)) (hc : vwCl[ci]? = some (Cn, T, Nn)) (hn : as.length = np) (hst : st0 = as.reverse ++ gr i :: st) (hcat : (st.map g_cat).sum ≤ 8) (hkn : k ≤ R.cells ∧ n ≤ R.slots) (hdg : decode cc pc = .ok (.invokevirtual ix, 3)) (kk : gJ p l e R s m args below meth c Q nL D g As N ad ln A' loc k n (pc + 3) (gi r :: st)) : gJ p l e R s m args below meth c Q nL D g As N ad ln A loc k n pc st0 := by
  intro H locs ls hP hD hS hl
  have hF := g_frees hD hS C.2.2.2.2.2.2.1
  refine va_calli (va_runV (C := Cn) (b := ad i) (As := as.map (g_v ad)) (rest := st.map (g_v ad)) ⟨C.1, C.2.1, C.2.2.1, C.2.2.2.1, C.2.2.2.2.1⟩ (hM H.size) (cwV np C.2.2.2.2.1 (g_goodV hs) rfl rfl rfl hs.2.2.2.2.2.1 (g_room C.2.2.2.2.2.2.2.2 hd hs.2.2.2.2.2.2)) ⟨g_blind, va_recv C.2.2.2.2.2.1 hP (q0 := i) hc (by rw [gw_at hi, he]), fun U hU hW => ⟨rfl, by rw [hU], by rw [hU]; exact hP, va_K.moved hW.alike C.2.2.2.2.2.1, hD.weaken (fun _ _ _ _ => trivial)⟩⟩ rfl (by rw [List.length_map]; exact hn) hl.1 (by show st0.map (g_v ad) = _; rw [hst]; simp [g_v]) (g_lv hcat) hdg ⟨by omega, by omega⟩) hS (fun q _ h => hF q h) hF (fun r u t H1 locs1 ht hvm hw hB hz1 hk1 hS => ?_)
  subst hw
  obtain ⟨hP1, hK1, hD1⟩ := hB
  rw [ht] at hP1
  exact kk H1 locs1 ls hP1 (hD1.weaken (fun _ _ _ h => hF _ h)) hS hl
theorem g_calliS (C : gC p R s m args meth c cc own nL D g As d) (as : List gV) {st0 : List gV} {ix np mL d' : Nat} {z : MethodName} {b : ByteArray} {rt : Option FieldType} {r : Int32} (hM : gKi l z b mL rt d' D g N ad ln A as A' r) (hs : g_siteS own ix z b mL rt np) (hd : d' + 1 ≤ d) (hn : as.length = np) (hst : st0 = as.reverse ++ st) (hcat : (st.map g_cat).sum ≤ 8) (hkn : k ≤ R.cells ∧ n ≤ R.slots) (hdg : decode cc pc = .ok (.invokestatic ix, 3)) (kk : gJ p l e R s m args below meth c Q nL D g As N ad ln A' loc k n (pc + 3) (gi r :: st)) : gJ p l e R s m args below meth c Q nL D g As N ad ln A loc k n pc st0 := by
  intro H locs ls hP hD hS hl
  have hF := g_frees hD hS C.2.2.2.2.2.2.1
  refine va_calli (va_runS (As := as.map (g_v ad)) (rest := st.map (g_v ad)) ⟨C.1, C.2.1, C.2.2.1, C.2.2.2.1, C.2.2.2.2.1⟩ (hM H.size) (cwS np C.2.2.2.2.1 (g_goodS hs) rfl rfl rfl hs.2.2.2.2.1 (g_room C.2.2.2.2.2.2.2.2 hd hs.2.2.2.2.2)) ⟨g_blind, fun U hU hW => ⟨rfl, by rw [hU], by rw [hU]; exact hP, va_K.moved hW.alike C.2.2.2.2.2.1, hD.weaken (fun _ _ _ _ => trivial)⟩⟩ rfl (by rw [List.length_map]; exact hn) hl.1 (by show st0.map (g_v ad) = _; rw [hst]; simp [g_v]) (g_lv hcat) hdg ⟨by omega, by omega⟩) hS (fun q _ h => hF q h) hF (fun r u t H1 locs1 ht hvm hw hB hz1 hk1 hS => ?_)
  subst hw
  obtain ⟨hP1, hK1, hD1⟩ := hB
  rw [ht] at hP1
  exact kk H1 locs1 ls hP1 (hD1.weaken (fun _ _ _ h => hF _ h)) hS hl
theorem g_calllV (C : gC p R s m args meth c cc own nL D g As d) (i : Nat) (as : List gV) {st0 : List gV} {Cn : String} {ci ix np mL d' : Nat} {z : MethodName} {b : ByteArray} {rt : Option FieldType} {fs : List Value} {T : u_T} {Nn : Nat} {r : Int64} (hM : gKl l z b mL rt d' D g N ad ln A (gr i :: as) A' r) (hs : g_site own Cn ix z b mL rt np) (hd : d' + 1 ≤ d) (hi : i < N) (he : g_ce g ad (g_ln ln i) (A i) i = .inr (ci, fs)) (hc : vwCl[ci]? = some (Cn, T, Nn)) (hn : as.length = np) (hst : st0 = as.reverse ++ gr i :: st) (hcat : (st.map g_cat).sum ≤ 8) (hkn : k ≤ R.cells ∧ n ≤ R.slots) (hdg : decode cc pc = .ok (.invokevirtual ix, 3)) (kk : gJ p l e R s m args below meth c Q nL D g As N ad ln A' loc k n (pc + 3) (gl r :: st)) : gJ p l e R s m args below meth c Q nL D g As N ad ln A loc k n pc st0 := by
  intro H locs ls hP hD hS hl
  have hF := g_frees hD hS C.2.2.2.2.2.2.1
  refine va_calll (va_runV (C := Cn) (b := ad i) (As := as.map (g_v ad)) (rest := st.map (g_v ad)) ⟨C.1, C.2.1, C.2.2.1, C.2.2.2.1, C.2.2.2.2.1⟩ (hM H.size) (cwV np C.2.2.2.2.1 (g_goodV hs) rfl rfl rfl hs.2.2.2.2.2.1 (g_room C.2.2.2.2.2.2.2.2 hd hs.2.2.2.2.2.2)) ⟨g_blind, va_recv C.2.2.2.2.2.1 hP (q0 := i) hc (by rw [gw_at hi, he]), fun U hU hW => ⟨rfl, by rw [hU], by rw [hU]; exact hP, va_K.moved hW.alike C.2.2.2.2.2.1, hD.weaken (fun _ _ _ _ => trivial)⟩⟩ rfl (by rw [List.length_map]; exact hn) hl.1 (by show st0.map (g_v ad) = _; rw [hst]; simp [g_v]) (g_lv hcat) hdg ⟨by omega, by omega⟩) hS (fun q _ h => hF q h) hF (fun r u t H1 locs1 ht hvm hw hB hz1 hk1 hS => ?_)
  subst hw
  obtain ⟨hP1, hK1, hD1⟩ := hB
  rw [ht] at hP1
  exact kk H1 locs1 ls hP1 (hD1.weaken (fun _ _ _ h => hF _ h)) hS hl
theorem g_calllS (C : gC p R s m args meth c cc own nL D g As d) (as : List gV) {st0 : List gV} {ix np mL d' : Nat} {z : MethodName} {b : ByteArray} {rt : Option FieldType} {r : Int64} (hM : gKl l z b mL rt d' D g N ad ln A as A' r) (hs : g_siteS own ix z b mL rt np) (hd : d' + 1 ≤ d) (hn : as.length = np) (hst : st0 = as.reverse ++ st) (hcat : (st.map g_cat).sum ≤ 8) (hkn : k ≤ R.cells ∧ n ≤ R.slots) (hdg : decode cc pc = .ok (.invokestatic ix, 3)) (kk : gJ p l e R s m args below meth c Q nL D g As N ad ln A' loc k n (pc + 3) (gl r :: st)) : gJ p l e R s m args below meth c Q nL D g As N ad ln A loc k n pc st0 := by
  intro H locs ls hP hD hS hl
  have hF := g_frees hD hS C.2.2.2.2.2.2.1
  refine va_calll (va_runS (As := as.map (g_v ad)) (rest := st.map (g_v ad)) ⟨C.1, C.2.1, C.2.2.1, C.2.2.2.1, C.2.2.2.2.1⟩ (hM H.size) (cwS np C.2.2.2.2.1 (g_goodS hs) rfl rfl rfl hs.2.2.2.2.1 (g_room C.2.2.2.2.2.2.2.2 hd hs.2.2.2.2.2)) ⟨g_blind, fun U hU hW => ⟨rfl, by rw [hU], by rw [hU]; exact hP, va_K.moved hW.alike C.2.2.2.2.2.1, hD.weaken (fun _ _ _ _ => trivial)⟩⟩ rfl (by rw [List.length_map]; exact hn) hl.1 (by show st0.map (g_v ad) = _; rw [hst]; simp [g_v]) (g_lv hcat) hdg ⟨by omega, by omega⟩) hS (fun q _ h => hF q h) hF (fun r u t H1 locs1 ht hvm hw hB hz1 hk1 hS => ?_)
  subst hw
  obtain ⟨hP1, hK1, hD1⟩ := hB
  rw [ht] at hP1
  exact kk H1 locs1 ls hP1 (hD1.weaken (fun _ _ _ h => hF _ h)) hS hl
theorem g_callvV (C : gC p R s m args meth c cc own nL D g As d) (i : Nat) (as : List gV) {st0 : List gV} {Cn : String} {ci ix np mL d' : Nat} {z : MethodName} {b : ByteArray} {rt : Option FieldType} {fs : List Value} {T : u_T} {Nn : Nat}  (hM : gKv l z b mL rt d' D g N ad ln A (gr i :: as) A') (hs : g_site own Cn ix z b mL rt np) (hd : d' + 1 ≤ d) (hi : i < N) (he : g_ce g ad (g_ln ln i) (A i) i = .inr (ci, fs)) (hc : vwCl[ci]? = some (Cn, T, Nn)) (hn : as.length = np) (hst : st0 = as.reverse ++ gr i :: st) (hcat : (st.map g_cat).sum ≤ 8) (hkn : k ≤ R.cells ∧ n ≤ R.slots) (hdg : decode cc pc = .ok (.invokevirtual ix, 3)) (kk : gJ p l e R s m args below meth c Q nL D g As N ad ln A' loc k n (pc + 3) (st)) : gJ p l e R s m args below meth c Q nL D g As N ad ln A loc k n pc st0 := by
  intro H locs ls hP hD hS hl
  have hF := g_frees hD hS C.2.2.2.2.2.2.1
  refine va_callv (va_runV (C := Cn) (b := ad i) (As := as.map (g_v ad)) (rest := st.map (g_v ad)) ⟨C.1, C.2.1, C.2.2.1, C.2.2.2.1, C.2.2.2.2.1⟩ (hM H.size) (cwV np C.2.2.2.2.1 (g_goodV hs) rfl rfl rfl hs.2.2.2.2.2.1 (g_room C.2.2.2.2.2.2.2.2 hd hs.2.2.2.2.2.2)) ⟨g_blind, va_recv C.2.2.2.2.2.1 hP (q0 := i) hc (by rw [gw_at hi, he]), fun U hU hW => ⟨rfl, by rw [hU], by rw [hU]; exact hP, va_K.moved hW.alike C.2.2.2.2.2.1, hD.weaken (fun _ _ _ _ => trivial)⟩⟩ rfl (by rw [List.length_map]; exact hn) hl.1 (by show st0.map (g_v ad) = _; rw [hst]; simp [g_v]) (g_lv hcat) hdg ⟨by omega, by omega⟩) hS (fun q _ h => hF q h) hF (fun u t H1 locs1 ht hvm hw hB hz1 hk1 hS => ?_)
  obtain ⟨hP1, hK1, hD1⟩ := hB
  rw [ht] at hP1
  exact kk H1 locs1 ls hP1 (hD1.weaken (fun _ _ _ h => hF _ h)) hS hl
theorem g_callvS (C : gC p R s m args meth c cc own nL D g As d) (as : List gV) {st0 : List gV} {ix np mL d' : Nat} {z : MethodName} {b : ByteArray} {rt : Option FieldType}  (hM : gKv l z b mL rt d' D g N ad ln A as A') (hs : g_siteS own ix z b mL rt np) (hd : d' + 1 ≤ d) (hn : as.length = np) (hst : st0 = as.reverse ++ st) (hcat : (st.map g_cat).sum ≤ 8) (hkn : k ≤ R.cells ∧ n ≤ R.slots) (hdg : decode cc pc = .ok (.invokestatic ix, 3)) (kk : gJ p l e R s m args below meth c Q nL D g As N ad ln A' loc k n (pc + 3) (st)) : gJ p l e R s m args below meth c Q nL D g As N ad ln A loc k n pc st0 := by
  intro H locs ls hP hD hS hl
  have hF := g_frees hD hS C.2.2.2.2.2.2.1
  refine va_callv (va_runS (As := as.map (g_v ad)) (rest := st.map (g_v ad)) ⟨C.1, C.2.1, C.2.2.1, C.2.2.2.1, C.2.2.2.2.1⟩ (hM H.size) (cwS np C.2.2.2.2.1 (g_goodS hs) rfl rfl rfl hs.2.2.2.2.1 (g_room C.2.2.2.2.2.2.2.2 hd hs.2.2.2.2.2)) ⟨g_blind, fun U hU hW => ⟨rfl, by rw [hU], by rw [hU]; exact hP, va_K.moved hW.alike C.2.2.2.2.2.1, hD.weaken (fun _ _ _ _ => trivial)⟩⟩ rfl (by rw [List.length_map]; exact hn) hl.1 (by show st0.map (g_v ad) = _; rw [hst]; simp [g_v]) (g_lv hcat) hdg ⟨by omega, by omega⟩) hS (fun q _ h => hF q h) hF (fun u t H1 locs1 ht hvm hw hB hz1 hk1 hS => ?_)
  obtain ⟨hP1, hK1, hD1⟩ := hB
  rw [ht] at hP1
  exact kk H1 locs1 ls hP1 (hD1.weaken (fun _ _ _ h => hF _ h)) hS hl
theorem g_callrV (C : gC p R s m args meth c cc own nL D g As d) (i : Nat) (as : List gV) {st0 : List gV} {Cn : String} {ci ix np mL d' : Nat} {z : MethodName} {b : ByteArray} {rt : Option FieldType} {fs : List Value} {T : u_T} {Nn : Nat} {r : Nat} (hM : gKr l z b mL rt d' D g N ad ln A (gr i :: as) A' r) (hs : g_site own Cn ix z b mL rt np) (hd : d' + 1 ≤ d) (hi : i < N) (he : g_ce g ad (g_ln ln i) (A i) i = .inr (ci, fs)) (hc : vwCl[ci]? = some (Cn, T, Nn)) (hn : as.length = np) (hst : st0 = as.reverse ++ gr i :: st) (hcat : (st.map g_cat).sum ≤ 8) (hkn : k ≤ R.cells ∧ n ≤ R.slots) (hdg : decode cc pc = .ok (.invokevirtual ix, 3)) (kk : gJ p l e R s m args below meth c Q nL D g As N ad ln A' loc k n (pc + 3) (gr r :: st)) : gJ p l e R s m args below meth c Q nL D g As N ad ln A loc k n pc st0 := by
  intro H locs ls hP hD hS hl
  have hF := g_frees hD hS C.2.2.2.2.2.2.1
  refine va_callr (va_runV (C := Cn) (b := ad i) (As := as.map (g_v ad)) (rest := st.map (g_v ad)) ⟨C.1, C.2.1, C.2.2.1, C.2.2.2.1, C.2.2.2.2.1⟩ (hM H.size) (cwV np C.2.2.2.2.1 (g_goodV hs) rfl rfl rfl hs.2.2.2.2.2.1 (g_room C.2.2.2.2.2.2.2.2 hd hs.2.2.2.2.2.2)) ⟨g_blind, va_recv C.2.2.2.2.2.1 hP (q0 := i) hc (by rw [gw_at hi, he]), fun U hU hW => ⟨rfl, by rw [hU], by rw [hU]; exact hP, va_K.moved hW.alike C.2.2.2.2.2.1, hD.weaken (fun _ _ _ _ => trivial)⟩⟩ rfl (by rw [List.length_map]; exact hn) hl.1 (by show st0.map (g_v ad) = _; rw [hst]; simp [g_v]) (g_lv hcat) hdg ⟨by omega, by omega⟩) hS (fun q _ h => hF q h) hF (fun u ra t H1 locs1 ht hvm hw hB hz1 hk1 hS => ?_)
  obtain ⟨rfl, hP1, hK1, hD1⟩ := hB
  rw [ht] at hP1
  exact kk H1 locs1 ls hP1 (hD1.weaken (fun _ _ _ h => hF _ h)) hS hl
theorem g_callrS (C : gC p R s m args meth c cc own nL D g As d) (as : List gV) {st0 : List gV} {ix np mL d' : Nat} {z : MethodName} {b : ByteArray} {rt : Option FieldType} {r : Nat} (hM : gKr l z b mL rt d' D g N ad ln A as A' r) (hs : g_siteS own ix z b mL rt np) (hd : d' + 1 ≤ d) (hn : as.length = np) (hst : st0 = as.reverse ++ st) (hcat : (st.map g_cat).sum ≤ 8) (hkn : k ≤ R.cells ∧ n ≤ R.slots) (hdg : decode cc pc = .ok (.invokestatic ix, 3)) (kk : gJ p l e R s m args below meth c Q nL D g As N ad ln A' loc k n (pc + 3) (gr r :: st)) : gJ p l e R s m args below meth c Q nL D g As N ad ln A loc k n pc st0 := by
  intro H locs ls hP hD hS hl
  have hF := g_frees hD hS C.2.2.2.2.2.2.1
  refine va_callr (va_runS (As := as.map (g_v ad)) (rest := st.map (g_v ad)) ⟨C.1, C.2.1, C.2.2.1, C.2.2.2.1, C.2.2.2.2.1⟩ (hM H.size) (cwS np C.2.2.2.2.1 (g_goodS hs) rfl rfl rfl hs.2.2.2.2.1 (g_room C.2.2.2.2.2.2.2.2 hd hs.2.2.2.2.2)) ⟨g_blind, fun U hU hW => ⟨rfl, by rw [hU], by rw [hU]; exact hP, va_K.moved hW.alike C.2.2.2.2.2.1, hD.weaken (fun _ _ _ _ => trivial)⟩⟩ rfl (by rw [List.length_map]; exact hn) hl.1 (by show st0.map (g_v ad) = _; rw [hst]; simp [g_v]) (g_lv hcat) hdg ⟨by omega, by omega⟩) hS (fun q _ h => hF q h) hF (fun u ra t H1 locs1 ht hvm hw hB hz1 hk1 hS => ?_)
  obtain ⟨rfl, hP1, hK1, hD1⟩ := hB
  rw [ht] at hP1
  exact kk H1 locs1 ls hP1 (hD1.weaken (fun _ _ _ h => hF _ h)) hS hl
end GK
end
section
/-! A METHOD'S ENTRY AND ITS ENDS -/
def g_args : Nat → List gV → List (Nat × gV)
  | _, [] => []
  | i, v :: vs => (i, v) :: g_args (if g_cat v = 2 then i + 2 else i + 1) vs
theorem g_args_map {ad : Nat → Nat} : ∀ (av : List gV) (i : Nat), lv_args i (av.map (g_v ad)) = (g_args i av).map (g_q ad)
  | [], _ => rfl
  | v :: vs, i => by
    show (i, g_v ad v) :: lv_args (if (g_v ad v).category = 2 then i + 2 else i + 1) (vs.map (g_v ad)) = _
    rw [g_cat_v, g_args_map vs]
    rfl
theorem g_sl_len {ad : Nat → Nat} : ∀ (av : List gV), (lg_sl (av.map (g_v ad))).length = (av.map g_cat).foldr (fun c n => (if c = 2 then 2 else 1) + n) 0
  | [] => rfl
  | v :: vs => by
    show (((if (g_v ad v).category = 2 then [Slot.val (g_v ad v), .second] else [.val (g_v ad v)]) : List Slot) ++ lg_sl (vs.map (g_v ad))).length = (if g_cat v = 2 then 2 else 1) + (vs.map g_cat).foldr (fun c n => (if c = 2 then 2 else 1) + n) 0
    rw [List.length_append, g_sl_len vs, g_cat_v]
    split <;> rfl
section GE
variable {p : Program} {l : Launch} {e : Env} {R : Room} {s : State} {m : MethodId} {args : Array Value} {below : List Frame} {meth : Method} {c : Code} {Q : State → Prop} {nL : Nat} {D : va_G} {g : gT} {As : Nat → Prop} {N : Nat} {ad ln : Nat → Nat} {A A' : gM} {loc loc' : List (Nat × gV)} {k n pc : Nat} {st : List gV} {cc : ByteArray} {own : String} {d : Nat}
/-- where a method that answers must come -/
def gEi (below : List Frame) (D : va_G) (g : gT) (N : Nat) (ad ln : Nat → Nat) (A A' : gM) (r : Int32) (args : Array Value) (s : State) : State → Prop := MQ below (g_Qi D g N ad ln A s.heap.size A' r) args s 0 0 (va_A (gw g ad ln A N) s.heap.size)
theorem g_meti {y : MethodName} {b : ByteArray} {nl : Nat} {rt : Option FieldType} {av : List gV} {r : Int32} (hpl : plainName y.cls = true) (hlen : (av.map g_cat).foldr (fun c n => (if c = 2 then 2 else 1) + n) 0 ≤ nl)
    (body : ∀ (p : Program) (e : Env) (s : State) (m : MethodId) (args : Array Value) (below : List Frame) (meth : Method) (c : Code), gC p (g_rm d) s m args meth c b y.cls nl D g (va_A (gw g ad ln A N) s.heap.size) d → meth.sig.returnType = rt → gJ p l e (g_rm d) s m args below meth c (gEi below D g N ad ln A A' r args s) nl D g (va_A (gw g ad ln A N) s.heap.size) N ad ln A (g_args 0 av) 0 0 0 []) : gKi l y b nl rt d D g N ad ln A av A' r := by
  intro sz
  refine Met.ofW (cc := b) (maxL := nl) (ret := rt) hpl rfl ?_
  intro p e s m args below meth c s₁ B hml hv
  obtain ⟨rfl, hsz, hP, hK, hD0⟩ := hv
  subst hsz
  have hts := atoms_spec (ws := g_ws y b nl rt) B.pre
  have hown : s.vm.findClass y.cls = some m.cls := findClass_of_methodNamed B.named
  have hl := lv_entry (av.map (g_v ad)) (n := nl) (by rw [g_sl_len]; exact hlen)
  rw [lg_entry_eq]
  rw [g_args_map] at hl
  exact body p e s m _ below meth c ⟨B.exec, B.bytes, hml, hown, fun w hw => hts w (List.mem_cons_of_mem _ hw), hK, fun q h => Or.inr h, B.notSynchronized, Nat.le_refl _, Nat.le_refl _⟩ B.returns s.heap [] _ hP hD0.self va_S.rf hl
/-- where a method that answers must come -/
def gEl (below : List Frame) (D : va_G) (g : gT) (N : Nat) (ad ln : Nat → Nat) (A A' : gM) (r : Int64) (args : Array Value) (s : State) : State → Prop := MQ below (g_Ql D g N ad ln A s.heap.size A' r) args s 0 0 (va_A (gw g ad ln A N) s.heap.size)
theorem g_metl {y : MethodName} {b : ByteArray} {nl : Nat} {rt : Option FieldType} {av : List gV} {r : Int64} (hpl : plainName y.cls = true) (hlen : (av.map g_cat).foldr (fun c n => (if c = 2 then 2 else 1) + n) 0 ≤ nl)
    (body : ∀ (p : Program) (e : Env) (s : State) (m : MethodId) (args : Array Value) (below : List Frame) (meth : Method) (c : Code), gC p (g_rm d) s m args meth c b y.cls nl D g (va_A (gw g ad ln A N) s.heap.size) d → meth.sig.returnType = rt → gJ p l e (g_rm d) s m args below meth c (gEl below D g N ad ln A A' r args s) nl D g (va_A (gw g ad ln A N) s.heap.size) N ad ln A (g_args 0 av) 0 0 0 []) : gKl l y b nl rt d D g N ad ln A av A' r := by
  intro sz
  refine Met.ofW (cc := b) (maxL := nl) (ret := rt) hpl rfl ?_
  intro p e s m args below meth c s₁ B hml hv
  obtain ⟨rfl, hsz, hP, hK, hD0⟩ := hv
  subst hsz
  have hts := atoms_spec (ws := g_ws y b nl rt) B.pre
  have hown : s.vm.findClass y.cls = some m.cls := findClass_of_methodNamed B.named
  have hl := lv_entry (av.map (g_v ad)) (n := nl) (by rw [g_sl_len]; exact hlen)
  rw [lg_entry_eq]
  rw [g_args_map] at hl
  exact body p e s m _ below meth c ⟨B.exec, B.bytes, hml, hown, fun w hw => hts w (List.mem_cons_of_mem _ hw), hK, fun q h => Or.inr h, B.notSynchronized, Nat.le_refl _, Nat.le_refl _⟩ B.returns s.heap [] _ hP hD0.self va_S.rf hl
/-- where a method that answers must come -/
def gEv (below : List Frame) (D : va_G) (g : gT) (N : Nat) (ad ln : Nat → Nat) (A A' : gM)  (args : Array Value) (s : State) : State → Prop := MQ below (g_Qv D g N ad ln A s.heap.size A') args s 0 0 (va_A (gw g ad ln A N) s.heap.size)
theorem g_metv {y : MethodName} {b : ByteArray} {nl : Nat} {rt : Option FieldType} {av : List gV}  (hpl : plainName y.cls = true) (hlen : (av.map g_cat).foldr (fun c n => (if c = 2 then 2 else 1) + n) 0 ≤ nl)
    (body : ∀ (p : Program) (e : Env) (s : State) (m : MethodId) (args : Array Value) (below : List Frame) (meth : Method) (c : Code), gC p (g_rm d) s m args meth c b y.cls nl D g (va_A (gw g ad ln A N) s.heap.size) d → meth.sig.returnType = rt → gJ p l e (g_rm d) s m args below meth c (gEv below D g N ad ln A A' args s) nl D g (va_A (gw g ad ln A N) s.heap.size) N ad ln A (g_args 0 av) 0 0 0 []) : gKv l y b nl rt d D g N ad ln A av A' := by
  intro sz
  refine Met.ofW (cc := b) (maxL := nl) (ret := rt) hpl rfl ?_
  intro p e s m args below meth c s₁ B hml hv
  obtain ⟨rfl, hsz, hP, hK, hD0⟩ := hv
  subst hsz
  have hts := atoms_spec (ws := g_ws y b nl rt) B.pre
  have hown : s.vm.findClass y.cls = some m.cls := findClass_of_methodNamed B.named
  have hl := lv_entry (av.map (g_v ad)) (n := nl) (by rw [g_sl_len]; exact hlen)
  rw [lg_entry_eq]
  rw [g_args_map] at hl
  exact body p e s m _ below meth c ⟨B.exec, B.bytes, hml, hown, fun w hw => hts w (List.mem_cons_of_mem _ hw), hK, fun q h => Or.inr h, B.notSynchronized, Nat.le_refl _, Nat.le_refl _⟩ B.returns s.heap [] _ hP hD0.self va_S.rf hl
/-- where a method that answers must come -/
def gEr (below : List Frame) (D : va_G) (g : gT) (N : Nat) (ad ln : Nat → Nat) (A A' : gM) (r : Nat) (args : Array Value) (s : State) : State → Prop := MQ below (g_Qr D g N ad ln A s.heap.size A' r) args s 0 0 (va_A (gw g ad ln A N) s.heap.size)
theorem g_metr {y : MethodName} {b : ByteArray} {nl : Nat} {rt : Option FieldType} {av : List gV} {r : Nat} (hpl : plainName y.cls = true) (hlen : (av.map g_cat).foldr (fun c n => (if c = 2 then 2 else 1) + n) 0 ≤ nl)
    (body : ∀ (p : Program) (e : Env) (s : State) (m : MethodId) (args : Array Value) (below : List Frame) (meth : Method) (c : Code), gC p (g_rm d) s m args meth c b y.cls nl D g (va_A (gw g ad ln A N) s.heap.size) d → meth.sig.returnType = rt → gJ p l e (g_rm d) s m args below meth c (gEr below D g N ad ln A A' r args s) nl D g (va_A (gw g ad ln A N) s.heap.size) N ad ln A (g_args 0 av) 0 0 0 []) : gKr l y b nl rt d D g N ad ln A av A' r := by
  intro sz
  refine Met.ofW (cc := b) (maxL := nl) (ret := rt) hpl rfl ?_
  intro p e s m args below meth c s₁ B hml hv
  obtain ⟨rfl, hsz, hP, hK, hD0⟩ := hv
  subst hsz
  have hts := atoms_spec (ws := g_ws y b nl rt) B.pre
  have hown : s.vm.findClass y.cls = some m.cls := findClass_of_methodNamed B.named
  have hl := lv_entry (av.map (g_v ad)) (n := nl) (by rw [g_sl_len]; exact hlen)
  rw [lg_entry_eq]
  rw [g_args_map] at hl
  exact body p e s m _ below meth c ⟨B.exec, B.bytes, hml, hown, fun w hw => hts w (List.mem_cons_of_mem _ hw), hK, fun q h => Or.inr h, B.notSynchronized, Nat.le_refl _, Nat.le_refl _⟩ B.returns s.heap [] _ hP hD0.self va_S.rf hl
theorem g_reti (C : gC p R s m args meth c cc own nL D g (va_A (gw g ad ln A N) s.heap.size) d) {r : Int32} (hr : meth.sig.returnType = some .int) (hdg : decode cc pc = .ok (.ireturn, 1)) : gJ p l e R s m args below meth c (gEi below D g N ad ln A A' r args s) nL D g (va_A (gw g ad ln A N) s.heap.size) N ad ln A' loc 0 0 pc [gi r] := fun H locs ls hP hD hS hl => W.iret (v := r) C.1 C.2.1 hr (fun t ht hW => ⟨⟨r, (), rfl, rfl, by rw [ht]; exact hP, va_K.moved hW.alike C.2.2.2.2.2.1, hD⟩, hS.F ht⟩) hS.2.2 hdg C.2.2.2.2.2.2.2.1
theorem g_retl (C : gC p R s m args meth c cc own nL D g (va_A (gw g ad ln A N) s.heap.size) d) {r : Int64} (hr : meth.sig.returnType = some .long) (hdg : decode cc pc = .ok (.lreturn, 1)) : gJ p l e R s m args below meth c (gEl below D g N ad ln A A' r args s) nL D g (va_A (gw g ad ln A N) s.heap.size) N ad ln A' loc 0 0 pc [gl r] := fun H locs ls hP hD hS hl => W.lret (v := r) C.1 C.2.1 hr (fun t ht hW => ⟨⟨r, (), rfl, rfl, by rw [ht]; exact hP, va_K.moved hW.alike C.2.2.2.2.2.1, hD⟩, hS.F ht⟩) hS.2.2 hdg C.2.2.2.2.2.2.2.1
theorem g_retv (C : gC p R s m args meth c cc own nL D g (va_A (gw g ad ln A N) s.heap.size) d)  (hr : meth.sig.returnType = none) (hdg : decode cc pc = .ok (.return_, 1)) : gJ p l e R s m args below meth c (gEv below D g N ad ln A A' args s) nL D g (va_A (gw g ad ln A N) s.heap.size) N ad ln A' loc 0 0 pc [] := fun H locs ls hP hD hS hl => W.vret C.1 C.2.1 hr (fun t ht hW => ⟨⟨(), rfl, trivial, by rw [ht]; exact hP, va_K.moved hW.alike C.2.2.2.2.2.1, hD⟩, hS.F ht⟩) hS.2.2 hdg C.2.2.2.2.2.2.2.1
theorem g_retz (C : gC p R s m args meth c cc own nL D g (va_A (gw g ad ln A N) s.heap.size) d) {r : Int32} (hr : meth.sig.returnType = some .boolean) (hz : r = 0 ∨ r = 1) (hdg : decode cc pc = .ok (.ireturn, 1)) : gJ p l e R s m args below meth c (gEi below D g N ad ln A A' r args s) nL D g (va_A (gw g ad ln A N) s.heap.size) N ad ln A' loc 0 0 pc [gi r] := fun H locs ls hP hD hS hl => W.zret (v := r) C.1 C.2.1 hr (by rcases hz with rfl | rfl <;> rfl) (fun t ht hW => ⟨⟨r, (), rfl, rfl, by rw [ht]; exact hP, va_K.moved hW.alike C.2.2.2.2.2.1, hD⟩, hS.F ht⟩) hS.2.2 hdg C.2.2.2.2.2.2.2.1
theorem g_retr (C : gC p R s m args meth c cc own nL D g (va_A (gw g ad ln A N) s.heap.size) d) {r : Nat} {rt : FieldType} (hr : meth.sig.returnType = some rt) (hrt : (∃ n, rt = .object n) ∨ ∃ t, rt = .array t) (hdg : decode cc pc = .ok (.areturn, 1)) : gJ p l e R s m args below meth c (gEr below D g N ad ln A A' r args s) nL D g (va_A (gw g ad ln A N) s.heap.size) N ad ln A' loc 0 0 pc [gr r] := fun H locs ls hP hD hS hl => W.aret (v := .ref (ad r)) C.1 C.2.1 hr hrt (Or.inr ⟨_, rfl⟩) (fun t ht hW => ⟨⟨(), ad r, rfl, trivial, rfl, by rw [ht]; exact hP, va_K.moved hW.alike C.2.2.2.2.2.1, hD⟩, hS.F ht⟩) hS.2.2 hdg C.2.2.2.2.2.2.2.1
theorem g_tableIn (C : gC p R s m args meth c cc own nL D g As d) {dflt lo hi : Int} {offs : Array Int} {len : Nat} {x : Int32} {off : Int} {tgt : Nat} (hdg : decode cc pc = .ok (.tableswitch dflt lo hi offs, len)) (h1 : ¬ x.toInt < lo) (h2 : ¬ hi < x.toInt) (ho : offs[(x.toInt - lo).toNat]? = some off) (ht : (pc : Int) + off = (tgt : Int)) (kk : gJ p l e R s m args below meth c Q nL D g As N ad ln A loc k n tgt st) : gJ p l e R s m args below meth c Q nL D g As N ad ln A loc k n pc (gi x :: st) := fun H locs ls hP hD hS hl => lv_tableIn C.1 C.2.1 hdg h1 h2 ho ht (kk H locs ls hP hD hS hl)
theorem g_tableOut (C : gC p R s m args meth c cc own nL D g As d) {dflt lo hi : Int} {offs : Array Int} {len : Nat} {x : Int32} {tgt : Nat} (hdg : decode cc pc = .ok (.tableswitch dflt lo hi offs, len)) (h : x.toInt < lo ∨ hi < x.toInt) (ht : (pc : Int) + dflt = (tgt : Int)) (kk : gJ p l e R s m args below meth c Q nL D g As N ad ln A loc k n tgt st) : gJ p l e R s m args below meth c Q nL D g As N ad ln A loc k n pc (gi x :: st) := fun H locs ls hP hD hS hl => lv_tableOut C.1 C.2.1 hdg h ht (kk H locs ls hP hD hS hl)
end GE
end
section
/-! THE MODELS' OWN WORDS: naming, guards, binds; and how a walk takes them apart -/
/-- the bound of every loop's model -/
def gF : Nat := 1000002
def g_let {α β : Type} (v : α) (f : α → β) : β := f v
theorem g_lt {α β : Type} {v : α} {f : α → Option β} {x : β} (h : g_let v f = some x) : ∃ w, v = w ∧ f w = some x := ⟨v, rfl, h⟩
theorem g_gd {β : Type} {c : Prop} {_ : Decidable c} {a : Option β} {x : β} (h : (if c then a else none) = some x) : c ∧ a = some x := by
  by_cases q : c
  · rw [if_pos q] at h; exact ⟨q, h⟩
  · rw [if_neg q] at h; cases h
theorem g_bd {α β : Type} {o : Option α} {f : α → Option β} {x : β} (h : o.bind f = some x) : ∃ q, o = some q ∧ f q = some x := by
  cases o with
  | none => cases h
  | some q => exact ⟨q, rfl, h⟩
theorem g_tt {β : Type} {c : Prop} {_ : Decidable c} {a b : Option β} {x : β} (q : c) (h : (if c then a else b) = some x) : a = some x := by rw [if_pos q] at h; exact h
theorem g_ff {β : Type} {c : Prop} {_ : Decidable c} {a b : Option β} {x : β} (q : ¬ c) (h : (if c then a else b) = some x) : b = some x := by rw [if_neg q] at h; exact h
theorem g_sw1_8 {x : Int32} (h1 : ¬ x = 1) (h2 : ¬ x = 2) (h3 : ¬ x = 3) (h4 : ¬ x = 4) (h5 : ¬ x = 5) (h6 : ¬ x = 6) (h7 : ¬ x = 7) (h8 : ¬ x = 8) : x.toInt < 1 ∨ 8 < x.toInt := by
  have t : ∀ y : Int32, ¬ x = y → x.toInt ≠ y.toInt := fun y h q => h (Int32.toInt_inj.mp q)
  have := t 1 h1; have := t 2 h2; have := t 3 h3; have := t 4 h4; have := t 5 h5; have := t 6 h6; have := t 7 h7; have := t 8 h8
  simp at *
  omega
theorem g_sw0_7 {x : Int32} (h0 : ¬ x = 0) (h1 : ¬ x = 1) (h2 : ¬ x = 2) (h3 : ¬ x = 3) (h4 : ¬ x = 4) (h5 : ¬ x = 5) (h6 : ¬ x = 6) (h7 : ¬ x = 7) : x.toInt < 0 ∨ 7 < x.toInt := by
  have t : ∀ y : Int32, ¬ x = y → x.toInt ≠ y.toInt := fun y h q => h (Int32.toInt_inj.mp q)
  have := t 0 h0; have := t 1 h1; have := t 2 h2; have := t 3 h3; have := t 4 h4; have := t 5 h5; have := t 6 h6; have := t 7 h7
  simp at *
  omega
theorem g_rowI : ∀ j, j < 40 → g_isI (3 + j) = true ∧ g_isI (45 + j) = true ∧ g_isI (86 + j) = true ∧ g_isI (141 + j) = true ∧ g_len (3 + j) = 7 ∧ g_len (45 + j) = 60 ∧ g_len (86 + j) = 5 ∧ g_len (141 + j) = 60 := by decide +kernel
theorem g_row3 {N : Nat} {ln : Nat → Nat} {x : Int32} (hN : 183 ≤ N) (h : g_in x 40 = true) : 3 + x.toNatClampNeg < N ∧ g_isI (3 + x.toNatClampNeg) = true ∧ g_ln ln (3 + x.toNatClampNeg) = 7 := by
  have h1 := g_in_lt h
  exact ⟨by omega, (g_rowI _ h1).1, by rw [g_ln_c (by omega)]; exact (g_rowI _ h1).2.2.2.2.1⟩
theorem g_row45 {N : Nat} {ln : Nat → Nat} {x : Int32} (hN : 183 ≤ N) (h : g_in x 40 = true) : 45 + x.toNatClampNeg < N ∧ g_isI (45 + x.toNatClampNeg) = true ∧ g_ln ln (45 + x.toNatClampNeg) = 60 := by
  have h1 := g_in_lt h
  exact ⟨by omega, (g_rowI _ h1).2.1, by rw [g_ln_c (by omega)]; exact (g_rowI _ h1).2.2.2.2.2.1⟩
theorem g_row86 {N : Nat} {ln : Nat → Nat} {x : Int32} (hN : 183 ≤ N) (h : g_in x 40 = true) : 86 + x.toNatClampNeg < N ∧ g_isI (86 + x.toNatClampNeg) = true ∧ g_ln ln (86 + x.toNatClampNeg) = 5 := by
  have h1 := g_in_lt h
  exact ⟨by omega, (g_rowI _ h1).2.2.1, by rw [g_ln_c (by omega)]; exact (g_rowI _ h1).2.2.2.2.2.2.1⟩
theorem g_row141 {N : Nat} {ln : Nat → Nat} {x : Int32} (hN : 183 ≤ N) (h : g_in x 40 = true) : 141 + x.toNatClampNeg < N ∧ g_isI (141 + x.toNatClampNeg) = true ∧ g_ln ln (141 + x.toNatClampNeg) = 60 := by
  have h1 := g_in_lt h
  exact ⟨by omega, (g_rowI _ h1).2.2.2.1, by rw [g_ln_c (by omega)]; exact (g_rowI _ h1).2.2.2.2.2.2.2⟩
/-- the words of Math.min, Math.max -/
def g_siteM (own : String) (ix : Nat) (z : MethodName) (b : ByteArray) : Prop := Cond.methodLink own ix z ∈ gtb ∧ Cond.static z ∈ gtb ∧ Cond.initialized "java/lang/Math" ∈ gtb ∧ Cond.code z b 2 (some .int) ∈ gtb
section GM
variable {p : Program} {l : Launch} {e : Env} {R : Room} {s : State} {m : MethodId} {args : Array Value} {below : List Frame} {meth : Method} {c : Code} {Q : State → Prop} {nL : Nat} {D : va_G} {g : gT} {As : Nat → Prop} {N : Nat} {ad ln : Nat → Nat} {A A' : gM} {loc loc' : List (Nat × gV)} {k n pc : Nat} {st : List gV} {cc : ByteArray} {own : String} {d : Nat}
theorem g_topi {x y : Int32} (h : x = y) (kk : gJ p l e R s m args below meth c Q nL D g As N ad ln A loc k n pc (gi y :: st)) : gJ p l e R s m args below meth c Q nL D g As N ad ln A loc k n pc (gi x :: st) := h ▸ kk
theorem g_topl {x y : Int64} (h : x = y) (kk : gJ p l e R s m args below meth c Q nL D g As N ad ln A loc k n pc (gl y :: st)) : gJ p l e R s m args below meth c Q nL D g As N ad ln A loc k n pc (gl x :: st) := h ▸ kk
theorem g_topd {x y : UInt64} (h : x = y) (kk : gJ p l e R s m args below meth c Q nL D g As N ad ln A loc k n pc (gd y :: st)) : gJ p l e R s m args below meth c Q nL D g As N ad ln A loc k n pc (gd x :: st) := h ▸ kk
theorem g_mmax (C : gC p R s m args meth c cc own nL D g As d) {x y : Int32} {ix : Nat} (hs : g_siteM own ix Lib.Math.max.name Lib.Math.max.code) (hd : 1 ≤ d) (hcat : (st.map g_cat).sum ≤ 8) (hkn : k ≤ R.cells ∧ n ≤ R.slots) (hdg : decode cc pc = .ok (.invokestatic ix, 3)) (kk : gJ p l e R s m args below meth c Q nL D g As N ad ln A loc k n (pc + 3) (gi (if x < y then y else x) :: st)) : gJ p l e R s m args below meth c Q nL D g As N ad ln A loc k n pc (gi y :: gi x :: st) := fun H locs ls hP hD hS hl => va_mmax C.1 C.2.1 (by rw [C.2.2.1]; exact hl.1.symm) C.2.2.2.1 (C.2.2.2.2.1 _ hs.1) (C.2.2.2.2.1 _ hs.2.1) (C.2.2.2.2.1 _ hs.2.2.1) (C.2.2.2.2.1 _ hs.2.2.2) (by have := C.2.2.2.2.2.2.2.2.1; omega) (by have h1 := g_lv (ad := ad) hcat; have := C.2.2.2.2.2.2.2.2.2; omega) hkn.1 hkn.2 hdg (kk H locs ls hP hD hS hl)
theorem g_mmin (C : gC p R s m args meth c cc own nL D g As d) {x y : Int32} {ix : Nat} (hs : g_siteM own ix Lib.Math.min.name Lib.Math.min.code) (hd : 1 ≤ d) (hcat : (st.map g_cat).sum ≤ 8) (hkn : k ≤ R.cells ∧ n ≤ R.slots) (hdg : decode cc pc = .ok (.invokestatic ix, 3)) (kk : gJ p l e R s m args below meth c Q nL D g As N ad ln A loc k n (pc + 3) (gi (if y < x then y else x) :: st)) : gJ p l e R s m args below meth c Q nL D g As N ad ln A loc k n pc (gi y :: gi x :: st) := fun H locs ls hP hD hS hl => va_mmin C.1 C.2.1 (by rw [C.2.2.1]; exact hl.1.symm) C.2.2.2.1 (C.2.2.2.2.1 _ hs.1) (C.2.2.2.2.1 _ hs.2.1) (C.2.2.2.2.1 _ hs.2.2.1) (C.2.2.2.2.1 _ hs.2.2.2) (by have := C.2.2.2.2.2.2.2.2.1; omega) (by have h1 := g_lv (ad := ad) hcat; have := C.2.2.2.2.2.2.2.2.2; omega) hkn.1 hkn.2 hdg (kk H locs ls hP hD hS hl)
end GM
end
section
theorem qc_X4_47 : Cond.constant RX4 47 1000000 ∈ gtb := g_tb (List.mem_of_getElem? (i := 472) (by decide +kernel)) (by decide +kernel)
theorem qf_X4_11 : Cond.fieldLink RX4 11 (TX4 0).1 (TX4 0).2.1 (TX4 0).2.2.1 ∈ gtb := g_tb (List.mem_of_getElem? (i := 144) (by decide +kernel)) (by decide +kernel)
theorem qf_X4_15 : Cond.fieldLink RX4 15 (TX4 1).1 (TX4 1).2.1 (TX4 1).2.2.1 ∈ gtb := g_tb (List.mem_of_getElem? (i := 145) (by decide +kernel)) (by decide +kernel)
theorem qf_X4_18 : Cond.fieldLink RX4 18 (TX4 2).1 (TX4 2).2.1 (TX4 2).2.2.1 ∈ gtb := g_tb (List.mem_of_getElem? (i := 146) (by decide +kernel)) (by decide +kernel)
theorem qf_X4_21 : Cond.fieldLink RX4 21 (TX4 3).1 (TX4 3).2.1 (TX4 3).2.2.1 ∈ gtb := g_tb (List.mem_of_getElem? (i := 147) (by decide +kernel)) (by decide +kernel)
theorem qf_X4_24 : Cond.fieldLink RX4 24 (TX4 4).1 (TX4 4).2.1 (TX4 4).2.2.1 ∈ gtb := g_tb (List.mem_of_getElem? (i := 148) (by decide +kernel)) (by decide +kernel)
theorem qf_X4_27 : Cond.fieldLink RX4 27 (TX4 5).1 (TX4 5).2.1 (TX4 5).2.2.1 ∈ gtb := g_tb (List.mem_of_getElem? (i := 149) (by decide +kernel)) (by decide +kernel)
theorem qf_X4_30 : Cond.fieldLink RX4 30 (TX4 6).1 (TX4 6).2.1 (TX4 6).2.2.1 ∈ gtb := g_tb (List.mem_of_getElem? (i := 150) (by decide +kernel)) (by decide +kernel)
theorem qf_X4_36 : Cond.fieldLink RX4 36 (TX4 9).1 (TX4 9).2.1 (TX4 9).2.2.1 ∈ gtb := g_tb (List.mem_of_getElem? (i := 153) (by decide +kernel)) (by decide +kernel)
theorem qf_X4_44 : Cond.fieldLink RX4 44 (TX4 10).1 (TX4 10).2.1 (TX4 10).2.2.1 ∈ gtb := g_tb (List.mem_of_getElem? (i := 154) (by decide +kernel)) (by decide +kernel)
theorem qs_X4_40 : g_site RX4 RX4 40 yX4_make cX4_make 4 (some .int) 3 := ⟨g_tb (List.mem_of_getElem? (i := 382) (by decide +kernel)) (by decide +kernel), g_tb (List.mem_of_getElem? (i := 383) (by decide +kernel)) (by decide +kernel), g_tb (List.mem_of_getElem? (i := 384) (by decide +kernel)) (by decide +kernel), g_tb (List.mem_of_getElem? (i := 77) (by decide +kernel)) (by decide +kernel), g_tb (List.mem_of_getElem? (i := 385) (by decide +kernel)) (by decide +kernel), ⟨rfl, by decide, by decide, by decide +kernel⟩, by decide⟩
theorem qs_X4_48 : g_site RX4 RX4 48 yX4_resolve cX4_resolve 4 (some .int) 1 := ⟨g_tb (List.mem_of_getElem? (i := 477) (by decide +kernel)) (by decide +kernel), g_tb (List.mem_of_getElem? (i := 479) (by decide +kernel)) (by decide +kernel), g_tb (List.mem_of_getElem? (i := 15) (by decide +kernel)) (by decide +kernel), g_tb (List.mem_of_getElem? (i := 77) (by decide +kernel)) (by decide +kernel), g_tb (List.mem_of_getElem? (i := 480) (by decide +kernel)) (by decide +kernel), ⟨rfl, by decide, by decide, by decide +kernel⟩, by decide⟩
theorem qs_X4_52 : g_site RX4 RX4 52 yX4_isPair cX4_isPair 2 (some .boolean) 1 := ⟨g_tb (List.mem_of_getElem? (i := 423) (by decide +kernel)) (by decide +kernel), g_tb (List.mem_of_getElem? (i := 425) (by decide +kernel)) (by decide +kernel), g_tb (List.mem_of_getElem? (i := 9) (by decide +kernel)) (by decide +kernel), g_tb (List.mem_of_getElem? (i := 77) (by decide +kernel)) (by decide +kernel), g_tb (List.mem_of_getElem? (i := 426) (by decide +kernel)) (by decide +kernel), ⟨rfl, by decide, by decide, by decide +kernel⟩, by decide⟩
theorem qs_X4_56 : g_site RX4 RX4 56 yX4_putPair cX4_putPair 4 (some .int) 3 := ⟨g_tb (List.mem_of_getElem? (i := 468) (by decide +kernel)) (by decide +kernel), g_tb (List.mem_of_getElem? (i := 470) (by decide +kernel)) (by decide +kernel), g_tb (List.mem_of_getElem? (i := 13) (by decide +kernel)) (by decide +kernel), g_tb (List.mem_of_getElem? (i := 77) (by decide +kernel)) (by decide +kernel), g_tb (List.mem_of_getElem? (i := 471) (by decide +kernel)) (by decide +kernel), ⟨rfl, by decide, by decide, by decide +kernel⟩, by decide⟩
theorem qs_X4_59 : g_site RX4 RX4 59 yX4_give cX4_give 4 (none) 2 := ⟨g_tb (List.mem_of_getElem? (i := 473) (by decide +kernel)) (by decide +kernel), g_tb (List.mem_of_getElem? (i := 475) (by decide +kernel)) (by decide +kernel), g_tb (List.mem_of_getElem? (i := 14) (by decide +kernel)) (by decide +kernel), g_tb (List.mem_of_getElem? (i := 77) (by decide +kernel)) (by decide +kernel), g_tb (List.mem_of_getElem? (i := 476) (by decide +kernel)) (by decide +kernel), ⟨rfl, by decide, by decide, by decide +kernel⟩, by decide⟩
theorem qs_X4_63 : g_site RX4 RX4 63 yX4_forgetMarks cX4_forgetMarks 1 (none) 0 := ⟨g_tb (List.mem_of_getElem? (i := 481) (by decide +kernel)) (by decide +kernel), g_tb (List.mem_of_getElem? (i := 482) (by decide +kernel)) (by decide +kernel), g_tb (List.mem_of_getElem? (i := 483) (by decide +kernel)) (by decide +kernel), g_tb (List.mem_of_getElem? (i := 77) (by decide +kernel)) (by decide +kernel), g_tb (List.mem_of_getElem? (i := 484) (by decide +kernel)) (by decide +kernel), ⟨rfl, by decide, by decide, by decide +kernel⟩, by decide⟩
theorem qs_X4_66 : g_site RX4 RX4 66 yX4_markWithin cX4_markWithin 5 (none) 1 := ⟨g_tb (List.mem_of_getElem? (i := 485) (by decide +kernel)) (by decide +kernel), g_tb (List.mem_of_getElem? (i := 486) (by decide +kernel)) (by decide +kernel), g_tb (List.mem_of_getElem? (i := 487) (by decide +kernel)) (by decide +kernel), g_tb (List.mem_of_getElem? (i := 77) (by decide +kernel)) (by decide +kernel), g_tb (List.mem_of_getElem? (i := 488) (by decide +kernel)) (by decide +kernel), ⟨rfl, by decide, by decide, by decide +kernel⟩, by decide⟩
theorem gu_4 : ∀ w ∈ wsX40, w ∈ gtb := by decide +kernel
theorem dX4_make_0 : decode cX4_make 0 = .ok (.aload_n 0, 1) := by decide +kernel
theorem dX4_make_1 : decode cX4_make 1 = .ok (.getfield 36, 3) := by decide +kernel
theorem dX4_make_4 : decode cX4_make 4 = .ok (.ifCond .lt 13, 3) := by decide +kernel
theorem dX4_make_7 : decode cX4_make 7 = .ok (.aload_n 0, 1) := by decide +kernel
theorem dX4_make_8 : decode cX4_make 8 = .ok (.getfield 36, 3) := by decide +kernel
theorem dX4_make_11 : decode cX4_make 11 = .ok (.sipush 2600, 3) := by decide +kernel
theorem dX4_make_14 : decode cX4_make 14 = .ok (.if_icmp .lt 5, 3) := by decide +kernel
theorem dX4_make_17 : decode cX4_make 17 = .ok (.iconst 0, 1) := by decide +kernel
theorem dX4_make_18 : decode cX4_make 18 = .ok (.ireturn, 1) := by decide +kernel
theorem dX4_make_19 : decode cX4_make 19 = .ok (.aload_n 0, 1) := by decide +kernel
theorem dX4_make_20 : decode cX4_make 20 = .ok (.getfield 11, 3) := by decide +kernel
theorem dX4_make_23 : decode cX4_make 23 = .ok (.aload_n 0, 1) := by decide +kernel
theorem dX4_make_24 : decode cX4_make 24 = .ok (.getfield 36, 3) := by decide +kernel
theorem dX4_make_27 : decode cX4_make 27 = .ok (.iload_n 1, 1) := by decide +kernel
theorem dX4_make_28 : decode cX4_make 28 = .ok (.iastore, 1) := by decide +kernel
theorem dX4_make_29 : decode cX4_make 29 = .ok (.aload_n 0, 1) := by decide +kernel
theorem dX4_make_30 : decode cX4_make 30 = .ok (.getfield 15, 3) := by decide +kernel
theorem dX4_make_33 : decode cX4_make 33 = .ok (.aload_n 0, 1) := by decide +kernel
theorem dX4_make_34 : decode cX4_make 34 = .ok (.getfield 36, 3) := by decide +kernel
theorem dX4_make_37 : decode cX4_make 37 = .ok (.iload_n 2, 1) := by decide +kernel
theorem dX4_make_38 : decode cX4_make 38 = .ok (.iastore, 1) := by decide +kernel
theorem dX4_make_39 : decode cX4_make 39 = .ok (.aload_n 0, 1) := by decide +kernel
theorem dX4_make_40 : decode cX4_make 40 = .ok (.getfield 18, 3) := by decide +kernel
theorem dX4_make_43 : decode cX4_make 43 = .ok (.aload_n 0, 1) := by decide +kernel
theorem dX4_make_44 : decode cX4_make 44 = .ok (.getfield 36, 3) := by decide +kernel
theorem dX4_make_47 : decode cX4_make 47 = .ok (.iload_n 3, 1) := by decide +kernel
theorem dX4_make_48 : decode cX4_make 48 = .ok (.iastore, 1) := by decide +kernel
theorem dX4_make_49 : decode cX4_make 49 = .ok (.aload_n 0, 1) := by decide +kernel
theorem dX4_make_50 : decode cX4_make 50 = .ok (.dup, 1) := by decide +kernel
theorem dX4_make_51 : decode cX4_make 51 = .ok (.getfield 36, 3) := by decide +kernel
theorem dX4_make_54 : decode cX4_make 54 = .ok (.iconst 1, 1) := by decide +kernel
theorem dX4_make_55 : decode cX4_make 55 = .ok (.iadd, 1) := by decide +kernel
theorem dX4_make_56 : decode cX4_make 56 = .ok (.putfield 36, 3) := by decide +kernel
theorem dX4_make_59 : decode cX4_make 59 = .ok (.aload_n 0, 1) := by decide +kernel
theorem dX4_make_60 : decode cX4_make 60 = .ok (.getfield 36, 3) := by decide +kernel
theorem dX4_make_63 : decode cX4_make 63 = .ok (.iconst 1, 1) := by decide +kernel
theorem dX4_make_64 : decode cX4_make 64 = .ok (.isub, 1) := by decide +kernel
theorem dX4_make_65 : decode cX4_make 65 = .ok (.ireturn, 1) := by decide +kernel
theorem dX4_newVariable_0 : decode cX4_newVariable 0 = .ok (.aload_n 0, 1) := by decide +kernel
theorem dX4_newVariable_1 : decode cX4_newVariable 1 = .ok (.iconst 4, 1) := by decide +kernel
theorem dX4_newVariable_2 : decode cX4_newVariable 2 = .ok (.iconst (-1), 1) := by decide +kernel
theorem dX4_newVariable_3 : decode cX4_newVariable 3 = .ok (.iconst (-1), 1) := by decide +kernel
theorem dX4_newVariable_4 : decode cX4_newVariable 4 = .ok (.invokevirtual 40, 3) := by decide +kernel
theorem dX4_newVariable_7 : decode cX4_newVariable 7 = .ok (.ireturn, 1) := by decide +kernel
theorem dX4_codeOfNode_0 : decode cX4_codeOfNode 0 = .ok (.bipush 100, 2) := by decide +kernel
theorem dX4_codeOfNode_2 : decode cX4_codeOfNode 2 = .ok (.iload_n 1, 1) := by decide +kernel
theorem dX4_codeOfNode_3 : decode cX4_codeOfNode 3 = .ok (.iadd, 1) := by decide +kernel
theorem dX4_codeOfNode_4 : decode cX4_codeOfNode 4 = .ok (.ireturn, 1) := by decide +kernel
theorem dX4_forgetMarks_0 : decode cX4_forgetMarks 0 = .ok (.aload_n 0, 1) := by decide +kernel
theorem dX4_forgetMarks_1 : decode cX4_forgetMarks 1 = .ok (.dup, 1) := by decide +kernel
theorem dX4_forgetMarks_2 : decode cX4_forgetMarks 2 = .ok (.getfield 44, 3) := by decide +kernel
theorem dX4_forgetMarks_5 : decode cX4_forgetMarks 5 = .ok (.iconst 1, 1) := by decide +kernel
theorem dX4_forgetMarks_6 : decode cX4_forgetMarks 6 = .ok (.iadd, 1) := by decide +kernel
theorem dX4_forgetMarks_7 : decode cX4_forgetMarks 7 = .ok (.putfield 44, 3) := by decide +kernel
theorem dX4_forgetMarks_10 : decode cX4_forgetMarks 10 = .ok (.return_, 1) := by decide +kernel
theorem dX4_isNode_0 : decode cX4_isNode 0 = .ok (.iload_n 1, 1) := by decide +kernel
theorem dX4_isNode_1 : decode cX4_isNode 1 = .ok (.bipush 100, 2) := by decide +kernel
theorem dX4_isNode_3 : decode cX4_isNode 3 = .ok (.if_icmp .lt 7, 3) := by decide +kernel
theorem dX4_isNode_6 : decode cX4_isNode 6 = .ok (.iconst 1, 1) := by decide +kernel
theorem dX4_isNode_7 : decode cX4_isNode 7 = .ok (.goto 4, 3) := by decide +kernel
theorem dX4_isNode_10 : decode cX4_isNode 10 = .ok (.iconst 0, 1) := by decide +kernel
theorem dX4_isNode_11 : decode cX4_isNode 11 = .ok (.ireturn, 1) := by decide +kernel
theorem dX4_nodeOfCode_0 : decode cX4_nodeOfCode 0 = .ok (.iload_n 1, 1) := by decide +kernel
theorem dX4_nodeOfCode_1 : decode cX4_nodeOfCode 1 = .ok (.bipush 100, 2) := by decide +kernel
theorem dX4_nodeOfCode_3 : decode cX4_nodeOfCode 3 = .ok (.isub, 1) := by decide +kernel
theorem dX4_nodeOfCode_4 : decode cX4_nodeOfCode 4 = .ok (.ireturn, 1) := by decide +kernel
theorem dX4_isPair_0 : decode cX4_isPair 0 = .ok (.iload_n 1, 1) := by decide +kernel
theorem dX4_isPair_1 : decode cX4_isPair 1 = .ok (.iconst 2, 1) := by decide +kernel
theorem dX4_isPair_2 : decode cX4_isPair 2 = .ok (.if_icmp .eq 8, 3) := by decide +kernel
theorem dX4_isPair_5 : decode cX4_isPair 5 = .ok (.iload_n 1, 1) := by decide +kernel
theorem dX4_isPair_6 : decode cX4_isPair 6 = .ok (.iconst 3, 1) := by decide +kernel
theorem dX4_isPair_7 : decode cX4_isPair 7 = .ok (.if_icmp .ne 7, 3) := by decide +kernel
theorem dX4_isPair_10 : decode cX4_isPair 10 = .ok (.iconst 1, 1) := by decide +kernel
theorem dX4_isPair_11 : decode cX4_isPair 11 = .ok (.goto 4, 3) := by decide +kernel
theorem dX4_isPair_14 : decode cX4_isPair 14 = .ok (.iconst 0, 1) := by decide +kernel
theorem dX4_isPair_15 : decode cX4_isPair 15 = .ok (.ireturn, 1) := by decide +kernel
theorem dX4_resolve_0 : decode cX4_resolve 0 = .ok (.iload_n 1, 1) := by decide +kernel
theorem dX4_resolve_1 : decode cX4_resolve 1 = .ok (.istore_n 2, 1) := by decide +kernel
theorem dX4_resolve_2 : decode cX4_resolve 2 = .ok (.iconst 0, 1) := by decide +kernel
theorem dX4_resolve_3 : decode cX4_resolve 3 = .ok (.istore_n 3, 1) := by decide +kernel
theorem dX4_resolve_4 : decode cX4_resolve 4 = .ok (.iload_n 3, 1) := by decide +kernel
theorem dX4_resolve_5 : decode cX4_resolve 5 = .ok (.sipush 2600, 3) := by decide +kernel
theorem dX4_resolve_8 : decode cX4_resolve 8 = .ok (.if_icmp .ge 37, 3) := by decide +kernel
theorem dX4_resolve_11 : decode cX4_resolve 11 = .ok (.iload_n 2, 1) := by decide +kernel
theorem dX4_resolve_12 : decode cX4_resolve 12 = .ok (.ifCond .lt 33, 3) := by decide +kernel
theorem dX4_resolve_15 : decode cX4_resolve 15 = .ok (.iload_n 2, 1) := by decide +kernel
theorem dX4_resolve_16 : decode cX4_resolve 16 = .ok (.sipush 2600, 3) := by decide +kernel
theorem dX4_resolve_19 : decode cX4_resolve 19 = .ok (.if_icmp .ge 26, 3) := by decide +kernel
theorem dX4_resolve_22 : decode cX4_resolve 22 = .ok (.aload_n 0, 1) := by decide +kernel
theorem dX4_resolve_23 : decode cX4_resolve 23 = .ok (.getfield 11, 3) := by decide +kernel
theorem dX4_resolve_26 : decode cX4_resolve 26 = .ok (.iload_n 2, 1) := by decide +kernel
theorem dX4_resolve_27 : decode cX4_resolve 27 = .ok (.iaload, 1) := by decide +kernel
theorem dX4_resolve_28 : decode cX4_resolve 28 = .ok (.iconst 5, 1) := by decide +kernel
theorem dX4_resolve_29 : decode cX4_resolve 29 = .ok (.if_icmp .ne 16, 3) := by decide +kernel
theorem dX4_resolve_32 : decode cX4_resolve 32 = .ok (.aload_n 0, 1) := by decide +kernel
theorem dX4_resolve_33 : decode cX4_resolve 33 = .ok (.getfield 15, 3) := by decide +kernel
theorem dX4_resolve_36 : decode cX4_resolve 36 = .ok (.iload_n 2, 1) := by decide +kernel
theorem dX4_resolve_37 : decode cX4_resolve 37 = .ok (.iaload, 1) := by decide +kernel
theorem dX4_resolve_38 : decode cX4_resolve 38 = .ok (.istore_n 2, 1) := by decide +kernel
theorem dX4_resolve_39 : decode cX4_resolve 39 = .ok (.iinc 3 1, 3) := by decide +kernel
theorem dX4_resolve_42 : decode cX4_resolve 42 = .ok (.goto (-38), 3) := by decide +kernel
theorem dX4_resolve_45 : decode cX4_resolve 45 = .ok (.iload_n 2, 1) := by decide +kernel
theorem dX4_resolve_46 : decode cX4_resolve 46 = .ok (.ifCond .lt 14, 3) := by decide +kernel
theorem dX4_resolve_49 : decode cX4_resolve 49 = .ok (.iload_n 2, 1) := by decide +kernel
theorem dX4_resolve_50 : decode cX4_resolve 50 = .ok (.sipush 2600, 3) := by decide +kernel
theorem dX4_resolve_53 : decode cX4_resolve 53 = .ok (.if_icmp .ge 7, 3) := by decide +kernel
theorem dX4_resolve_56 : decode cX4_resolve 56 = .ok (.iload_n 2, 1) := by decide +kernel
theorem dX4_resolve_57 : decode cX4_resolve 57 = .ok (.goto 4, 3) := by decide +kernel
theorem dX4_resolve_60 : decode cX4_resolve 60 = .ok (.iconst 0, 1) := by decide +kernel
theorem dX4_resolve_61 : decode cX4_resolve 61 = .ok (.ireturn, 1) := by decide +kernel
theorem dX4_markWithin_0 : decode cX4_markWithin 0 = .ok (.iconst 1, 1) := by decide +kernel
theorem dX4_markWithin_1 : decode cX4_markWithin 1 = .ok (.istore_n 2, 1) := by decide +kernel
theorem dX4_markWithin_2 : decode cX4_markWithin 2 = .ok (.aload_n 0, 1) := by decide +kernel
theorem dX4_markWithin_3 : decode cX4_markWithin 3 = .ok (.getfield 24, 3) := by decide +kernel
theorem dX4_markWithin_6 : decode cX4_markWithin 6 = .ok (.iconst 0, 1) := by decide +kernel
theorem dX4_markWithin_7 : decode cX4_markWithin 7 = .ok (.iload_n 1, 1) := by decide +kernel
theorem dX4_markWithin_8 : decode cX4_markWithin 8 = .ok (.iastore, 1) := by decide +kernel
theorem dX4_markWithin_9 : decode cX4_markWithin 9 = .ok (.iconst 0, 1) := by decide +kernel
theorem dX4_markWithin_10 : decode cX4_markWithin 10 = .ok (.istore_n 3, 1) := by decide +kernel
theorem dX4_markWithin_11 : decode cX4_markWithin 11 = .ok (.iload_n 2, 1) := by decide +kernel
theorem dX4_markWithin_12 : decode cX4_markWithin 12 = .ok (.ifCond .le 109, 3) := by decide +kernel
theorem dX4_markWithin_15 : decode cX4_markWithin 15 = .ok (.iload_n 3, 1) := by decide +kernel
theorem dX4_markWithin_16 : decode cX4_markWithin 16 = .ok (.ldc 47, 2) := by decide +kernel
theorem dX4_markWithin_18 : decode cX4_markWithin 18 = .ok (.if_icmp .ge 103, 3) := by decide +kernel
theorem dX4_markWithin_21 : decode cX4_markWithin 21 = .ok (.iinc 2 (-1), 3) := by decide +kernel
theorem dX4_markWithin_24 : decode cX4_markWithin 24 = .ok (.aload_n 0, 1) := by decide +kernel
theorem dX4_markWithin_25 : decode cX4_markWithin 25 = .ok (.aload_n 0, 1) := by decide +kernel
theorem dX4_markWithin_26 : decode cX4_markWithin 26 = .ok (.getfield 24, 3) := by decide +kernel
theorem dX4_markWithin_29 : decode cX4_markWithin 29 = .ok (.iload_n 2, 1) := by decide +kernel
theorem dX4_markWithin_30 : decode cX4_markWithin 30 = .ok (.iaload, 1) := by decide +kernel
theorem dX4_markWithin_31 : decode cX4_markWithin 31 = .ok (.invokevirtual 48, 3) := by decide +kernel
theorem dX4_markWithin_34 : decode cX4_markWithin 34 = .ok (.istore 4, 2) := by decide +kernel
theorem dX4_markWithin_36 : decode cX4_markWithin 36 = .ok (.aload_n 0, 1) := by decide +kernel
theorem dX4_markWithin_37 : decode cX4_markWithin 37 = .ok (.getfield 21, 3) := by decide +kernel
theorem dX4_markWithin_40 : decode cX4_markWithin 40 = .ok (.iload 4, 2) := by decide +kernel
theorem dX4_markWithin_42 : decode cX4_markWithin 42 = .ok (.iaload, 1) := by decide +kernel
theorem dX4_markWithin_43 : decode cX4_markWithin 43 = .ok (.aload_n 0, 1) := by decide +kernel
theorem dX4_markWithin_44 : decode cX4_markWithin 44 = .ok (.getfield 44, 3) := by decide +kernel
theorem dX4_markWithin_47 : decode cX4_markWithin 47 = .ok (.if_icmp .eq 68, 3) := by decide +kernel
theorem dX4_markWithin_50 : decode cX4_markWithin 50 = .ok (.aload_n 0, 1) := by decide +kernel
theorem dX4_markWithin_51 : decode cX4_markWithin 51 = .ok (.getfield 21, 3) := by decide +kernel
theorem dX4_markWithin_54 : decode cX4_markWithin 54 = .ok (.iload 4, 2) := by decide +kernel
theorem dX4_markWithin_56 : decode cX4_markWithin 56 = .ok (.aload_n 0, 1) := by decide +kernel
theorem dX4_markWithin_57 : decode cX4_markWithin 57 = .ok (.getfield 44, 3) := by decide +kernel
theorem dX4_markWithin_60 : decode cX4_markWithin 60 = .ok (.iastore, 1) := by decide +kernel
theorem dX4_markWithin_61 : decode cX4_markWithin 61 = .ok (.aload_n 0, 1) := by decide +kernel
theorem dX4_markWithin_62 : decode cX4_markWithin 62 = .ok (.aload_n 0, 1) := by decide +kernel
theorem dX4_markWithin_63 : decode cX4_markWithin 63 = .ok (.getfield 11, 3) := by decide +kernel
theorem dX4_markWithin_66 : decode cX4_markWithin 66 = .ok (.iload 4, 2) := by decide +kernel
theorem dX4_markWithin_68 : decode cX4_markWithin 68 = .ok (.iaload, 1) := by decide +kernel
theorem dX4_markWithin_69 : decode cX4_markWithin 69 = .ok (.invokevirtual 52, 3) := by decide +kernel
theorem dX4_markWithin_72 : decode cX4_markWithin 72 = .ok (.ifCond .eq 43, 3) := by decide +kernel
theorem dX4_markWithin_75 : decode cX4_markWithin 75 = .ok (.iload_n 2, 1) := by decide +kernel
theorem dX4_markWithin_76 : decode cX4_markWithin 76 = .ok (.iconst 2, 1) := by decide +kernel
theorem dX4_markWithin_77 : decode cX4_markWithin 77 = .ok (.iadd, 1) := by decide +kernel
theorem dX4_markWithin_78 : decode cX4_markWithin 78 = .ok (.sipush 5208, 3) := by decide +kernel
theorem dX4_markWithin_81 : decode cX4_markWithin 81 = .ok (.if_icmp .gt 34, 3) := by decide +kernel
theorem dX4_markWithin_84 : decode cX4_markWithin 84 = .ok (.aload_n 0, 1) := by decide +kernel
theorem dX4_markWithin_85 : decode cX4_markWithin 85 = .ok (.getfield 24, 3) := by decide +kernel
theorem dX4_markWithin_88 : decode cX4_markWithin 88 = .ok (.iload_n 2, 1) := by decide +kernel
theorem dX4_markWithin_89 : decode cX4_markWithin 89 = .ok (.aload_n 0, 1) := by decide +kernel
theorem dX4_markWithin_90 : decode cX4_markWithin 90 = .ok (.getfield 18, 3) := by decide +kernel
theorem dX4_markWithin_93 : decode cX4_markWithin 93 = .ok (.iload 4, 2) := by decide +kernel
theorem dX4_markWithin_95 : decode cX4_markWithin 95 = .ok (.iaload, 1) := by decide +kernel
theorem dX4_markWithin_96 : decode cX4_markWithin 96 = .ok (.iastore, 1) := by decide +kernel
theorem dX4_markWithin_97 : decode cX4_markWithin 97 = .ok (.aload_n 0, 1) := by decide +kernel
theorem dX4_markWithin_98 : decode cX4_markWithin 98 = .ok (.getfield 24, 3) := by decide +kernel
theorem dX4_markWithin_101 : decode cX4_markWithin 101 = .ok (.iload_n 2, 1) := by decide +kernel
theorem dX4_markWithin_102 : decode cX4_markWithin 102 = .ok (.iconst 1, 1) := by decide +kernel
theorem dX4_markWithin_103 : decode cX4_markWithin 103 = .ok (.iadd, 1) := by decide +kernel
theorem dX4_markWithin_104 : decode cX4_markWithin 104 = .ok (.aload_n 0, 1) := by decide +kernel
theorem dX4_markWithin_105 : decode cX4_markWithin 105 = .ok (.getfield 15, 3) := by decide +kernel
theorem dX4_markWithin_108 : decode cX4_markWithin 108 = .ok (.iload 4, 2) := by decide +kernel
theorem dX4_markWithin_110 : decode cX4_markWithin 110 = .ok (.iaload, 1) := by decide +kernel
theorem dX4_markWithin_111 : decode cX4_markWithin 111 = .ok (.iastore, 1) := by decide +kernel
theorem dX4_markWithin_112 : decode cX4_markWithin 112 = .ok (.iinc 2 2, 3) := by decide +kernel
theorem dX4_markWithin_115 : decode cX4_markWithin 115 = .ok (.iinc 3 1, 3) := by decide +kernel
theorem dX4_markWithin_118 : decode cX4_markWithin 118 = .ok (.goto (-107), 3) := by decide +kernel
theorem dX4_markWithin_121 : decode cX4_markWithin 121 = .ok (.return_, 1) := by decide +kernel
theorem dX4_putPair_0 : decode cX4_putPair 0 = .ok (.iload_n 1, 1) := by decide +kernel
theorem dX4_putPair_1 : decode cX4_putPair 1 = .ok (.ifCond .lt 10, 3) := by decide +kernel
theorem dX4_putPair_4 : decode cX4_putPair 4 = .ok (.iload_n 1, 1) := by decide +kernel
theorem dX4_putPair_5 : decode cX4_putPair 5 = .ok (.sipush 5208, 3) := by decide +kernel
theorem dX4_putPair_8 : decode cX4_putPair 8 = .ok (.if_icmp .lt 5, 3) := by decide +kernel
theorem dX4_putPair_11 : decode cX4_putPair 11 = .ok (.iload_n 1, 1) := by decide +kernel
theorem dX4_putPair_12 : decode cX4_putPair 12 = .ok (.ireturn, 1) := by decide +kernel
theorem dX4_putPair_13 : decode cX4_putPair 13 = .ok (.aload_n 0, 1) := by decide +kernel
theorem dX4_putPair_14 : decode cX4_putPair 14 = .ok (.getfield 27, 3) := by decide +kernel
theorem dX4_putPair_17 : decode cX4_putPair 17 = .ok (.iload_n 1, 1) := by decide +kernel
theorem dX4_putPair_18 : decode cX4_putPair 18 = .ok (.iload_n 2, 1) := by decide +kernel
theorem dX4_putPair_19 : decode cX4_putPair 19 = .ok (.iastore, 1) := by decide +kernel
theorem dX4_putPair_20 : decode cX4_putPair 20 = .ok (.aload_n 0, 1) := by decide +kernel
theorem dX4_putPair_21 : decode cX4_putPair 21 = .ok (.getfield 30, 3) := by decide +kernel
theorem dX4_putPair_24 : decode cX4_putPair 24 = .ok (.iload_n 1, 1) := by decide +kernel
theorem dX4_putPair_25 : decode cX4_putPair 25 = .ok (.iload_n 3, 1) := by decide +kernel
theorem dX4_putPair_26 : decode cX4_putPair 26 = .ok (.iastore, 1) := by decide +kernel
theorem dX4_putPair_27 : decode cX4_putPair 27 = .ok (.iload_n 1, 1) := by decide +kernel
theorem dX4_putPair_28 : decode cX4_putPair 28 = .ok (.iconst 1, 1) := by decide +kernel
theorem dX4_putPair_29 : decode cX4_putPair 29 = .ok (.iadd, 1) := by decide +kernel
theorem dX4_putPair_30 : decode cX4_putPair 30 = .ok (.ireturn, 1) := by decide +kernel
theorem dX4_give_0 : decode cX4_give 0 = .ok (.aload_n 0, 1) := by decide +kernel
theorem dX4_give_1 : decode cX4_give 1 = .ok (.iload_n 2, 1) := by decide +kernel
theorem dX4_give_2 : decode cX4_give 2 = .ok (.invokevirtual 48, 3) := by decide +kernel
theorem dX4_give_5 : decode cX4_give 5 = .ok (.istore_n 3, 1) := by decide +kernel
theorem dX4_give_6 : decode cX4_give 6 = .ok (.iload_n 1, 1) := by decide +kernel
theorem dX4_give_7 : decode cX4_give 7 = .ok (.ifCond .lt 29, 3) := by decide +kernel
theorem dX4_give_10 : decode cX4_give 10 = .ok (.iload_n 1, 1) := by decide +kernel
theorem dX4_give_11 : decode cX4_give 11 = .ok (.sipush 2600, 3) := by decide +kernel
theorem dX4_give_14 : decode cX4_give 14 = .ok (.if_icmp .ge 22, 3) := by decide +kernel
theorem dX4_give_17 : decode cX4_give 17 = .ok (.iload_n 1, 1) := by decide +kernel
theorem dX4_give_18 : decode cX4_give 18 = .ok (.iload_n 3, 1) := by decide +kernel
theorem dX4_give_19 : decode cX4_give 19 = .ok (.if_icmp .eq 17, 3) := by decide +kernel
theorem dX4_give_22 : decode cX4_give 22 = .ok (.aload_n 0, 1) := by decide +kernel
theorem dX4_give_23 : decode cX4_give 23 = .ok (.getfield 11, 3) := by decide +kernel
theorem dX4_give_26 : decode cX4_give 26 = .ok (.iload_n 1, 1) := by decide +kernel
theorem dX4_give_27 : decode cX4_give 27 = .ok (.iconst 5, 1) := by decide +kernel
theorem dX4_give_28 : decode cX4_give 28 = .ok (.iastore, 1) := by decide +kernel
theorem dX4_give_29 : decode cX4_give 29 = .ok (.aload_n 0, 1) := by decide +kernel
theorem dX4_give_30 : decode cX4_give 30 = .ok (.getfield 15, 3) := by decide +kernel
theorem dX4_give_33 : decode cX4_give 33 = .ok (.iload_n 1, 1) := by decide +kernel
theorem dX4_give_34 : decode cX4_give 34 = .ok (.iload_n 3, 1) := by decide +kernel
theorem dX4_give_35 : decode cX4_give 35 = .ok (.iastore, 1) := by decide +kernel
theorem dX4_give_36 : decode cX4_give 36 = .ok (.return_, 1) := by decide +kernel
theorem dX4_match_0 : decode cX4_match 0 = .ok (.aload_n 0, 1) := by decide +kernel
theorem dX4_match_1 : decode cX4_match 1 = .ok (.iconst 0, 1) := by decide +kernel
theorem dX4_match_2 : decode cX4_match 2 = .ok (.iload_n 1, 1) := by decide +kernel
theorem dX4_match_3 : decode cX4_match 3 = .ok (.iload_n 2, 1) := by decide +kernel
theorem dX4_match_4 : decode cX4_match 4 = .ok (.invokevirtual 56, 3) := by decide +kernel
theorem dX4_match_7 : decode cX4_match 7 = .ok (.istore_n 3, 1) := by decide +kernel
theorem dX4_match_8 : decode cX4_match 8 = .ok (.iconst 0, 1) := by decide +kernel
theorem dX4_match_9 : decode cX4_match 9 = .ok (.istore 4, 2) := by decide +kernel
theorem dX4_match_11 : decode cX4_match 11 = .ok (.iload_n 3, 1) := by decide +kernel
theorem dX4_match_12 : decode cX4_match 12 = .ok (.ifCond .le 249, 3) := by decide +kernel
theorem dX4_match_15 : decode cX4_match 15 = .ok (.iload 4, 2) := by decide +kernel
theorem dX4_match_17 : decode cX4_match 17 = .ok (.ldc 47, 2) := by decide +kernel
theorem dX4_match_19 : decode cX4_match 19 = .ok (.if_icmp .ge 242, 3) := by decide +kernel
theorem dX4_match_22 : decode cX4_match 22 = .ok (.iinc 3 (-1), 3) := by decide +kernel
theorem dX4_match_25 : decode cX4_match 25 = .ok (.aload_n 0, 1) := by decide +kernel
theorem dX4_match_26 : decode cX4_match 26 = .ok (.getfield 27, 3) := by decide +kernel
theorem dX4_match_29 : decode cX4_match 29 = .ok (.iload_n 3, 1) := by decide +kernel
theorem dX4_match_30 : decode cX4_match 30 = .ok (.iaload, 1) := by decide +kernel
theorem dX4_match_31 : decode cX4_match 31 = .ok (.ifCond .ge 24, 3) := by decide +kernel
theorem dX4_match_34 : decode cX4_match 34 = .ok (.aload_n 0, 1) := by decide +kernel
theorem dX4_match_35 : decode cX4_match 35 = .ok (.iconst (-1), 1) := by decide +kernel
theorem dX4_match_36 : decode cX4_match 36 = .ok (.aload_n 0, 1) := by decide +kernel
theorem dX4_match_37 : decode cX4_match 37 = .ok (.getfield 27, 3) := by decide +kernel
theorem dX4_match_40 : decode cX4_match 40 = .ok (.iload_n 3, 1) := by decide +kernel
theorem dX4_match_41 : decode cX4_match 41 = .ok (.iaload, 1) := by decide +kernel
theorem dX4_match_42 : decode cX4_match 42 = .ok (.isub, 1) := by decide +kernel
theorem dX4_match_43 : decode cX4_match 43 = .ok (.aload_n 0, 1) := by decide +kernel
theorem dX4_match_44 : decode cX4_match 44 = .ok (.getfield 30, 3) := by decide +kernel
theorem dX4_match_47 : decode cX4_match 47 = .ok (.iload_n 3, 1) := by decide +kernel
theorem dX4_match_48 : decode cX4_match 48 = .ok (.iaload, 1) := by decide +kernel
theorem dX4_match_49 : decode cX4_match 49 = .ok (.invokevirtual 59, 3) := by decide +kernel
theorem dX4_match_52 : decode cX4_match 52 = .ok (.goto 203, 3) := by decide +kernel
theorem dX4_match_55 : decode cX4_match 55 = .ok (.aload_n 0, 1) := by decide +kernel
theorem dX4_match_56 : decode cX4_match 56 = .ok (.aload_n 0, 1) := by decide +kernel
theorem dX4_match_57 : decode cX4_match 57 = .ok (.getfield 27, 3) := by decide +kernel
theorem dX4_match_60 : decode cX4_match 60 = .ok (.iload_n 3, 1) := by decide +kernel
theorem dX4_match_61 : decode cX4_match 61 = .ok (.iaload, 1) := by decide +kernel
theorem dX4_match_62 : decode cX4_match 62 = .ok (.invokevirtual 48, 3) := by decide +kernel
theorem dX4_match_65 : decode cX4_match 65 = .ok (.istore 5, 2) := by decide +kernel
theorem dX4_match_67 : decode cX4_match 67 = .ok (.aload_n 0, 1) := by decide +kernel
theorem dX4_match_68 : decode cX4_match 68 = .ok (.aload_n 0, 1) := by decide +kernel
theorem dX4_match_69 : decode cX4_match 69 = .ok (.getfield 30, 3) := by decide +kernel
theorem dX4_match_72 : decode cX4_match 72 = .ok (.iload_n 3, 1) := by decide +kernel
theorem dX4_match_73 : decode cX4_match 73 = .ok (.iaload, 1) := by decide +kernel
theorem dX4_match_74 : decode cX4_match 74 = .ok (.invokevirtual 48, 3) := by decide +kernel
theorem dX4_match_77 : decode cX4_match 77 = .ok (.istore 6, 2) := by decide +kernel
theorem dX4_match_79 : decode cX4_match 79 = .ok (.iload 5, 2) := by decide +kernel
theorem dX4_match_81 : decode cX4_match 81 = .ok (.iload 6, 2) := by decide +kernel
theorem dX4_match_83 : decode cX4_match 83 = .ok (.if_icmp .ne 6, 3) := by decide +kernel
theorem dX4_match_86 : decode cX4_match 86 = .ok (.goto 169, 3) := by decide +kernel
theorem dX4_match_89 : decode cX4_match 89 = .ok (.aload_n 0, 1) := by decide +kernel
theorem dX4_match_90 : decode cX4_match 90 = .ok (.getfield 11, 3) := by decide +kernel
theorem dX4_match_93 : decode cX4_match 93 = .ok (.iload 5, 2) := by decide +kernel
theorem dX4_match_95 : decode cX4_match 95 = .ok (.iaload, 1) := by decide +kernel
theorem dX4_match_96 : decode cX4_match 96 = .ok (.iconst 4, 1) := by decide +kernel
theorem dX4_match_97 : decode cX4_match 97 = .ok (.if_icmp .eq 14, 3) := by decide +kernel
theorem dX4_match_100 : decode cX4_match 100 = .ok (.aload_n 0, 1) := by decide +kernel
theorem dX4_match_101 : decode cX4_match 101 = .ok (.getfield 11, 3) := by decide +kernel
theorem dX4_match_104 : decode cX4_match 104 = .ok (.iload 6, 2) := by decide +kernel
theorem dX4_match_106 : decode cX4_match 106 = .ok (.iaload, 1) := by decide +kernel
theorem dX4_match_107 : decode cX4_match 107 = .ok (.iconst 4, 1) := by decide +kernel
theorem dX4_match_108 : decode cX4_match 108 = .ok (.if_icmp .ne 76, 3) := by decide +kernel
theorem dX4_match_111 : decode cX4_match 111 = .ok (.aload_n 0, 1) := by decide +kernel
theorem dX4_match_112 : decode cX4_match 112 = .ok (.getfield 11, 3) := by decide +kernel
theorem dX4_match_115 : decode cX4_match 115 = .ok (.iload 5, 2) := by decide +kernel
theorem dX4_match_117 : decode cX4_match 117 = .ok (.iaload, 1) := by decide +kernel
theorem dX4_match_118 : decode cX4_match 118 = .ok (.iconst 4, 1) := by decide +kernel
theorem dX4_match_119 : decode cX4_match 119 = .ok (.if_icmp .ne 8, 3) := by decide +kernel
theorem dX4_match_122 : decode cX4_match 122 = .ok (.iload 5, 2) := by decide +kernel
theorem dX4_match_124 : decode cX4_match 124 = .ok (.goto 5, 3) := by decide +kernel
theorem dX4_match_127 : decode cX4_match 127 = .ok (.iload 6, 2) := by decide +kernel
theorem dX4_match_129 : decode cX4_match 129 = .ok (.istore 7, 2) := by decide +kernel
theorem dX4_match_131 : decode cX4_match 131 = .ok (.iload 7, 2) := by decide +kernel
theorem dX4_match_133 : decode cX4_match 133 = .ok (.iload 5, 2) := by decide +kernel
theorem dX4_match_135 : decode cX4_match 135 = .ok (.if_icmp .ne 8, 3) := by decide +kernel
theorem dX4_match_138 : decode cX4_match 138 = .ok (.iload 6, 2) := by decide +kernel
theorem dX4_match_140 : decode cX4_match 140 = .ok (.goto 5, 3) := by decide +kernel
theorem dX4_match_143 : decode cX4_match 143 = .ok (.iload 5, 2) := by decide +kernel
theorem dX4_match_145 : decode cX4_match 145 = .ok (.istore 8, 2) := by decide +kernel
theorem dX4_match_147 : decode cX4_match 147 = .ok (.aload_n 0, 1) := by decide +kernel
theorem dX4_match_148 : decode cX4_match 148 = .ok (.invokevirtual 63, 3) := by decide +kernel
theorem dX4_match_151 : decode cX4_match 151 = .ok (.aload_n 0, 1) := by decide +kernel
theorem dX4_match_152 : decode cX4_match 152 = .ok (.iload 8, 2) := by decide +kernel
theorem dX4_match_154 : decode cX4_match 154 = .ok (.invokevirtual 66, 3) := by decide +kernel
theorem dX4_match_157 : decode cX4_match 157 = .ok (.aload_n 0, 1) := by decide +kernel
theorem dX4_match_158 : decode cX4_match 158 = .ok (.getfield 21, 3) := by decide +kernel
theorem dX4_match_161 : decode cX4_match 161 = .ok (.iload 7, 2) := by decide +kernel
theorem dX4_match_163 : decode cX4_match 163 = .ok (.iaload, 1) := by decide +kernel
theorem dX4_match_164 : decode cX4_match 164 = .ok (.aload_n 0, 1) := by decide +kernel
theorem dX4_match_165 : decode cX4_match 165 = .ok (.getfield 44, 3) := by decide +kernel
theorem dX4_match_168 : decode cX4_match 168 = .ok (.if_icmp .ne 5, 3) := by decide +kernel
theorem dX4_match_171 : decode cX4_match 171 = .ok (.iconst 3, 1) := by decide +kernel
theorem dX4_match_172 : decode cX4_match 172 = .ok (.ireturn, 1) := by decide +kernel
theorem dX4_match_173 : decode cX4_match 173 = .ok (.aload_n 0, 1) := by decide +kernel
theorem dX4_match_174 : decode cX4_match 174 = .ok (.iload 7, 2) := by decide +kernel
theorem dX4_match_176 : decode cX4_match 176 = .ok (.iload 8, 2) := by decide +kernel
theorem dX4_match_178 : decode cX4_match 178 = .ok (.invokevirtual 59, 3) := by decide +kernel
theorem dX4_match_181 : decode cX4_match 181 = .ok (.goto 74, 3) := by decide +kernel
theorem dX4_match_184 : decode cX4_match 184 = .ok (.aload_n 0, 1) := by decide +kernel
theorem dX4_match_185 : decode cX4_match 185 = .ok (.getfield 11, 3) := by decide +kernel
theorem dX4_match_188 : decode cX4_match 188 = .ok (.iload 5, 2) := by decide +kernel
theorem dX4_match_190 : decode cX4_match 190 = .ok (.iaload, 1) := by decide +kernel
theorem dX4_match_191 : decode cX4_match 191 = .ok (.aload_n 0, 1) := by decide +kernel
theorem dX4_match_192 : decode cX4_match 192 = .ok (.getfield 11, 3) := by decide +kernel
theorem dX4_match_195 : decode cX4_match 195 = .ok (.iload 6, 2) := by decide +kernel
theorem dX4_match_197 : decode cX4_match 197 = .ok (.iaload, 1) := by decide +kernel
theorem dX4_match_198 : decode cX4_match 198 = .ok (.if_icmp .eq 5, 3) := by decide +kernel
theorem dX4_match_201 : decode cX4_match 201 = .ok (.iconst 2, 1) := by decide +kernel
theorem dX4_match_202 : decode cX4_match 202 = .ok (.ireturn, 1) := by decide +kernel
theorem dX4_match_203 : decode cX4_match 203 = .ok (.aload_n 0, 1) := by decide +kernel
theorem dX4_match_204 : decode cX4_match 204 = .ok (.iload_n 3, 1) := by decide +kernel
theorem dX4_match_205 : decode cX4_match 205 = .ok (.iconst (-1), 1) := by decide +kernel
theorem dX4_match_206 : decode cX4_match 206 = .ok (.iload 5, 2) := by decide +kernel
theorem dX4_match_208 : decode cX4_match 208 = .ok (.isub, 1) := by decide +kernel
theorem dX4_match_209 : decode cX4_match 209 = .ok (.iload 6, 2) := by decide +kernel
theorem dX4_match_211 : decode cX4_match 211 = .ok (.invokevirtual 56, 3) := by decide +kernel
theorem dX4_match_214 : decode cX4_match 214 = .ok (.istore_n 3, 1) := by decide +kernel
theorem dX4_match_215 : decode cX4_match 215 = .ok (.aload_n 0, 1) := by decide +kernel
theorem dX4_match_216 : decode cX4_match 216 = .ok (.iload_n 3, 1) := by decide +kernel
theorem dX4_match_217 : decode cX4_match 217 = .ok (.aload_n 0, 1) := by decide +kernel
theorem dX4_match_218 : decode cX4_match 218 = .ok (.getfield 18, 3) := by decide +kernel
theorem dX4_match_221 : decode cX4_match 221 = .ok (.iload 5, 2) := by decide +kernel
theorem dX4_match_223 : decode cX4_match 223 = .ok (.iaload, 1) := by decide +kernel
theorem dX4_match_224 : decode cX4_match 224 = .ok (.aload_n 0, 1) := by decide +kernel
theorem dX4_match_225 : decode cX4_match 225 = .ok (.getfield 18, 3) := by decide +kernel
theorem dX4_match_228 : decode cX4_match 228 = .ok (.iload 6, 2) := by decide +kernel
theorem dX4_match_230 : decode cX4_match 230 = .ok (.iaload, 1) := by decide +kernel
theorem dX4_match_231 : decode cX4_match 231 = .ok (.invokevirtual 56, 3) := by decide +kernel
theorem dX4_match_234 : decode cX4_match 234 = .ok (.istore_n 3, 1) := by decide +kernel
theorem dX4_match_235 : decode cX4_match 235 = .ok (.aload_n 0, 1) := by decide +kernel
theorem dX4_match_236 : decode cX4_match 236 = .ok (.iload_n 3, 1) := by decide +kernel
theorem dX4_match_237 : decode cX4_match 237 = .ok (.aload_n 0, 1) := by decide +kernel
theorem dX4_match_238 : decode cX4_match 238 = .ok (.getfield 15, 3) := by decide +kernel
theorem dX4_match_241 : decode cX4_match 241 = .ok (.iload 5, 2) := by decide +kernel
theorem dX4_match_243 : decode cX4_match 243 = .ok (.iaload, 1) := by decide +kernel
theorem dX4_match_244 : decode cX4_match 244 = .ok (.aload_n 0, 1) := by decide +kernel
theorem dX4_match_245 : decode cX4_match 245 = .ok (.getfield 15, 3) := by decide +kernel
theorem dX4_match_248 : decode cX4_match 248 = .ok (.iload 6, 2) := by decide +kernel
theorem dX4_match_250 : decode cX4_match 250 = .ok (.iaload, 1) := by decide +kernel
theorem dX4_match_251 : decode cX4_match 251 = .ok (.invokevirtual 56, 3) := by decide +kernel
theorem dX4_match_254 : decode cX4_match 254 = .ok (.istore_n 3, 1) := by decide +kernel
theorem dX4_match_255 : decode cX4_match 255 = .ok (.iinc 4 1, 3) := by decide +kernel
theorem dX4_match_258 : decode cX4_match 258 = .ok (.goto (-247), 3) := by decide +kernel
theorem dX4_match_261 : decode cX4_match 261 = .ok (.iconst 0, 1) := by decide +kernel
theorem dX4_match_262 : decode cX4_match 262 = .ok (.ireturn, 1) := by decide +kernel
section T4
variable {p : Program} {l : Launch} {e : Env} {R : Room} {s : State} {m : MethodId} {args : Array Value} {below : List Frame} {meth : Method} {c : Code} {D : va_G} {g : gT} {N : Nat} {ad ln : Nat → Nat}
def mX4_make_b17 (A : gM) : Option (gM × Int32) :=
  some (A, 0)
def mX4_make_b0 (A : gM) (x1 : Int32) (x2 : Int32) (x3 : Int32) : Option (gM × Int32) :=
  if (A 129 9) < 0 then
  mX4_make_b17 A
  else
  if (A 129 9) < 2600 then
  if g_in (A 129 9) 2600 = true then g_let (g_up A 130 (A 129 9).toNatClampNeg x1) fun A4 =>
  if g_in (A4 129 9) 2600 = true then g_let (g_up A4 131 (A4 129 9).toNatClampNeg x2) fun A6 =>
  if g_in (A6 129 9) 2600 = true then g_let (g_up A6 132 (A6 129 9).toNatClampNeg x3) fun A8 =>
  g_let (g_up A8 129 9 ((A8 129 9) + 1)) fun A9 =>
  some (A9, ((A9 129 9) - 1))
  else none
  else none
  else none
  else
  mX4_make_b17 A
def mX4_make (A : gM) (x1 : Int32) (x2 : Int32) (x3 : Int32) : Option (gM × Int32) := mX4_make_b0 A x1 x2 x3
set_option maxHeartbeats 2000000 in
set_option maxRecDepth 20000 in
theorem wX4_make_b17 (hN : 183 ≤ N) {A0 A' : gM} {r : Int32} (C : gC p R s m args meth c cX4_make RX4 4 D g (va_A (gw g ad ln A0 N) s.heap.size) 0) (hr : meth.sig.returnType = some .int)  {A : gM} (h : mX4_make_b17 A = some (A', r)) : gJ p l e R s m args below meth c (gEi below D g N ad ln A0 A' r args s) 4 D g (va_A (gw g ad ln A0 N) s.heap.size) N ad ln A [] 0 0 17 [] := by
  unfold mX4_make_b17 at h
  refine g_iconst (v := 0) C dX4_make_17 (by decide) ?_
  obtain ⟨rfl, rfl⟩ := Prod.mk.inj (Option.some.inj h)
  exact g_reti C hr dX4_make_18

set_option maxHeartbeats 2000000 in
set_option maxRecDepth 20000 in
theorem wX4_make_b0 (hN : 183 ≤ N) {A0 A' : gM} {r : Int32} (C : gC p R s m args meth c cX4_make RX4 4 D g (va_A (gw g ad ln A0 N) s.heap.size) 0) (hr : meth.sig.returnType = some .int)  {A : gM} {x1 : Int32} {x2 : Int32} {x3 : Int32} (h : mX4_make_b0 A x1 x2 x3 = some (A', r)) : gJ p l e R s m args below meth c (gEi below D g N ad ln A0 A' r args s) 4 D g (va_A (gw g ad ln A0 N) s.heap.size) N ad ln A [(0, gr 129), (1, gi x1), (2, gi x2), (3, gi x3)] 0 0 0 [] := by
  unfold mX4_make_b0 at h
  refine g_aload_n C 0 dX4_make_0 rfl ?_
  refine g_get (v := gi (A 129 9)) C 129 9 (by omega) rfl rfl gu_4 (by decide) qf_X4_36 rfl dX4_make_1 ?_
  refine g_if_lt C dX4_make_4 (tgt := 17) (by decide) (fun c1 => ?_) (fun c1 => ?_)
  · have h := g_tt c1 h
    refine g_sub [] rfl ?_
    exact wX4_make_b17 hN C hr h
  · have h := g_ff c1 h
    refine g_aload_n C 0 dX4_make_7 rfl ?_
    refine g_get (v := gi (A 129 9)) C 129 9 (by omega) rfl rfl gu_4 (by decide) qf_X4_36 rfl dX4_make_8 ?_
    refine g_sipush (v := 2600) C dX4_make_11 (by decide) ?_
    refine g_icmp_lt C dX4_make_14 (tgt := 19) (by decide) (fun c2 => ?_) (fun c2 => ?_)
    · have h := g_tt c2 h
      refine g_aload_n C 0 dX4_make_19 rfl ?_
      refine g_get (v := gr 130) C 129 0 (by omega) rfl rfl gu_4 (by decide) qf_X4_11 rfl dX4_make_20 ?_
      refine g_aload_n C 0 dX4_make_23 rfl ?_
      refine g_get (v := gi (A 129 9)) C 129 9 (by omega) rfl rfl gu_4 (by decide) qf_X4_36 rfl dX4_make_24 ?_
      refine g_iload_n C 1 dX4_make_27 rfl ?_
      obtain ⟨hg3, h⟩ := g_gd h
      obtain ⟨A4, eA4, h⟩ := g_lt h
      refine g_iast C 130 (by omega) rfl rfl hg3 eA4 dX4_make_28 ?_
      refine g_aload_n C 0 dX4_make_29 rfl ?_
      refine g_get (v := gr 131) C 129 1 (by omega) rfl rfl gu_4 (by decide) qf_X4_15 rfl dX4_make_30 ?_
      refine g_aload_n C 0 dX4_make_33 rfl ?_
      refine g_get (v := gi (A4 129 9)) C 129 9 (by omega) rfl rfl gu_4 (by decide) qf_X4_36 rfl dX4_make_34 ?_
      refine g_iload_n C 2 dX4_make_37 rfl ?_
      obtain ⟨hg5, h⟩ := g_gd h
      obtain ⟨A6, eA6, h⟩ := g_lt h
      refine g_iast C 131 (by omega) rfl rfl hg5 eA6 dX4_make_38 ?_
      refine g_aload_n C 0 dX4_make_39 rfl ?_
      refine g_get (v := gr 132) C 129 2 (by omega) rfl rfl gu_4 (by decide) qf_X4_18 rfl dX4_make_40 ?_
      refine g_aload_n C 0 dX4_make_43 rfl ?_
      refine g_get (v := gi (A6 129 9)) C 129 9 (by omega) rfl rfl gu_4 (by decide) qf_X4_36 rfl dX4_make_44 ?_
      refine g_iload_n C 3 dX4_make_47 rfl ?_
      obtain ⟨hg7, h⟩ := g_gd h
      obtain ⟨A8, eA8, h⟩ := g_lt h
      refine g_iast C 132 (by omega) rfl rfl hg7 eA8 dX4_make_48 ?_
      refine g_aload_n C 0 dX4_make_49 rfl ?_
      refine g_dup_r C dX4_make_50 ?_
      refine g_get (v := gi (A8 129 9)) C 129 9 (by omega) rfl rfl gu_4 (by decide) qf_X4_36 rfl dX4_make_51 ?_
      refine g_iconst (v := 1) C dX4_make_54 (by decide) ?_
      refine g_iadd C dX4_make_55 ?_
      obtain ⟨A9, eA9, h⟩ := g_lt h
      refine g_put C 129 9 tyX4 tyX4_ok nmX4 (by omega) rfl rfl gu_4 (by decide) qf_X4_36 rfl (by decide +kernel) (Nat.le_of_ble_eq_true rfl) rfl eA9 dX4_make_56 ?_
      refine g_aload_n C 0 dX4_make_59 rfl ?_
      refine g_get (v := gi (A9 129 9)) C 129 9 (by omega) rfl rfl gu_4 (by decide) qf_X4_36 rfl dX4_make_60 ?_
      refine g_iconst (v := 1) C dX4_make_63 (by decide) ?_
      refine g_isub C dX4_make_64 ?_
      obtain ⟨rfl, rfl⟩ := Prod.mk.inj (Option.some.inj h)
      exact g_reti C hr dX4_make_65
    · have h := g_ff c2 h
      refine g_sub [] rfl ?_
      exact wX4_make_b17 hN C hr h

set_option maxHeartbeats 2000000 in
set_option maxRecDepth 20000 in
theorem kX4_make {l : Launch} {D : va_G} {g : gT} {N : Nat} {ad ln : Nat → Nat} (hN : 183 ≤ N) {A A' : gM} {x1 : Int32} {x2 : Int32} {x3 : Int32} {r : Int32} (h : mX4_make A x1 x2 x3 = some (A', r)) : gKi l yX4_make cX4_make 4 (some .int) (0) D g N ad ln A [gr 129, gi x1, gi x2, gi x3] A' r := by
  refine g_meti (by decide) (Nat.le_of_ble_eq_true rfl) ?_
  intro p e s m args below meth c C hr
  refine g_sub [0, 1, 2, 3] rfl ?_
  exact wX4_make_b0 hN C hr h
def mX4_newVariable_b0 (A : gM) : Option (gM × Int32) :=
  (mX4_make A 4 (-1) (-1)).bind fun q1 =>
  some (q1.1, q1.2)
def mX4_newVariable (A : gM) : Option (gM × Int32) := mX4_newVariable_b0 A
set_option maxHeartbeats 2000000 in
set_option maxRecDepth 20000 in
theorem wX4_newVariable_b0 (hN : 183 ≤ N) {A0 A' : gM} {r : Int32} (C : gC p R s m args meth c cX4_newVariable RX4 1 D g (va_A (gw g ad ln A0 N) s.heap.size) 1) (hr : meth.sig.returnType = some .int)  {A : gM} (h : mX4_newVariable_b0 A = some (A', r)) : gJ p l e R s m args below meth c (gEi below D g N ad ln A0 A' r args s) 1 D g (va_A (gw g ad ln A0 N) s.heap.size) N ad ln A [(0, gr 129)] 0 0 0 [] := by
  unfold mX4_newVariable_b0 at h
  refine g_aload_n C 0 dX4_newVariable_0 rfl ?_
  refine g_iconst (v := 4) C dX4_newVariable_1 (by decide) ?_
  refine g_iconst (v := (-1)) C dX4_newVariable_2 (by decide) ?_
  refine g_iconst (v := (-1)) C dX4_newVariable_3 (by decide) ?_
  obtain ⟨q1, eq1, h⟩ := g_bd h
  refine g_calliV C 129 [gi 4, gi (-1), gi (-1)] (kX4_make hN eq1) qs_X4_40 (by omega) (by omega) rfl rfl rfl rfl (Nat.le_of_ble_eq_true rfl) ⟨Nat.zero_le _, Nat.zero_le _⟩ dX4_newVariable_4 ?_
  obtain ⟨rfl, rfl⟩ := Prod.mk.inj (Option.some.inj h)
  exact g_reti C hr dX4_newVariable_7

set_option maxHeartbeats 2000000 in
set_option maxRecDepth 20000 in
theorem kX4_newVariable {l : Launch} {D : va_G} {g : gT} {N : Nat} {ad ln : Nat → Nat} (hN : 183 ≤ N) {A A' : gM} {r : Int32} (h : mX4_newVariable A = some (A', r)) : gKi l yX4_newVariable cX4_newVariable 1 (some .int) (1) D g N ad ln A [gr 129] A' r := by
  refine g_meti (by decide) (Nat.le_of_ble_eq_true rfl) ?_
  intro p e s m args below meth c C hr
  refine g_sub [0] rfl ?_
  exact wX4_newVariable_b0 hN C hr h
def mX4_codeOfNode_b0 (A : gM) (x1 : Int32) : Option (gM × Int32) :=
  some (A, (100 + x1))
def mX4_codeOfNode (A : gM) (x1 : Int32) : Option (gM × Int32) := mX4_codeOfNode_b0 A x1
set_option maxHeartbeats 2000000 in
set_option maxRecDepth 20000 in
theorem wX4_codeOfNode_b0 (hN : 183 ≤ N) {A0 A' : gM} {r : Int32} (C : gC p R s m args meth c cX4_codeOfNode RX4 2 D g (va_A (gw g ad ln A0 N) s.heap.size) 0) (hr : meth.sig.returnType = some .int)  {A : gM} {x1 : Int32} (h : mX4_codeOfNode_b0 A x1 = some (A', r)) : gJ p l e R s m args below meth c (gEi below D g N ad ln A0 A' r args s) 2 D g (va_A (gw g ad ln A0 N) s.heap.size) N ad ln A [(1, gi x1)] 0 0 0 [] := by
  unfold mX4_codeOfNode_b0 at h
  refine g_bipush (v := 100) C dX4_codeOfNode_0 (by decide) ?_
  refine g_iload_n C 0 dX4_codeOfNode_2 rfl ?_
  refine g_iadd C dX4_codeOfNode_3 ?_
  obtain ⟨rfl, rfl⟩ := Prod.mk.inj (Option.some.inj h)
  exact g_reti C hr dX4_codeOfNode_4

set_option maxHeartbeats 2000000 in
set_option maxRecDepth 20000 in
theorem kX4_codeOfNode {l : Launch} {D : va_G} {g : gT} {N : Nat} {ad ln : Nat → Nat} (hN : 183 ≤ N) {A A' : gM} {x1 : Int32} {r : Int32} (h : mX4_codeOfNode A x1 = some (A', r)) : gKi l yX4_codeOfNode cX4_codeOfNode 2 (some .int) (0) D g N ad ln A [gr 129, gi x1] A' r := by
  refine g_meti (by decide) (Nat.le_of_ble_eq_true rfl) ?_
  intro p e s m args below meth c C hr
  refine g_sub [1] rfl ?_
  exact wX4_codeOfNode_b0 hN C hr h
def mX4_forgetMarks_b0 (A : gM) : Option (gM) :=
  g_let (g_up A 129 10 ((A 129 10) + 1)) fun A1 =>
  some A1
def mX4_forgetMarks (A : gM) : Option (gM) := mX4_forgetMarks_b0 A
set_option maxHeartbeats 2000000 in
set_option maxRecDepth 20000 in
theorem wX4_forgetMarks_b0 (hN : 183 ≤ N) {A0 A' : gM} (C : gC p R s m args meth c cX4_forgetMarks RX4 1 D g (va_A (gw g ad ln A0 N) s.heap.size) 0) (hr : meth.sig.returnType = none)  {A : gM} (h : mX4_forgetMarks_b0 A = some A') : gJ p l e R s m args below meth c (gEv below D g N ad ln A0 A' args s) 1 D g (va_A (gw g ad ln A0 N) s.heap.size) N ad ln A [(0, gr 129)] 0 0 0 [] := by
  unfold mX4_forgetMarks_b0 at h
  refine g_aload_n C 0 dX4_forgetMarks_0 rfl ?_
  refine g_dup_r C dX4_forgetMarks_1 ?_
  refine g_get (v := gi (A 129 10)) C 129 10 (by omega) rfl rfl gu_4 (by decide) qf_X4_44 rfl dX4_forgetMarks_2 ?_
  refine g_iconst (v := 1) C dX4_forgetMarks_5 (by decide) ?_
  refine g_iadd C dX4_forgetMarks_6 ?_
  obtain ⟨A1, eA1, h⟩ := g_lt h
  refine g_put C 129 10 tyX4 tyX4_ok nmX4 (by omega) rfl rfl gu_4 (by decide) qf_X4_44 rfl (by decide +kernel) (Nat.le_of_ble_eq_true rfl) rfl eA1 dX4_forgetMarks_7 ?_
  obtain rfl := Option.some.inj h
  exact g_retv C hr dX4_forgetMarks_10

set_option maxHeartbeats 2000000 in
set_option maxRecDepth 20000 in
theorem kX4_forgetMarks {l : Launch} {D : va_G} {g : gT} {N : Nat} {ad ln : Nat → Nat} (hN : 183 ≤ N) {A A' : gM} (h : mX4_forgetMarks A = some A') : gKv l yX4_forgetMarks cX4_forgetMarks 1 (none) (0) D g N ad ln A [gr 129] A' := by
  refine g_metv (by decide) (Nat.le_of_ble_eq_true rfl) ?_
  intro p e s m args below meth c C hr
  refine g_sub [0] rfl ?_
  exact wX4_forgetMarks_b0 hN C hr h
def mX4_isNode_b11 (A : gM) (s0 : Int32) : Option (gM × Int32) :=
  if s0 = 0 ∨ s0 = 1 then some (A, s0) else none
def mX4_isNode_b0 (A : gM) (x1 : Int32) : Option (gM × Int32) :=
  if x1 < 100 then
  mX4_isNode_b11 A 0
  else
  mX4_isNode_b11 A 1
def mX4_isNode (A : gM) (x1 : Int32) : Option (gM × Int32) := mX4_isNode_b0 A x1
set_option maxHeartbeats 2000000 in
set_option maxRecDepth 20000 in
theorem wX4_isNode_b11 (hN : 183 ≤ N) {A0 A' : gM} {r : Int32} (C : gC p R s m args meth c cX4_isNode RX4 2 D g (va_A (gw g ad ln A0 N) s.heap.size) 0) (hr : meth.sig.returnType = some .boolean)  {A : gM} {s0 : Int32} (h : mX4_isNode_b11 A s0 = some (A', r)) : gJ p l e R s m args below meth c (gEi below D g N ad ln A0 A' r args s) 2 D g (va_A (gw g ad ln A0 N) s.heap.size) N ad ln A [] 0 0 11 [gi s0] := by
  unfold mX4_isNode_b11 at h
  obtain ⟨hz1, h⟩ := g_gd h
  obtain ⟨rfl, rfl⟩ := Prod.mk.inj (Option.some.inj h)
  exact g_retz C hr hz1 dX4_isNode_11

set_option maxHeartbeats 2000000 in
set_option maxRecDepth 20000 in
theorem wX4_isNode_b0 (hN : 183 ≤ N) {A0 A' : gM} {r : Int32} (C : gC p R s m args meth c cX4_isNode RX4 2 D g (va_A (gw g ad ln A0 N) s.heap.size) 0) (hr : meth.sig.returnType = some .boolean)  {A : gM} {x1 : Int32} (h : mX4_isNode_b0 A x1 = some (A', r)) : gJ p l e R s m args below meth c (gEi below D g N ad ln A0 A' r args s) 2 D g (va_A (gw g ad ln A0 N) s.heap.size) N ad ln A [(1, gi x1)] 0 0 0 [] := by
  unfold mX4_isNode_b0 at h
  refine g_iload_n C 0 dX4_isNode_0 rfl ?_
  refine g_bipush (v := 100) C dX4_isNode_1 (by decide) ?_
  refine g_icmp_lt C dX4_isNode_3 (tgt := 10) (by decide) (fun c1 => ?_) (fun c1 => ?_)
  · have h := g_tt c1 h
    refine g_iconst (v := 0) C dX4_isNode_10 (by decide) ?_
    refine g_sub [] rfl ?_
    exact wX4_isNode_b11 hN C hr h
  · have h := g_ff c1 h
    refine g_iconst (v := 1) C dX4_isNode_6 (by decide) ?_
    refine g_goto C dX4_isNode_7 (tgt := 11) (by decide) ?_
    refine g_sub [] rfl ?_
    exact wX4_isNode_b11 hN C hr h

set_option maxHeartbeats 2000000 in
set_option maxRecDepth 20000 in
theorem kX4_isNode {l : Launch} {D : va_G} {g : gT} {N : Nat} {ad ln : Nat → Nat} (hN : 183 ≤ N) {A A' : gM} {x1 : Int32} {r : Int32} (h : mX4_isNode A x1 = some (A', r)) : gKi l yX4_isNode cX4_isNode 2 (some .boolean) (0) D g N ad ln A [gr 129, gi x1] A' r := by
  refine g_meti (by decide) (Nat.le_of_ble_eq_true rfl) ?_
  intro p e s m args below meth c C hr
  refine g_sub [1] rfl ?_
  exact wX4_isNode_b0 hN C hr h
def mX4_nodeOfCode_b0 (A : gM) (x1 : Int32) : Option (gM × Int32) :=
  some (A, (x1 - 100))
def mX4_nodeOfCode (A : gM) (x1 : Int32) : Option (gM × Int32) := mX4_nodeOfCode_b0 A x1
set_option maxHeartbeats 2000000 in
set_option maxRecDepth 20000 in
theorem wX4_nodeOfCode_b0 (hN : 183 ≤ N) {A0 A' : gM} {r : Int32} (C : gC p R s m args meth c cX4_nodeOfCode RX4 2 D g (va_A (gw g ad ln A0 N) s.heap.size) 0) (hr : meth.sig.returnType = some .int)  {A : gM} {x1 : Int32} (h : mX4_nodeOfCode_b0 A x1 = some (A', r)) : gJ p l e R s m args below meth c (gEi below D g N ad ln A0 A' r args s) 2 D g (va_A (gw g ad ln A0 N) s.heap.size) N ad ln A [(1, gi x1)] 0 0 0 [] := by
  unfold mX4_nodeOfCode_b0 at h
  refine g_iload_n C 0 dX4_nodeOfCode_0 rfl ?_
  refine g_bipush (v := 100) C dX4_nodeOfCode_1 (by decide) ?_
  refine g_isub C dX4_nodeOfCode_3 ?_
  obtain ⟨rfl, rfl⟩ := Prod.mk.inj (Option.some.inj h)
  exact g_reti C hr dX4_nodeOfCode_4

set_option maxHeartbeats 2000000 in
set_option maxRecDepth 20000 in
theorem kX4_nodeOfCode {l : Launch} {D : va_G} {g : gT} {N : Nat} {ad ln : Nat → Nat} (hN : 183 ≤ N) {A A' : gM} {x1 : Int32} {r : Int32} (h : mX4_nodeOfCode A x1 = some (A', r)) : gKi l yX4_nodeOfCode cX4_nodeOfCode 2 (some .int) (0) D g N ad ln A [gr 129, gi x1] A' r := by
  refine g_meti (by decide) (Nat.le_of_ble_eq_true rfl) ?_
  intro p e s m args below meth c C hr
  refine g_sub [1] rfl ?_
  exact wX4_nodeOfCode_b0 hN C hr h
def mX4_isPair_b15 (A : gM) (s0 : Int32) : Option (gM × Int32) :=
  if s0 = 0 ∨ s0 = 1 then some (A, s0) else none
def mX4_isPair_b10 (A : gM) : Option (gM × Int32) :=
  mX4_isPair_b15 A 1
def mX4_isPair_b0 (A : gM) (x1 : Int32) : Option (gM × Int32) :=
  if x1 = 2 then
  mX4_isPair_b10 A
  else
  if x1 = 3 then
  mX4_isPair_b10 A
  else
  mX4_isPair_b15 A 0
def mX4_isPair (A : gM) (x1 : Int32) : Option (gM × Int32) := mX4_isPair_b0 A x1
set_option maxHeartbeats 2000000 in
set_option maxRecDepth 20000 in
theorem wX4_isPair_b15 (hN : 183 ≤ N) {A0 A' : gM} {r : Int32} (C : gC p R s m args meth c cX4_isPair RX4 2 D g (va_A (gw g ad ln A0 N) s.heap.size) 0) (hr : meth.sig.returnType = some .boolean)  {A : gM} {s0 : Int32} (h : mX4_isPair_b15 A s0 = some (A', r)) : gJ p l e R s m args below meth c (gEi below D g N ad ln A0 A' r args s) 2 D g (va_A (gw g ad ln A0 N) s.heap.size) N ad ln A [] 0 0 15 [gi s0] := by
  unfold mX4_isPair_b15 at h
  obtain ⟨hz1, h⟩ := g_gd h
  obtain ⟨rfl, rfl⟩ := Prod.mk.inj (Option.some.inj h)
  exact g_retz C hr hz1 dX4_isPair_15

set_option maxHeartbeats 2000000 in
set_option maxRecDepth 20000 in
theorem wX4_isPair_b10 (hN : 183 ≤ N) {A0 A' : gM} {r : Int32} (C : gC p R s m args meth c cX4_isPair RX4 2 D g (va_A (gw g ad ln A0 N) s.heap.size) 0) (hr : meth.sig.returnType = some .boolean)  {A : gM} (h : mX4_isPair_b10 A = some (A', r)) : gJ p l e R s m args below meth c (gEi below D g N ad ln A0 A' r args s) 2 D g (va_A (gw g ad ln A0 N) s.heap.size) N ad ln A [] 0 0 10 [] := by
  unfold mX4_isPair_b10 at h
  refine g_iconst (v := 1) C dX4_isPair_10 (by decide) ?_
  refine g_goto C dX4_isPair_11 (tgt := 15) (by decide) ?_
  refine g_sub [] rfl ?_
  exact wX4_isPair_b15 hN C hr h

set_option maxHeartbeats 2000000 in
set_option maxRecDepth 20000 in
theorem wX4_isPair_b0 (hN : 183 ≤ N) {A0 A' : gM} {r : Int32} (C : gC p R s m args meth c cX4_isPair RX4 2 D g (va_A (gw g ad ln A0 N) s.heap.size) 0) (hr : meth.sig.returnType = some .boolean)  {A : gM} {x1 : Int32} (h : mX4_isPair_b0 A x1 = some (A', r)) : gJ p l e R s m args below meth c (gEi below D g N ad ln A0 A' r args s) 2 D g (va_A (gw g ad ln A0 N) s.heap.size) N ad ln A [(1, gi x1)] 0 0 0 [] := by
  unfold mX4_isPair_b0 at h
  refine g_iload_n C 0 dX4_isPair_0 rfl ?_
  refine g_iconst (v := 2) C dX4_isPair_1 (by decide) ?_
  refine g_icmp_eq C dX4_isPair_2 (tgt := 10) (by decide) (fun c1 => ?_) (fun c1 => ?_)
  · have h := g_tt c1 h
    refine g_sub [] rfl ?_
    exact wX4_isPair_b10 hN C hr h
  · have h := g_ff c1 h
    refine g_iload_n C 0 dX4_isPair_5 rfl ?_
    refine g_iconst (v := 3) C dX4_isPair_6 (by decide) ?_
    refine g_icmp_ne C dX4_isPair_7 (tgt := 14) (by decide) (fun c2 => ?_) (fun c2 => ?_)
    · have h := g_ff c2 h
      refine g_iconst (v := 0) C dX4_isPair_14 (by decide) ?_
      refine g_sub [] rfl ?_
      exact wX4_isPair_b15 hN C hr h
    · have h := g_tt c2 h
      refine g_sub [] rfl ?_
      exact wX4_isPair_b10 hN C hr h

set_option maxHeartbeats 2000000 in
set_option maxRecDepth 20000 in
theorem kX4_isPair {l : Launch} {D : va_G} {g : gT} {N : Nat} {ad ln : Nat → Nat} (hN : 183 ≤ N) {A A' : gM} {x1 : Int32} {r : Int32} (h : mX4_isPair A x1 = some (A', r)) : gKi l yX4_isPair cX4_isPair 2 (some .boolean) (0) D g N ad ln A [gr 129, gi x1] A' r := by
  refine g_meti (by decide) (Nat.le_of_ble_eq_true rfl) ?_
  intro p e s m args below meth c C hr
  refine g_sub [1] rfl ?_
  exact wX4_isPair_b0 hN C hr h
def mX4_resolve_b61 (A : gM) (s0 : Int32) : Option (gM × Int32) :=
  some (A, s0)
def mX4_resolve_b60 (A : gM) : Option (gM × Int32) :=
  mX4_resolve_b61 A 0
def mX4_resolve_b45 (A : gM) (x2 : Int32) : Option (gM × Int32) :=
  if x2 < 0 then
  mX4_resolve_b60 A
  else
  if 2600 ≤ x2 then
  mX4_resolve_b60 A
  else
  mX4_resolve_b61 A x2
def mX4_resolve_b4 (K4 : gM → Int32 → Int32 → Option (gM × Int32)) (A : gM) (x2 : Int32) (x3 : Int32) : Option (gM × Int32) :=
  if 2600 ≤ x3 then
  mX4_resolve_b45 A x2
  else
  if x2 < 0 then
  mX4_resolve_b45 A x2
  else
  if 2600 ≤ x2 then
  mX4_resolve_b45 A x2
  else
  if g_in x2 2600 = true then
  if (A 130 x2.toNatClampNeg) = 5 then
  if g_in x2 2600 = true then
  g_let (A 131 x2.toNatClampNeg) fun v7 =>
  g_let (x3 + 1) fun v8 =>
  K4 A v7 v8
  else none
  else
  mX4_resolve_b45 A x2
  else none
def mX4_resolve_L4 : Nat → gM → Int32 → Int32 → Option (gM × Int32)
  | 0 => fun _ _ _ => none
  | f + 1 => mX4_resolve_b4 (mX4_resolve_L4 f)
def mX4_resolve_b0 (A : gM) (x1 : Int32) : Option (gM × Int32) :=
  mX4_resolve_L4 gF A x1 0
def mX4_resolve (A : gM) (x1 : Int32) : Option (gM × Int32) := mX4_resolve_b0 A x1
set_option maxHeartbeats 2000000 in
set_option maxRecDepth 20000 in
theorem wX4_resolve_b61 (hN : 183 ≤ N) {A0 A' : gM} {r : Int32} (C : gC p R s m args meth c cX4_resolve RX4 4 D g (va_A (gw g ad ln A0 N) s.heap.size) 0) (hr : meth.sig.returnType = some .int)  {A : gM} {s0 : Int32} (h : mX4_resolve_b61 A s0 = some (A', r)) : gJ p l e R s m args below meth c (gEi below D g N ad ln A0 A' r args s) 4 D g (va_A (gw g ad ln A0 N) s.heap.size) N ad ln A [] 0 0 61 [gi s0] := by
  unfold mX4_resolve_b61 at h
  obtain ⟨rfl, rfl⟩ := Prod.mk.inj (Option.some.inj h)
  exact g_reti C hr dX4_resolve_61

set_option maxHeartbeats 2000000 in
set_option maxRecDepth 20000 in
theorem wX4_resolve_b60 (hN : 183 ≤ N) {A0 A' : gM} {r : Int32} (C : gC p R s m args meth c cX4_resolve RX4 4 D g (va_A (gw g ad ln A0 N) s.heap.size) 0) (hr : meth.sig.returnType = some .int)  {A : gM} (h : mX4_resolve_b60 A = some (A', r)) : gJ p l e R s m args below meth c (gEi below D g N ad ln A0 A' r args s) 4 D g (va_A (gw g ad ln A0 N) s.heap.size) N ad ln A [] 0 0 60 [] := by
  unfold mX4_resolve_b60 at h
  refine g_iconst (v := 0) C dX4_resolve_60 (by decide) ?_
  refine g_sub [] rfl ?_
  exact wX4_resolve_b61 hN C hr h

set_option maxHeartbeats 2000000 in
set_option maxRecDepth 20000 in
theorem wX4_resolve_b45 (hN : 183 ≤ N) {A0 A' : gM} {r : Int32} (C : gC p R s m args meth c cX4_resolve RX4 4 D g (va_A (gw g ad ln A0 N) s.heap.size) 0) (hr : meth.sig.returnType = some .int)  {A : gM} {x2 : Int32} (h : mX4_resolve_b45 A x2 = some (A', r)) : gJ p l e R s m args below meth c (gEi below D g N ad ln A0 A' r args s) 4 D g (va_A (gw g ad ln A0 N) s.heap.size) N ad ln A [(2, gi x2)] 0 0 45 [] := by
  unfold mX4_resolve_b45 at h
  refine g_iload_n C 0 dX4_resolve_45 rfl ?_
  refine g_if_lt C dX4_resolve_46 (tgt := 60) (by decide) (fun c1 => ?_) (fun c1 => ?_)
  · have h := g_tt c1 h
    refine g_sub [] rfl ?_
    exact wX4_resolve_b60 hN C hr h
  · have h := g_ff c1 h
    refine g_iload_n C 0 dX4_resolve_49 rfl ?_
    refine g_sipush (v := 2600) C dX4_resolve_50 (by decide) ?_
    refine g_icmp_ge C dX4_resolve_53 (tgt := 60) (by decide) (fun c2 => ?_) (fun c2 => ?_)
    · have h := g_tt c2 h
      refine g_sub [] rfl ?_
      exact wX4_resolve_b60 hN C hr h
    · have h := g_ff c2 h
      refine g_iload_n C 0 dX4_resolve_56 rfl ?_
      refine g_goto C dX4_resolve_57 (tgt := 61) (by decide) ?_
      refine g_sub [] rfl ?_
      exact wX4_resolve_b61 hN C hr h

set_option maxHeartbeats 2000000 in
set_option maxRecDepth 20000 in
theorem wX4_resolve_b4 (hN : 183 ≤ N) {A0 A' : gM} {r : Int32} (C : gC p R s m args meth c cX4_resolve RX4 4 D g (va_A (gw g ad ln A0 N) s.heap.size) 0) (hr : meth.sig.returnType = some .int) {K4 : gM → Int32 → Int32 → Option (gM × Int32)} (hK4 : ∀ {A : gM} {x2 : Int32} {x3 : Int32}, K4 A x2 x3 = some (A', r) → gJ p l e R s m args below meth c (gEi below D g N ad ln A0 A' r args s) 4 D g (va_A (gw g ad ln A0 N) s.heap.size) N ad ln A [(0, gr 129), (2, gi x2), (3, gi x3)] 0 0 4 []) {A : gM} {x2 : Int32} {x3 : Int32} (h : mX4_resolve_b4 K4 A x2 x3 = some (A', r)) : gJ p l e R s m args below meth c (gEi below D g N ad ln A0 A' r args s) 4 D g (va_A (gw g ad ln A0 N) s.heap.size) N ad ln A [(0, gr 129), (2, gi x2), (3, gi x3)] 0 0 4 [] := by
  unfold mX4_resolve_b4 at h
  refine g_iload_n C 2 dX4_resolve_4 rfl ?_
  refine g_sipush (v := 2600) C dX4_resolve_5 (by decide) ?_
  refine g_icmp_ge C dX4_resolve_8 (tgt := 45) (by decide) (fun c1 => ?_) (fun c1 => ?_)
  · have h := g_tt c1 h
    refine g_sub [1] rfl ?_
    exact wX4_resolve_b45 hN C hr h
  · have h := g_ff c1 h
    refine g_iload_n C 1 dX4_resolve_11 rfl ?_
    refine g_if_lt C dX4_resolve_12 (tgt := 45) (by decide) (fun c2 => ?_) (fun c2 => ?_)
    · have h := g_tt c2 h
      refine g_sub [1] rfl ?_
      exact wX4_resolve_b45 hN C hr h
    · have h := g_ff c2 h
      refine g_iload_n C 1 dX4_resolve_15 rfl ?_
      refine g_sipush (v := 2600) C dX4_resolve_16 (by decide) ?_
      refine g_icmp_ge C dX4_resolve_19 (tgt := 45) (by decide) (fun c3 => ?_) (fun c3 => ?_)
      · have h := g_tt c3 h
        refine g_sub [1] rfl ?_
        exact wX4_resolve_b45 hN C hr h
      · have h := g_ff c3 h
        refine g_aload_n C 0 dX4_resolve_22 rfl ?_
        refine g_get (v := gr 130) C 129 0 (by omega) rfl rfl gu_4 (by decide) qf_X4_11 rfl dX4_resolve_23 ?_
        refine g_iload_n C 1 dX4_resolve_26 rfl ?_
        obtain ⟨hg4, h⟩ := g_gd h
        refine g_iald C 130 (by omega) rfl rfl hg4 dX4_resolve_27 ?_
        refine g_iconst (v := 5) C dX4_resolve_28 (by decide) ?_
        refine g_icmp_ne C dX4_resolve_29 (tgt := 45) (by decide) (fun c5 => ?_) (fun c5 => ?_)
        · have h := g_ff c5 h
          refine g_sub [1] rfl ?_
          exact wX4_resolve_b45 hN C hr h
        · have h := g_tt c5 h
          refine g_aload_n C 0 dX4_resolve_32 rfl ?_
          refine g_get (v := gr 131) C 129 1 (by omega) rfl rfl gu_4 (by decide) qf_X4_15 rfl dX4_resolve_33 ?_
          refine g_iload_n C 1 dX4_resolve_36 rfl ?_
          obtain ⟨hg6, h⟩ := g_gd h
          refine g_iald C 131 (by omega) rfl rfl hg6 dX4_resolve_37 ?_
          obtain ⟨v7, ev7, h⟩ := g_lt h
          refine g_topi ev7 ?_
          refine g_istore_n C dX4_resolve_38 (by decide) rfl ?_
          obtain ⟨v8, ev8, h⟩ := g_lt h
          refine g_iinc C 2 dX4_resolve_39 rfl ev8 (by decide) rfl ?_
          refine g_goto C dX4_resolve_42 (tgt := 4) (by decide) ?_
          refine g_sub [2, 1, 0] rfl ?_
          exact hK4 h

set_option maxHeartbeats 2000000 in
set_option maxRecDepth 20000 in
theorem wX4_resolve_L4 (hN : 183 ≤ N) {A0 A' : gM} {r : Int32} (C : gC p R s m args meth c cX4_resolve RX4 4 D g (va_A (gw g ad ln A0 N) s.heap.size) 0) (hr : meth.sig.returnType = some .int)  : ∀ (f : Nat) {A : gM} {x2 : Int32} {x3 : Int32}, mX4_resolve_L4 f A x2 x3 = some (A', r) → gJ p l e R s m args below meth c (gEi below D g N ad ln A0 A' r args s) 4 D g (va_A (gw g ad ln A0 N) s.heap.size) N ad ln A [(0, gr 129), (2, gi x2), (3, gi x3)] 0 0 4 []
  | 0, A, x2, x3, h => by cases h
  | f + 1, A, x2, x3, h => wX4_resolve_b4 hN C hr (fun {A} {x2} {x3} h => wX4_resolve_L4 hN C hr f h) h
set_option maxHeartbeats 2000000 in
set_option maxRecDepth 20000 in
theorem wX4_resolve_b0 (hN : 183 ≤ N) {A0 A' : gM} {r : Int32} (C : gC p R s m args meth c cX4_resolve RX4 4 D g (va_A (gw g ad ln A0 N) s.heap.size) 0) (hr : meth.sig.returnType = some .int)  {A : gM} {x1 : Int32} (h : mX4_resolve_b0 A x1 = some (A', r)) : gJ p l e R s m args below meth c (gEi below D g N ad ln A0 A' r args s) 4 D g (va_A (gw g ad ln A0 N) s.heap.size) N ad ln A [(0, gr 129), (1, gi x1)] 0 0 0 [] := by
  unfold mX4_resolve_b0 at h
  refine g_iload_n C 1 dX4_resolve_0 rfl ?_
  refine g_istore_n C dX4_resolve_1 (by decide) rfl ?_
  refine g_iconst (v := 0) C dX4_resolve_2 (by decide) ?_
  refine g_istore_n C dX4_resolve_3 (by decide) rfl ?_
  refine g_sub [2, 1, 0] rfl ?_
  exact wX4_resolve_L4 hN C hr gF h

set_option maxHeartbeats 2000000 in
set_option maxRecDepth 20000 in
theorem kX4_resolve {l : Launch} {D : va_G} {g : gT} {N : Nat} {ad ln : Nat → Nat} (hN : 183 ≤ N) {A A' : gM} {x1 : Int32} {r : Int32} (h : mX4_resolve A x1 = some (A', r)) : gKi l yX4_resolve cX4_resolve 4 (some .int) (0) D g N ad ln A [gr 129, gi x1] A' r := by
  refine g_meti (by decide) (Nat.le_of_ble_eq_true rfl) ?_
  intro p e s m args below meth c C hr
  refine g_sub [0, 1] rfl ?_
  exact wX4_resolve_b0 hN C hr h
def mX4_markWithin_b121 (A : gM) : Option (gM) :=
  some A
def mX4_markWithin_b115 (K11 : gM → Int32 → Int32 → Option (gM)) (A : gM) (x2 : Int32) (x3 : Int32) : Option (gM) :=
  g_let (x3 + 1) fun v1 =>
  K11 A x2 v1
def mX4_markWithin_b11 (K11 : gM → Int32 → Int32 → Option (gM)) (A : gM) (x2 : Int32) (x3 : Int32) : Option (gM) :=
  if x2 ≤ 0 then
  mX4_markWithin_b121 A
  else
  if 1000000 ≤ x3 then
  mX4_markWithin_b121 A
  else
  g_let (x2 + (-1)) fun v3 =>
  if g_in v3 5208 = true then
  (mX4_resolve A (A 134 v3.toNatClampNeg)).bind fun q5 =>
  if g_in q5.2 2600 = true then
  if (q5.1 133 q5.2.toNatClampNeg) = (q5.1 129 10) then
  mX4_markWithin_b115 K11 q5.1 v3 x3
  else
  if g_in q5.2 2600 = true then g_let (g_up q5.1 133 q5.2.toNatClampNeg (q5.1 129 10)) fun A9 =>
  if g_in q5.2 2600 = true then
  (mX4_isPair A9 (A9 130 q5.2.toNatClampNeg)).bind fun q11 =>
  if q11.2 = 0 then
  mX4_markWithin_b115 K11 q11.1 v3 x3
  else
  if 5208 < (v3 + 2) then
  mX4_markWithin_b115 K11 q11.1 v3 x3
  else
  if g_in q5.2 2600 = true then
  if g_in v3 5208 = true then g_let (g_up q11.1 134 v3.toNatClampNeg (q11.1 132 q5.2.toNatClampNeg)) fun A16 =>
  if g_in q5.2 2600 = true then
  if g_in (v3 + 1) 5208 = true then g_let (g_up A16 134 (v3 + 1).toNatClampNeg (A16 131 q5.2.toNatClampNeg)) fun A19 =>
  g_let (v3 + 2) fun v20 =>
  mX4_markWithin_b115 K11 A19 v20 x3
  else none
  else none
  else none
  else none
  else none
  else none
  else none
  else none
def mX4_markWithin_L11 : Nat → gM → Int32 → Int32 → Option (gM)
  | 0 => fun _ _ _ => none
  | f + 1 => mX4_markWithin_b11 (mX4_markWithin_L11 f)
def mX4_markWithin_b0 (A : gM) (x1 : Int32) : Option (gM) :=
  if g_in 0 5208 = true then g_let (g_up A 134 (0 : Int32).toNatClampNeg x1) fun A2 =>
  mX4_markWithin_L11 gF A2 1 0
  else none
def mX4_markWithin (A : gM) (x1 : Int32) : Option (gM) := mX4_markWithin_b0 A x1
set_option maxHeartbeats 2000000 in
set_option maxRecDepth 20000 in
theorem wX4_markWithin_b121 (hN : 183 ≤ N) {A0 A' : gM} (C : gC p R s m args meth c cX4_markWithin RX4 5 D g (va_A (gw g ad ln A0 N) s.heap.size) 1) (hr : meth.sig.returnType = none)  {A : gM} (h : mX4_markWithin_b121 A = some A') : gJ p l e R s m args below meth c (gEv below D g N ad ln A0 A' args s) 5 D g (va_A (gw g ad ln A0 N) s.heap.size) N ad ln A [] 0 0 121 [] := by
  unfold mX4_markWithin_b121 at h
  obtain rfl := Option.some.inj h
  exact g_retv C hr dX4_markWithin_121

set_option maxHeartbeats 2000000 in
set_option maxRecDepth 20000 in
theorem wX4_markWithin_b115 (hN : 183 ≤ N) {A0 A' : gM} (C : gC p R s m args meth c cX4_markWithin RX4 5 D g (va_A (gw g ad ln A0 N) s.heap.size) 1) (hr : meth.sig.returnType = none) {K11 : gM → Int32 → Int32 → Option (gM)} (hK11 : ∀ {A : gM} {x2 : Int32} {x3 : Int32}, K11 A x2 x3 = some A' → gJ p l e R s m args below meth c (gEv below D g N ad ln A0 A' args s) 5 D g (va_A (gw g ad ln A0 N) s.heap.size) N ad ln A [(0, gr 129), (2, gi x2), (3, gi x3)] 0 0 11 []) {A : gM} {x2 : Int32} {x3 : Int32} (h : mX4_markWithin_b115 K11 A x2 x3 = some A') : gJ p l e R s m args below meth c (gEv below D g N ad ln A0 A' args s) 5 D g (va_A (gw g ad ln A0 N) s.heap.size) N ad ln A [(0, gr 129), (2, gi x2), (3, gi x3)] 0 0 115 [] := by
  unfold mX4_markWithin_b115 at h
  obtain ⟨v1, ev1, h⟩ := g_lt h
  refine g_iinc C 2 dX4_markWithin_115 rfl ev1 (by decide) rfl ?_
  refine g_goto C dX4_markWithin_118 (tgt := 11) (by decide) ?_
  refine g_sub [1, 2, 0] rfl ?_
  exact hK11 h

set_option maxHeartbeats 2000000 in
set_option maxRecDepth 20000 in
theorem wX4_markWithin_b11 (hN : 183 ≤ N) {A0 A' : gM} (C : gC p R s m args meth c cX4_markWithin RX4 5 D g (va_A (gw g ad ln A0 N) s.heap.size) 1) (hr : meth.sig.returnType = none) {K11 : gM → Int32 → Int32 → Option (gM)} (hK11 : ∀ {A : gM} {x2 : Int32} {x3 : Int32}, K11 A x2 x3 = some A' → gJ p l e R s m args below meth c (gEv below D g N ad ln A0 A' args s) 5 D g (va_A (gw g ad ln A0 N) s.heap.size) N ad ln A [(0, gr 129), (2, gi x2), (3, gi x3)] 0 0 11 []) {A : gM} {x2 : Int32} {x3 : Int32} (h : mX4_markWithin_b11 K11 A x2 x3 = some A') : gJ p l e R s m args below meth c (gEv below D g N ad ln A0 A' args s) 5 D g (va_A (gw g ad ln A0 N) s.heap.size) N ad ln A [(0, gr 129), (2, gi x2), (3, gi x3)] 0 0 11 [] := by
  unfold mX4_markWithin_b11 at h
  refine g_iload_n C 1 dX4_markWithin_11 rfl ?_
  refine g_if_le C dX4_markWithin_12 (tgt := 121) (by decide) (fun c1 => ?_) (fun c1 => ?_)
  · have h := g_tt c1 h
    refine g_sub [] rfl ?_
    exact wX4_markWithin_b121 hN C hr h
  · have h := g_ff c1 h
    refine g_iload_n C 2 dX4_markWithin_15 rfl ?_
    refine g_ldc C qc_X4_47 dX4_markWithin_16 ?_
    refine g_icmp_ge C dX4_markWithin_18 (tgt := 121) (by decide) (fun c2 => ?_) (fun c2 => ?_)
    · have h := g_tt c2 h
      refine g_sub [] rfl ?_
      exact wX4_markWithin_b121 hN C hr h
    · have h := g_ff c2 h
      obtain ⟨v3, ev3, h⟩ := g_lt h
      refine g_iinc C 1 dX4_markWithin_21 rfl ev3 (by decide) rfl ?_
      refine g_aload_n C 1 dX4_markWithin_24 rfl ?_
      refine g_aload_n C 1 dX4_markWithin_25 rfl ?_
      refine g_get (v := gr 134) C 129 4 (by omega) rfl rfl gu_4 (by decide) qf_X4_24 rfl dX4_markWithin_26 ?_
      refine g_iload_n C 0 dX4_markWithin_29 rfl ?_
      obtain ⟨hg4, h⟩ := g_gd h
      refine g_iald C 134 (by omega) rfl rfl hg4 dX4_markWithin_30 ?_
      obtain ⟨q5, eq5, h⟩ := g_bd h
      refine g_calliV C 129 [gi (A 134 v3.toNatClampNeg)] (kX4_resolve hN eq5) qs_X4_48 (by omega) (by omega) rfl rfl rfl rfl (Nat.le_of_ble_eq_true rfl) ⟨Nat.zero_le _, Nat.zero_le _⟩ dX4_markWithin_31 ?_
      refine g_istore C dX4_markWithin_34 (by decide) rfl ?_
      refine g_aload_n C 2 dX4_markWithin_36 rfl ?_
      refine g_get (v := gr 133) C 129 3 (by omega) rfl rfl gu_4 (by decide) qf_X4_21 rfl dX4_markWithin_37 ?_
      refine g_iload C 0 dX4_markWithin_40 rfl ?_
      obtain ⟨hg6, h⟩ := g_gd h
      refine g_iald C 133 (by omega) rfl rfl hg6 dX4_markWithin_42 ?_
      refine g_aload_n C 2 dX4_markWithin_43 rfl ?_
      refine g_get (v := gi (q5.1 129 10)) C 129 10 (by omega) rfl rfl gu_4 (by decide) qf_X4_44 rfl dX4_markWithin_44 ?_
      refine g_icmp_eq C dX4_markWithin_47 (tgt := 115) (by decide) (fun c7 => ?_) (fun c7 => ?_)
      · have h := g_tt c7 h
        refine g_sub [2, 1, 3] rfl ?_
        exact wX4_markWithin_b115 hN C hr hK11 h
      · have h := g_ff c7 h
        refine g_aload_n C 2 dX4_markWithin_50 rfl ?_
        refine g_get (v := gr 133) C 129 3 (by omega) rfl rfl gu_4 (by decide) qf_X4_21 rfl dX4_markWithin_51 ?_
        refine g_iload C 0 dX4_markWithin_54 rfl ?_
        refine g_aload_n C 2 dX4_markWithin_56 rfl ?_
        refine g_get (v := gi (q5.1 129 10)) C 129 10 (by omega) rfl rfl gu_4 (by decide) qf_X4_44 rfl dX4_markWithin_57 ?_
        obtain ⟨hg8, h⟩ := g_gd h
        obtain ⟨A9, eA9, h⟩ := g_lt h
        refine g_iast C 133 (by omega) rfl rfl hg8 eA9 dX4_markWithin_60 ?_
        refine g_aload_n C 2 dX4_markWithin_61 rfl ?_
        refine g_aload_n C 2 dX4_markWithin_62 rfl ?_
        refine g_get (v := gr 130) C 129 0 (by omega) rfl rfl gu_4 (by decide) qf_X4_11 rfl dX4_markWithin_63 ?_
        refine g_iload C 0 dX4_markWithin_66 rfl ?_
        obtain ⟨hg10, h⟩ := g_gd h
        refine g_iald C 130 (by omega) rfl rfl hg10 dX4_markWithin_68 ?_
        obtain ⟨q11, eq11, h⟩ := g_bd h
        refine g_calliV C 129 [gi (A9 130 q5.2.toNatClampNeg)] (kX4_isPair hN eq11) qs_X4_52 (by omega) (by omega) rfl rfl rfl rfl (Nat.le_of_ble_eq_true rfl) ⟨Nat.zero_le _, Nat.zero_le _⟩ dX4_markWithin_69 ?_
        refine g_if_eq C dX4_markWithin_72 (tgt := 115) (by decide) (fun c12 => ?_) (fun c12 => ?_)
        · have h := g_tt c12 h
          refine g_sub [2, 1, 3] rfl ?_
          exact wX4_markWithin_b115 hN C hr hK11 h
        · have h := g_ff c12 h
          refine g_iload_n C 1 dX4_markWithin_75 rfl ?_
          refine g_iconst (v := 2) C dX4_markWithin_76 (by decide) ?_
          refine g_iadd C dX4_markWithin_77 ?_
          refine g_sipush (v := 5208) C dX4_markWithin_78 (by decide) ?_
          refine g_icmp_gt C dX4_markWithin_81 (tgt := 115) (by decide) (fun c13 => ?_) (fun c13 => ?_)
          · have h := g_tt c13 h
            refine g_sub [2, 1, 3] rfl ?_
            exact wX4_markWithin_b115 hN C hr hK11 h
          · have h := g_ff c13 h
            refine g_aload_n C 2 dX4_markWithin_84 rfl ?_
            refine g_get (v := gr 134) C 129 4 (by omega) rfl rfl gu_4 (by decide) qf_X4_24 rfl dX4_markWithin_85 ?_
            refine g_iload_n C 1 dX4_markWithin_88 rfl ?_
            refine g_aload_n C 2 dX4_markWithin_89 rfl ?_
            refine g_get (v := gr 132) C 129 2 (by omega) rfl rfl gu_4 (by decide) qf_X4_18 rfl dX4_markWithin_90 ?_
            refine g_iload C 0 dX4_markWithin_93 rfl ?_
            obtain ⟨hg14, h⟩ := g_gd h
            refine g_iald C 132 (by omega) rfl rfl hg14 dX4_markWithin_95 ?_
            obtain ⟨hg15, h⟩ := g_gd h
            obtain ⟨A16, eA16, h⟩ := g_lt h
            refine g_iast C 134 (by omega) rfl rfl hg15 eA16 dX4_markWithin_96 ?_
            refine g_aload_n C 2 dX4_markWithin_97 rfl ?_
            refine g_get (v := gr 134) C 129 4 (by omega) rfl rfl gu_4 (by decide) qf_X4_24 rfl dX4_markWithin_98 ?_
            refine g_iload_n C 1 dX4_markWithin_101 rfl ?_
            refine g_iconst (v := 1) C dX4_markWithin_102 (by decide) ?_
            refine g_iadd C dX4_markWithin_103 ?_
            refine g_aload_n C 2 dX4_markWithin_104 rfl ?_
            refine g_get (v := gr 131) C 129 1 (by omega) rfl rfl gu_4 (by decide) qf_X4_15 rfl dX4_markWithin_105 ?_
            refine g_iload C 0 dX4_markWithin_108 rfl ?_
            obtain ⟨hg17, h⟩ := g_gd h
            refine g_iald C 131 (by omega) rfl rfl hg17 dX4_markWithin_110 ?_
            obtain ⟨hg18, h⟩ := g_gd h
            obtain ⟨A19, eA19, h⟩ := g_lt h
            refine g_iast C 134 (by omega) rfl rfl hg18 eA19 dX4_markWithin_111 ?_
            obtain ⟨v20, ev20, h⟩ := g_lt h
            refine g_iinc C 1 dX4_markWithin_112 rfl ev20 (by decide) rfl ?_
            refine g_sub [2, 0, 3] rfl ?_
            exact wX4_markWithin_b115 hN C hr hK11 h

set_option maxHeartbeats 2000000 in
set_option maxRecDepth 20000 in
theorem wX4_markWithin_L11 (hN : 183 ≤ N) {A0 A' : gM} (C : gC p R s m args meth c cX4_markWithin RX4 5 D g (va_A (gw g ad ln A0 N) s.heap.size) 1) (hr : meth.sig.returnType = none)  : ∀ (f : Nat) {A : gM} {x2 : Int32} {x3 : Int32}, mX4_markWithin_L11 f A x2 x3 = some A' → gJ p l e R s m args below meth c (gEv below D g N ad ln A0 A' args s) 5 D g (va_A (gw g ad ln A0 N) s.heap.size) N ad ln A [(0, gr 129), (2, gi x2), (3, gi x3)] 0 0 11 []
  | 0, A, x2, x3, h => by cases h
  | f + 1, A, x2, x3, h => wX4_markWithin_b11 hN C hr (fun {A} {x2} {x3} h => wX4_markWithin_L11 hN C hr f h) h
set_option maxHeartbeats 2000000 in
set_option maxRecDepth 20000 in
theorem wX4_markWithin_b0 (hN : 183 ≤ N) {A0 A' : gM} (C : gC p R s m args meth c cX4_markWithin RX4 5 D g (va_A (gw g ad ln A0 N) s.heap.size) 1) (hr : meth.sig.returnType = none)  {A : gM} {x1 : Int32} (h : mX4_markWithin_b0 A x1 = some A') : gJ p l e R s m args below meth c (gEv below D g N ad ln A0 A' args s) 5 D g (va_A (gw g ad ln A0 N) s.heap.size) N ad ln A [(0, gr 129), (1, gi x1)] 0 0 0 [] := by
  unfold mX4_markWithin_b0 at h
  refine g_iconst (v := 1) C dX4_markWithin_0 (by decide) ?_
  refine g_istore_n C dX4_markWithin_1 (by decide) rfl ?_
  refine g_aload_n C 1 dX4_markWithin_2 rfl ?_
  refine g_get (v := gr 134) C 129 4 (by omega) rfl rfl gu_4 (by decide) qf_X4_24 rfl dX4_markWithin_3 ?_
  refine g_iconst (v := 0) C dX4_markWithin_6 (by decide) ?_
  refine g_iload_n C 2 dX4_markWithin_7 rfl ?_
  obtain ⟨hg1, h⟩ := g_gd h
  obtain ⟨A2, eA2, h⟩ := g_lt h
  refine g_iast C 134 (by omega) rfl rfl hg1 eA2 dX4_markWithin_8 ?_
  refine g_iconst (v := 0) C dX4_markWithin_9 (by decide) ?_
  refine g_istore_n C dX4_markWithin_10 (by decide) rfl ?_
  refine g_sub [2, 1, 0] rfl ?_
  exact wX4_markWithin_L11 hN C hr gF h

set_option maxHeartbeats 2000000 in
set_option maxRecDepth 20000 in
theorem kX4_markWithin {l : Launch} {D : va_G} {g : gT} {N : Nat} {ad ln : Nat → Nat} (hN : 183 ≤ N) {A A' : gM} {x1 : Int32} (h : mX4_markWithin A x1 = some A') : gKv l yX4_markWithin cX4_markWithin 5 (none) (1) D g N ad ln A [gr 129, gi x1] A' := by
  refine g_metv (by decide) (Nat.le_of_ble_eq_true rfl) ?_
  intro p e s m args below meth c C hr
  refine g_sub [0, 1] rfl ?_
  exact wX4_markWithin_b0 hN C hr h
def mX4_putPair_b11 (A : gM) (x1 : Int32) : Option (gM × Int32) :=
  some (A, x1)
def mX4_putPair_b0 (A : gM) (x1 : Int32) (x2 : Int32) (x3 : Int32) : Option (gM × Int32) :=
  if x1 < 0 then
  mX4_putPair_b11 A x1
  else
  if x1 < 5208 then
  if g_in x1 5208 = true then g_let (g_up A 135 x1.toNatClampNeg x2) fun A4 =>
  if g_in x1 5208 = true then g_let (g_up A4 136 x1.toNatClampNeg x3) fun A6 =>
  some (A6, (x1 + 1))
  else none
  else none
  else
  mX4_putPair_b11 A x1
def mX4_putPair (A : gM) (x1 : Int32) (x2 : Int32) (x3 : Int32) : Option (gM × Int32) := mX4_putPair_b0 A x1 x2 x3
set_option maxHeartbeats 2000000 in
set_option maxRecDepth 20000 in
theorem wX4_putPair_b11 (hN : 183 ≤ N) {A0 A' : gM} {r : Int32} (C : gC p R s m args meth c cX4_putPair RX4 4 D g (va_A (gw g ad ln A0 N) s.heap.size) 0) (hr : meth.sig.returnType = some .int)  {A : gM} {x1 : Int32} (h : mX4_putPair_b11 A x1 = some (A', r)) : gJ p l e R s m args below meth c (gEi below D g N ad ln A0 A' r args s) 4 D g (va_A (gw g ad ln A0 N) s.heap.size) N ad ln A [(1, gi x1)] 0 0 11 [] := by
  unfold mX4_putPair_b11 at h
  refine g_iload_n C 0 dX4_putPair_11 rfl ?_
  obtain ⟨rfl, rfl⟩ := Prod.mk.inj (Option.some.inj h)
  exact g_reti C hr dX4_putPair_12

set_option maxHeartbeats 2000000 in
set_option maxRecDepth 20000 in
theorem wX4_putPair_b0 (hN : 183 ≤ N) {A0 A' : gM} {r : Int32} (C : gC p R s m args meth c cX4_putPair RX4 4 D g (va_A (gw g ad ln A0 N) s.heap.size) 0) (hr : meth.sig.returnType = some .int)  {A : gM} {x1 : Int32} {x2 : Int32} {x3 : Int32} (h : mX4_putPair_b0 A x1 x2 x3 = some (A', r)) : gJ p l e R s m args below meth c (gEi below D g N ad ln A0 A' r args s) 4 D g (va_A (gw g ad ln A0 N) s.heap.size) N ad ln A [(0, gr 129), (1, gi x1), (2, gi x2), (3, gi x3)] 0 0 0 [] := by
  unfold mX4_putPair_b0 at h
  refine g_iload_n C 1 dX4_putPair_0 rfl ?_
  refine g_if_lt C dX4_putPair_1 (tgt := 11) (by decide) (fun c1 => ?_) (fun c1 => ?_)
  · have h := g_tt c1 h
    refine g_sub [1] rfl ?_
    exact wX4_putPair_b11 hN C hr h
  · have h := g_ff c1 h
    refine g_iload_n C 1 dX4_putPair_4 rfl ?_
    refine g_sipush (v := 5208) C dX4_putPair_5 (by decide) ?_
    refine g_icmp_lt C dX4_putPair_8 (tgt := 13) (by decide) (fun c2 => ?_) (fun c2 => ?_)
    · have h := g_tt c2 h
      refine g_aload_n C 0 dX4_putPair_13 rfl ?_
      refine g_get (v := gr 135) C 129 5 (by omega) rfl rfl gu_4 (by decide) qf_X4_27 rfl dX4_putPair_14 ?_
      refine g_iload_n C 1 dX4_putPair_17 rfl ?_
      refine g_iload_n C 2 dX4_putPair_18 rfl ?_
      obtain ⟨hg3, h⟩ := g_gd h
      obtain ⟨A4, eA4, h⟩ := g_lt h
      refine g_iast C 135 (by omega) rfl rfl hg3 eA4 dX4_putPair_19 ?_
      refine g_aload_n C 0 dX4_putPair_20 rfl ?_
      refine g_get (v := gr 136) C 129 6 (by omega) rfl rfl gu_4 (by decide) qf_X4_30 rfl dX4_putPair_21 ?_
      refine g_iload_n C 1 dX4_putPair_24 rfl ?_
      refine g_iload_n C 3 dX4_putPair_25 rfl ?_
      obtain ⟨hg5, h⟩ := g_gd h
      obtain ⟨A6, eA6, h⟩ := g_lt h
      refine g_iast C 136 (by omega) rfl rfl hg5 eA6 dX4_putPair_26 ?_
      refine g_iload_n C 1 dX4_putPair_27 rfl ?_
      refine g_iconst (v := 1) C dX4_putPair_28 (by decide) ?_
      refine g_iadd C dX4_putPair_29 ?_
      obtain ⟨rfl, rfl⟩ := Prod.mk.inj (Option.some.inj h)
      exact g_reti C hr dX4_putPair_30
    · have h := g_ff c2 h
      refine g_sub [1] rfl ?_
      exact wX4_putPair_b11 hN C hr h

set_option maxHeartbeats 2000000 in
set_option maxRecDepth 20000 in
theorem kX4_putPair {l : Launch} {D : va_G} {g : gT} {N : Nat} {ad ln : Nat → Nat} (hN : 183 ≤ N) {A A' : gM} {x1 : Int32} {x2 : Int32} {x3 : Int32} {r : Int32} (h : mX4_putPair A x1 x2 x3 = some (A', r)) : gKi l yX4_putPair cX4_putPair 4 (some .int) (0) D g N ad ln A [gr 129, gi x1, gi x2, gi x3] A' r := by
  refine g_meti (by decide) (Nat.le_of_ble_eq_true rfl) ?_
  intro p e s m args below meth c C hr
  refine g_sub [0, 1, 2, 3] rfl ?_
  exact wX4_putPair_b0 hN C hr h
def mX4_give_b36 (A : gM) : Option (gM) :=
  some A
def mX4_give_b0 (A : gM) (x1 : Int32) (x2 : Int32) : Option (gM) :=
  (mX4_resolve A x2).bind fun q1 =>
  if x1 < 0 then
  mX4_give_b36 q1.1
  else
  if 2600 ≤ x1 then
  mX4_give_b36 q1.1
  else
  if x1 = q1.2 then
  mX4_give_b36 q1.1
  else
  if g_in x1 2600 = true then g_let (g_up q1.1 130 x1.toNatClampNeg 5) fun A6 =>
  if g_in x1 2600 = true then g_let (g_up A6 131 x1.toNatClampNeg q1.2) fun A8 =>
  mX4_give_b36 A8
  else none
  else none
def mX4_give (A : gM) (x1 : Int32) (x2 : Int32) : Option (gM) := mX4_give_b0 A x1 x2
set_option maxHeartbeats 2000000 in
set_option maxRecDepth 20000 in
theorem wX4_give_b36 (hN : 183 ≤ N) {A0 A' : gM} (C : gC p R s m args meth c cX4_give RX4 4 D g (va_A (gw g ad ln A0 N) s.heap.size) 1) (hr : meth.sig.returnType = none)  {A : gM} (h : mX4_give_b36 A = some A') : gJ p l e R s m args below meth c (gEv below D g N ad ln A0 A' args s) 4 D g (va_A (gw g ad ln A0 N) s.heap.size) N ad ln A [] 0 0 36 [] := by
  unfold mX4_give_b36 at h
  obtain rfl := Option.some.inj h
  exact g_retv C hr dX4_give_36

set_option maxHeartbeats 2000000 in
set_option maxRecDepth 20000 in
theorem wX4_give_b0 (hN : 183 ≤ N) {A0 A' : gM} (C : gC p R s m args meth c cX4_give RX4 4 D g (va_A (gw g ad ln A0 N) s.heap.size) 1) (hr : meth.sig.returnType = none)  {A : gM} {x1 : Int32} {x2 : Int32} (h : mX4_give_b0 A x1 x2 = some A') : gJ p l e R s m args below meth c (gEv below D g N ad ln A0 A' args s) 4 D g (va_A (gw g ad ln A0 N) s.heap.size) N ad ln A [(0, gr 129), (1, gi x1), (2, gi x2)] 0 0 0 [] := by
  unfold mX4_give_b0 at h
  refine g_aload_n C 0 dX4_give_0 rfl ?_
  refine g_iload_n C 2 dX4_give_1 rfl ?_
  obtain ⟨q1, eq1, h⟩ := g_bd h
  refine g_calliV C 129 [gi x2] (kX4_resolve hN eq1) qs_X4_48 (by omega) (by omega) rfl rfl rfl rfl (Nat.le_of_ble_eq_true rfl) ⟨Nat.zero_le _, Nat.zero_le _⟩ dX4_give_2 ?_
  refine g_istore_n C dX4_give_5 (by decide) rfl ?_
  refine g_iload_n C 2 dX4_give_6 rfl ?_
  refine g_if_lt C dX4_give_7 (tgt := 36) (by decide) (fun c2 => ?_) (fun c2 => ?_)
  · have h := g_tt c2 h
    refine g_sub [] rfl ?_
    exact wX4_give_b36 hN C hr h
  · have h := g_ff c2 h
    refine g_iload_n C 2 dX4_give_10 rfl ?_
    refine g_sipush (v := 2600) C dX4_give_11 (by decide) ?_
    refine g_icmp_ge C dX4_give_14 (tgt := 36) (by decide) (fun c3 => ?_) (fun c3 => ?_)
    · have h := g_tt c3 h
      refine g_sub [] rfl ?_
      exact wX4_give_b36 hN C hr h
    · have h := g_ff c3 h
      refine g_iload_n C 2 dX4_give_17 rfl ?_
      refine g_iload_n C 0 dX4_give_18 rfl ?_
      refine g_icmp_eq C dX4_give_19 (tgt := 36) (by decide) (fun c4 => ?_) (fun c4 => ?_)
      · have h := g_tt c4 h
        refine g_sub [] rfl ?_
        exact wX4_give_b36 hN C hr h
      · have h := g_ff c4 h
        refine g_aload_n C 1 dX4_give_22 rfl ?_
        refine g_get (v := gr 130) C 129 0 (by omega) rfl rfl gu_4 (by decide) qf_X4_11 rfl dX4_give_23 ?_
        refine g_iload_n C 2 dX4_give_26 rfl ?_
        refine g_iconst (v := 5) C dX4_give_27 (by decide) ?_
        obtain ⟨hg5, h⟩ := g_gd h
        obtain ⟨A6, eA6, h⟩ := g_lt h
        refine g_iast C 130 (by omega) rfl rfl hg5 eA6 dX4_give_28 ?_
        refine g_aload_n C 1 dX4_give_29 rfl ?_
        refine g_get (v := gr 131) C 129 1 (by omega) rfl rfl gu_4 (by decide) qf_X4_15 rfl dX4_give_30 ?_
        refine g_iload_n C 2 dX4_give_33 rfl ?_
        refine g_iload_n C 0 dX4_give_34 rfl ?_
        obtain ⟨hg7, h⟩ := g_gd h
        obtain ⟨A8, eA8, h⟩ := g_lt h
        refine g_iast C 131 (by omega) rfl rfl hg7 eA8 dX4_give_35 ?_
        refine g_sub [] rfl ?_
        exact wX4_give_b36 hN C hr h

set_option maxHeartbeats 2000000 in
set_option maxRecDepth 20000 in
theorem kX4_give {l : Launch} {D : va_G} {g : gT} {N : Nat} {ad ln : Nat → Nat} (hN : 183 ≤ N) {A A' : gM} {x1 : Int32} {x2 : Int32} (h : mX4_give A x1 x2 = some A') : gKv l yX4_give cX4_give 4 (none) (1) D g N ad ln A [gr 129, gi x1, gi x2] A' := by
  refine g_metv (by decide) (Nat.le_of_ble_eq_true rfl) ?_
  intro p e s m args below meth c C hr
  refine g_sub [0, 1, 2] rfl ?_
  exact wX4_give_b0 hN C hr h
def mX4_match_b261 (A : gM) : Option (gM × Int32) :=
  some (A, 0)
def mX4_match_b255 (K11 : gM → Int32 → Int32 → Option (gM × Int32)) (A : gM) (x3 : Int32) (x4 : Int32) : Option (gM × Int32) :=
  g_let (x4 + 1) fun v1 =>
  K11 A x3 v1
def mX4_match_b145 (K11 : gM → Int32 → Int32 → Option (gM × Int32)) (A : gM) (x3 : Int32) (x4 : Int32) (x7 : Int32) (s0 : Int32) : Option (gM × Int32) :=
  (mX4_forgetMarks A).bind fun q1 =>
  (mX4_markWithin q1 s0).bind fun q2 =>
  if g_in x7 2600 = true then
  if (q2 133 x7.toNatClampNeg) = (q2 129 10) then
  some (q2, 3)
  else
  (mX4_give q2 x7 s0).bind fun q5 =>
  mX4_match_b255 K11 q5 x3 x4
  else none
def mX4_match_b129 (K11 : gM → Int32 → Int32 → Option (gM × Int32)) (A : gM) (x3 : Int32) (x4 : Int32) (x5 : Int32) (x6 : Int32) (s0 : Int32) : Option (gM × Int32) :=
  if s0 = x5 then
  mX4_match_b145 K11 A x3 x4 s0 x6
  else
  mX4_match_b145 K11 A x3 x4 s0 x5
def mX4_match_b111 (K11 : gM → Int32 → Int32 → Option (gM × Int32)) (A : gM) (x3 : Int32) (x4 : Int32) (x5 : Int32) (x6 : Int32) : Option (gM × Int32) :=
  if g_in x5 2600 = true then
  if (A 130 x5.toNatClampNeg) = 4 then
  mX4_match_b129 K11 A x3 x4 x5 x6 x5
  else
  mX4_match_b129 K11 A x3 x4 x5 x6 x6
  else none
def mX4_match_b11 (K11 : gM → Int32 → Int32 → Option (gM × Int32)) (A : gM) (x3 : Int32) (x4 : Int32) : Option (gM × Int32) :=
  if x3 ≤ 0 then
  mX4_match_b261 A
  else
  if 1000000 ≤ x4 then
  mX4_match_b261 A
  else
  g_let (x3 + (-1)) fun v3 =>
  if g_in v3 5208 = true then
  if 0 ≤ (A 135 v3.toNatClampNeg) then
  if g_in v3 5208 = true then
  (mX4_resolve A (A 135 v3.toNatClampNeg)).bind fun q7 =>
  if g_in v3 5208 = true then
  (mX4_resolve q7.1 (q7.1 136 v3.toNatClampNeg)).bind fun q9 =>
  if q7.2 = q9.2 then
  mX4_match_b255 K11 q9.1 v3 x4
  else
  if g_in q7.2 2600 = true then
  if (q9.1 130 q7.2.toNatClampNeg) = 4 then
  mX4_match_b111 K11 q9.1 v3 x4 q7.2 q9.2
  else
  if g_in q9.2 2600 = true then
  if (q9.1 130 q9.2.toNatClampNeg) = 4 then
  mX4_match_b111 K11 q9.1 v3 x4 q7.2 q9.2
  else
  if g_in q7.2 2600 = true then
  if g_in q9.2 2600 = true then
  if (q9.1 130 q7.2.toNatClampNeg) = (q9.1 130 q9.2.toNatClampNeg) then
  (mX4_putPair q9.1 v3 ((-1) - q7.2) q9.2).bind fun q18 =>
  if g_in q7.2 2600 = true then
  if g_in q9.2 2600 = true then
  (mX4_putPair q18.1 q18.2 (q18.1 132 q7.2.toNatClampNeg) (q18.1 132 q9.2.toNatClampNeg)).bind fun q21 =>
  if g_in q7.2 2600 = true then
  if g_in q9.2 2600 = true then
  (mX4_putPair q21.1 q21.2 (q21.1 131 q7.2.toNatClampNeg) (q21.1 131 q9.2.toNatClampNeg)).bind fun q24 =>
  mX4_match_b255 K11 q24.1 q24.2 x4
  else none
  else none
  else none
  else none
  else
  some (q9.1, 2)
  else none
  else none
  else none
  else none
  else none
  else none
  else
  if g_in v3 5208 = true then
  if g_in v3 5208 = true then
  (mX4_give A ((-1) - (A 135 v3.toNatClampNeg)) (A 136 v3.toNatClampNeg)).bind fun q27 =>
  mX4_match_b255 K11 q27 v3 x4
  else none
  else none
  else none
def mX4_match_L11 : Nat → gM → Int32 → Int32 → Option (gM × Int32)
  | 0 => fun _ _ _ => none
  | f + 1 => mX4_match_b11 (mX4_match_L11 f)
def mX4_match_b0 (A : gM) (x1 : Int32) (x2 : Int32) : Option (gM × Int32) :=
  (mX4_putPair A 0 x1 x2).bind fun q1 =>
  mX4_match_L11 gF q1.1 q1.2 0
def mX4_match (A : gM) (x1 : Int32) (x2 : Int32) : Option (gM × Int32) := mX4_match_b0 A x1 x2
set_option maxHeartbeats 2000000 in
set_option maxRecDepth 20000 in
theorem wX4_match_b261 (hN : 183 ≤ N) {A0 A' : gM} {r : Int32} (C : gC p R s m args meth c cX4_match RX4 9 D g (va_A (gw g ad ln A0 N) s.heap.size) 2) (hr : meth.sig.returnType = some .int)  {A : gM} (h : mX4_match_b261 A = some (A', r)) : gJ p l e R s m args below meth c (gEi below D g N ad ln A0 A' r args s) 9 D g (va_A (gw g ad ln A0 N) s.heap.size) N ad ln A [] 0 0 261 [] := by
  unfold mX4_match_b261 at h
  refine g_iconst (v := 0) C dX4_match_261 (by decide) ?_
  obtain ⟨rfl, rfl⟩ := Prod.mk.inj (Option.some.inj h)
  exact g_reti C hr dX4_match_262

set_option maxHeartbeats 2000000 in
set_option maxRecDepth 20000 in
theorem wX4_match_b255 (hN : 183 ≤ N) {A0 A' : gM} {r : Int32} (C : gC p R s m args meth c cX4_match RX4 9 D g (va_A (gw g ad ln A0 N) s.heap.size) 2) (hr : meth.sig.returnType = some .int) {K11 : gM → Int32 → Int32 → Option (gM × Int32)} (hK11 : ∀ {A : gM} {x3 : Int32} {x4 : Int32}, K11 A x3 x4 = some (A', r) → gJ p l e R s m args below meth c (gEi below D g N ad ln A0 A' r args s) 9 D g (va_A (gw g ad ln A0 N) s.heap.size) N ad ln A [(0, gr 129), (3, gi x3), (4, gi x4)] 0 0 11 []) {A : gM} {x3 : Int32} {x4 : Int32} (h : mX4_match_b255 K11 A x3 x4 = some (A', r)) : gJ p l e R s m args below meth c (gEi below D g N ad ln A0 A' r args s) 9 D g (va_A (gw g ad ln A0 N) s.heap.size) N ad ln A [(0, gr 129), (3, gi x3), (4, gi x4)] 0 0 255 [] := by
  unfold mX4_match_b255 at h
  obtain ⟨v1, ev1, h⟩ := g_lt h
  refine g_iinc C 2 dX4_match_255 rfl ev1 (by decide) rfl ?_
  refine g_goto C dX4_match_258 (tgt := 11) (by decide) ?_
  refine g_sub [1, 2, 0] rfl ?_
  exact hK11 h

set_option maxHeartbeats 2000000 in
set_option maxRecDepth 20000 in
theorem wX4_match_b145 (hN : 183 ≤ N) {A0 A' : gM} {r : Int32} (C : gC p R s m args meth c cX4_match RX4 9 D g (va_A (gw g ad ln A0 N) s.heap.size) 2) (hr : meth.sig.returnType = some .int) {K11 : gM → Int32 → Int32 → Option (gM × Int32)} (hK11 : ∀ {A : gM} {x3 : Int32} {x4 : Int32}, K11 A x3 x4 = some (A', r) → gJ p l e R s m args below meth c (gEi below D g N ad ln A0 A' r args s) 9 D g (va_A (gw g ad ln A0 N) s.heap.size) N ad ln A [(0, gr 129), (3, gi x3), (4, gi x4)] 0 0 11 []) {A : gM} {x3 : Int32} {x4 : Int32} {x7 : Int32} {s0 : Int32} (h : mX4_match_b145 K11 A x3 x4 x7 s0 = some (A', r)) : gJ p l e R s m args below meth c (gEi below D g N ad ln A0 A' r args s) 9 D g (va_A (gw g ad ln A0 N) s.heap.size) N ad ln A [(0, gr 129), (3, gi x3), (4, gi x4), (7, gi x7)] 0 0 145 [gi s0] := by
  unfold mX4_match_b145 at h
  refine g_istore C dX4_match_145 (by decide) rfl ?_
  refine g_aload_n C 1 dX4_match_147 rfl ?_
  obtain ⟨q1, eq1, h⟩ := g_bd h
  refine g_callvV C 129 [] (kX4_forgetMarks hN eq1) qs_X4_63 (by omega) (by omega) rfl rfl rfl rfl (Nat.le_of_ble_eq_true rfl) ⟨Nat.zero_le _, Nat.zero_le _⟩ dX4_match_148 ?_
  refine g_aload_n C 1 dX4_match_151 rfl ?_
  refine g_iload C 0 dX4_match_152 rfl ?_
  obtain ⟨q2, eq2, h⟩ := g_bd h
  refine g_callvV C 129 [gi s0] (kX4_markWithin hN eq2) qs_X4_66 (by omega) (by omega) rfl rfl rfl rfl (Nat.le_of_ble_eq_true rfl) ⟨Nat.zero_le _, Nat.zero_le _⟩ dX4_match_154 ?_
  refine g_aload_n C 1 dX4_match_157 rfl ?_
  refine g_get (v := gr 133) C 129 3 (by omega) rfl rfl gu_4 (by decide) qf_X4_21 rfl dX4_match_158 ?_
  refine g_iload C 4 dX4_match_161 rfl ?_
  obtain ⟨hg3, h⟩ := g_gd h
  refine g_iald C 133 (by omega) rfl rfl hg3 dX4_match_163 ?_
  refine g_aload_n C 1 dX4_match_164 rfl ?_
  refine g_get (v := gi (q2 129 10)) C 129 10 (by omega) rfl rfl gu_4 (by decide) qf_X4_44 rfl dX4_match_165 ?_
  refine g_icmp_ne C dX4_match_168 (tgt := 173) (by decide) (fun c4 => ?_) (fun c4 => ?_)
  · have h := g_ff c4 h
    refine g_aload_n C 1 dX4_match_173 rfl ?_
    refine g_iload C 4 dX4_match_174 rfl ?_
    refine g_iload C 0 dX4_match_176 rfl ?_
    obtain ⟨q5, eq5, h⟩ := g_bd h
    refine g_callvV C 129 [gi x7, gi s0] (kX4_give hN eq5) qs_X4_59 (by omega) (by omega) rfl rfl rfl rfl (Nat.le_of_ble_eq_true rfl) ⟨Nat.zero_le _, Nat.zero_le _⟩ dX4_match_178 ?_
    refine g_goto C dX4_match_181 (tgt := 255) (by decide) ?_
    refine g_sub [1, 2, 3] rfl ?_
    exact wX4_match_b255 hN C hr hK11 h
  · have h := g_tt c4 h
    refine g_iconst (v := 3) C dX4_match_171 (by decide) ?_
    obtain ⟨rfl, rfl⟩ := Prod.mk.inj (Option.some.inj h)
    exact g_reti C hr dX4_match_172

set_option maxHeartbeats 2000000 in
set_option maxRecDepth 20000 in
theorem wX4_match_b129 (hN : 183 ≤ N) {A0 A' : gM} {r : Int32} (C : gC p R s m args meth c cX4_match RX4 9 D g (va_A (gw g ad ln A0 N) s.heap.size) 2) (hr : meth.sig.returnType = some .int) {K11 : gM → Int32 → Int32 → Option (gM × Int32)} (hK11 : ∀ {A : gM} {x3 : Int32} {x4 : Int32}, K11 A x3 x4 = some (A', r) → gJ p l e R s m args below meth c (gEi below D g N ad ln A0 A' r args s) 9 D g (va_A (gw g ad ln A0 N) s.heap.size) N ad ln A [(0, gr 129), (3, gi x3), (4, gi x4)] 0 0 11 []) {A : gM} {x3 : Int32} {x4 : Int32} {x5 : Int32} {x6 : Int32} {s0 : Int32} (h : mX4_match_b129 K11 A x3 x4 x5 x6 s0 = some (A', r)) : gJ p l e R s m args below meth c (gEi below D g N ad ln A0 A' r args s) 9 D g (va_A (gw g ad ln A0 N) s.heap.size) N ad ln A [(0, gr 129), (3, gi x3), (4, gi x4), (5, gi x5), (6, gi x6)] 0 0 129 [gi s0] := by
  unfold mX4_match_b129 at h
  refine g_istore C dX4_match_129 (by decide) rfl ?_
  refine g_iload C 0 dX4_match_131 rfl ?_
  refine g_iload C 4 dX4_match_133 rfl ?_
  refine g_icmp_ne C dX4_match_135 (tgt := 143) (by decide) (fun c1 => ?_) (fun c1 => ?_)
  · have h := g_ff c1 h
    refine g_iload C 4 dX4_match_143 rfl ?_
    refine g_sub [1, 2, 3, 0] rfl ?_
    exact wX4_match_b145 hN C hr hK11 h
  · have h := g_tt c1 h
    refine g_iload C 5 dX4_match_138 rfl ?_
    refine g_goto C dX4_match_140 (tgt := 145) (by decide) ?_
    refine g_sub [1, 2, 3, 0] rfl ?_
    exact wX4_match_b145 hN C hr hK11 h

set_option maxHeartbeats 2000000 in
set_option maxRecDepth 20000 in
theorem wX4_match_b111 (hN : 183 ≤ N) {A0 A' : gM} {r : Int32} (C : gC p R s m args meth c cX4_match RX4 9 D g (va_A (gw g ad ln A0 N) s.heap.size) 2) (hr : meth.sig.returnType = some .int) {K11 : gM → Int32 → Int32 → Option (gM × Int32)} (hK11 : ∀ {A : gM} {x3 : Int32} {x4 : Int32}, K11 A x3 x4 = some (A', r) → gJ p l e R s m args below meth c (gEi below D g N ad ln A0 A' r args s) 9 D g (va_A (gw g ad ln A0 N) s.heap.size) N ad ln A [(0, gr 129), (3, gi x3), (4, gi x4)] 0 0 11 []) {A : gM} {x3 : Int32} {x4 : Int32} {x5 : Int32} {x6 : Int32} (h : mX4_match_b111 K11 A x3 x4 x5 x6 = some (A', r)) : gJ p l e R s m args below meth c (gEi below D g N ad ln A0 A' r args s) 9 D g (va_A (gw g ad ln A0 N) s.heap.size) N ad ln A [(0, gr 129), (3, gi x3), (4, gi x4), (5, gi x5), (6, gi x6)] 0 0 111 [] := by
  unfold mX4_match_b111 at h
  refine g_aload_n C 0 dX4_match_111 rfl ?_
  refine g_get (v := gr 130) C 129 0 (by omega) rfl rfl gu_4 (by decide) qf_X4_11 rfl dX4_match_112 ?_
  refine g_iload C 3 dX4_match_115 rfl ?_
  obtain ⟨hg1, h⟩ := g_gd h
  refine g_iald C 130 (by omega) rfl rfl hg1 dX4_match_117 ?_
  refine g_iconst (v := 4) C dX4_match_118 (by decide) ?_
  refine g_icmp_ne C dX4_match_119 (tgt := 127) (by decide) (fun c2 => ?_) (fun c2 => ?_)
  · have h := g_ff c2 h
    refine g_iload C 4 dX4_match_127 rfl ?_
    refine g_sub [0, 1, 2, 3, 4] rfl ?_
    exact wX4_match_b129 hN C hr hK11 h
  · have h := g_tt c2 h
    refine g_iload C 3 dX4_match_122 rfl ?_
    refine g_goto C dX4_match_124 (tgt := 129) (by decide) ?_
    refine g_sub [0, 1, 2, 3, 4] rfl ?_
    exact wX4_match_b129 hN C hr hK11 h

set_option maxHeartbeats 2000000 in
set_option maxRecDepth 20000 in
theorem wX4_match_b11 (hN : 183 ≤ N) {A0 A' : gM} {r : Int32} (C : gC p R s m args meth c cX4_match RX4 9 D g (va_A (gw g ad ln A0 N) s.heap.size) 2) (hr : meth.sig.returnType = some .int) {K11 : gM → Int32 → Int32 → Option (gM × Int32)} (hK11 : ∀ {A : gM} {x3 : Int32} {x4 : Int32}, K11 A x3 x4 = some (A', r) → gJ p l e R s m args below meth c (gEi below D g N ad ln A0 A' r args s) 9 D g (va_A (gw g ad ln A0 N) s.heap.size) N ad ln A [(0, gr 129), (3, gi x3), (4, gi x4)] 0 0 11 []) {A : gM} {x3 : Int32} {x4 : Int32} (h : mX4_match_b11 K11 A x3 x4 = some (A', r)) : gJ p l e R s m args below meth c (gEi below D g N ad ln A0 A' r args s) 9 D g (va_A (gw g ad ln A0 N) s.heap.size) N ad ln A [(0, gr 129), (3, gi x3), (4, gi x4)] 0 0 11 [] := by
  unfold mX4_match_b11 at h
  refine g_iload_n C 1 dX4_match_11 rfl ?_
  refine g_if_le C dX4_match_12 (tgt := 261) (by decide) (fun c1 => ?_) (fun c1 => ?_)
  · have h := g_tt c1 h
    refine g_sub [] rfl ?_
    exact wX4_match_b261 hN C hr h
  · have h := g_ff c1 h
    refine g_iload C 2 dX4_match_15 rfl ?_
    refine g_ldc C qc_X4_47 dX4_match_17 ?_
    refine g_icmp_ge C dX4_match_19 (tgt := 261) (by decide) (fun c2 => ?_) (fun c2 => ?_)
    · have h := g_tt c2 h
      refine g_sub [] rfl ?_
      exact wX4_match_b261 hN C hr h
    · have h := g_ff c2 h
      obtain ⟨v3, ev3, h⟩ := g_lt h
      refine g_iinc C 1 dX4_match_22 rfl ev3 (by decide) rfl ?_
      refine g_aload_n C 1 dX4_match_25 rfl ?_
      refine g_get (v := gr 135) C 129 5 (by omega) rfl rfl gu_4 (by decide) qf_X4_27 rfl dX4_match_26 ?_
      refine g_iload_n C 0 dX4_match_29 rfl ?_
      obtain ⟨hg4, h⟩ := g_gd h
      refine g_iald C 135 (by omega) rfl rfl hg4 dX4_match_30 ?_
      refine g_if_ge C dX4_match_31 (tgt := 55) (by decide) (fun c5 => ?_) (fun c5 => ?_)
      · have h := g_tt c5 h
        refine g_aload_n C 1 dX4_match_55 rfl ?_
        refine g_aload_n C 1 dX4_match_56 rfl ?_
        refine g_get (v := gr 135) C 129 5 (by omega) rfl rfl gu_4 (by decide) qf_X4_27 rfl dX4_match_57 ?_
        refine g_iload_n C 0 dX4_match_60 rfl ?_
        obtain ⟨hg6, h⟩ := g_gd h
        refine g_iald C 135 (by omega) rfl rfl hg6 dX4_match_61 ?_
        obtain ⟨q7, eq7, h⟩ := g_bd h
        refine g_calliV C 129 [gi (A 135 v3.toNatClampNeg)] (kX4_resolve hN eq7) qs_X4_48 (by omega) (by omega) rfl rfl rfl rfl (Nat.le_of_ble_eq_true rfl) ⟨Nat.zero_le _, Nat.zero_le _⟩ dX4_match_62 ?_
        refine g_istore C dX4_match_65 (by decide) rfl ?_
        refine g_aload_n C 2 dX4_match_67 rfl ?_
        refine g_aload_n C 2 dX4_match_68 rfl ?_
        refine g_get (v := gr 136) C 129 6 (by omega) rfl rfl gu_4 (by decide) qf_X4_30 rfl dX4_match_69 ?_
        refine g_iload_n C 1 dX4_match_72 rfl ?_
        obtain ⟨hg8, h⟩ := g_gd h
        refine g_iald C 136 (by omega) rfl rfl hg8 dX4_match_73 ?_
        obtain ⟨q9, eq9, h⟩ := g_bd h
        refine g_calliV C 129 [gi (q7.1 136 v3.toNatClampNeg)] (kX4_resolve hN eq9) qs_X4_48 (by omega) (by omega) rfl rfl rfl rfl (Nat.le_of_ble_eq_true rfl) ⟨Nat.zero_le _, Nat.zero_le _⟩ dX4_match_74 ?_
        refine g_istore C dX4_match_77 (by decide) rfl ?_
        refine g_iload C 1 dX4_match_79 rfl ?_
        refine g_iload C 0 dX4_match_81 rfl ?_
        refine g_icmp_ne C dX4_match_83 (tgt := 89) (by decide) (fun c10 => ?_) (fun c10 => ?_)
        · have h := g_ff c10 h
          refine g_aload_n C 3 dX4_match_89 rfl ?_
          refine g_get (v := gr 130) C 129 0 (by omega) rfl rfl gu_4 (by decide) qf_X4_11 rfl dX4_match_90 ?_
          refine g_iload C 1 dX4_match_93 rfl ?_
          obtain ⟨hg11, h⟩ := g_gd h
          refine g_iald C 130 (by omega) rfl rfl hg11 dX4_match_95 ?_
          refine g_iconst (v := 4) C dX4_match_96 (by decide) ?_
          refine g_icmp_eq C dX4_match_97 (tgt := 111) (by decide) (fun c12 => ?_) (fun c12 => ?_)
          · have h := g_tt c12 h
            refine g_sub [3, 2, 4, 1, 0] rfl ?_
            exact wX4_match_b111 hN C hr hK11 h
          · have h := g_ff c12 h
            refine g_aload_n C 3 dX4_match_100 rfl ?_
            refine g_get (v := gr 130) C 129 0 (by omega) rfl rfl gu_4 (by decide) qf_X4_11 rfl dX4_match_101 ?_
            refine g_iload C 0 dX4_match_104 rfl ?_
            obtain ⟨hg13, h⟩ := g_gd h
            refine g_iald C 130 (by omega) rfl rfl hg13 dX4_match_106 ?_
            refine g_iconst (v := 4) C dX4_match_107 (by decide) ?_
            refine g_icmp_ne C dX4_match_108 (tgt := 184) (by decide) (fun c14 => ?_) (fun c14 => ?_)
            · have h := g_ff c14 h
              refine g_aload_n C 3 dX4_match_184 rfl ?_
              refine g_get (v := gr 130) C 129 0 (by omega) rfl rfl gu_4 (by decide) qf_X4_11 rfl dX4_match_185 ?_
              refine g_iload C 1 dX4_match_188 rfl ?_
              obtain ⟨hg15, h⟩ := g_gd h
              refine g_iald C 130 (by omega) rfl rfl hg15 dX4_match_190 ?_
              refine g_aload_n C 3 dX4_match_191 rfl ?_
              refine g_get (v := gr 130) C 129 0 (by omega) rfl rfl gu_4 (by decide) qf_X4_11 rfl dX4_match_192 ?_
              refine g_iload C 0 dX4_match_195 rfl ?_
              obtain ⟨hg16, h⟩ := g_gd h
              refine g_iald C 130 (by omega) rfl rfl hg16 dX4_match_197 ?_
              refine g_icmp_eq C dX4_match_198 (tgt := 203) (by decide) (fun c17 => ?_) (fun c17 => ?_)
              · have h := g_tt c17 h
                refine g_aload_n C 3 dX4_match_203 rfl ?_
                refine g_iload_n C 2 dX4_match_204 rfl ?_
                refine g_iconst (v := (-1)) C dX4_match_205 (by decide) ?_
                refine g_iload C 1 dX4_match_206 rfl ?_
                refine g_isub C dX4_match_208 ?_
                refine g_iload C 0 dX4_match_209 rfl ?_
                obtain ⟨q18, eq18, h⟩ := g_bd h
                refine g_calliV C 129 [gi v3, gi ((-1) - q7.2), gi q9.2] (kX4_putPair hN eq18) qs_X4_56 (by omega) (by omega) rfl rfl rfl rfl (Nat.le_of_ble_eq_true rfl) ⟨Nat.zero_le _, Nat.zero_le _⟩ dX4_match_211 ?_
                refine g_istore_n C dX4_match_214 (by decide) rfl ?_
                refine g_aload_n C 3 dX4_match_215 rfl ?_
                refine g_iload_n C 0 dX4_match_216 rfl ?_
                refine g_aload_n C 3 dX4_match_217 rfl ?_
                refine g_get (v := gr 132) C 129 2 (by omega) rfl rfl gu_4 (by decide) qf_X4_18 rfl dX4_match_218 ?_
                refine g_iload C 2 dX4_match_221 rfl ?_
                obtain ⟨hg19, h⟩ := g_gd h
                refine g_iald C 132 (by omega) rfl rfl hg19 dX4_match_223 ?_
                refine g_aload_n C 3 dX4_match_224 rfl ?_
                refine g_get (v := gr 132) C 129 2 (by omega) rfl rfl gu_4 (by decide) qf_X4_18 rfl dX4_match_225 ?_
                refine g_iload C 1 dX4_match_228 rfl ?_
                obtain ⟨hg20, h⟩ := g_gd h
                refine g_iald C 132 (by omega) rfl rfl hg20 dX4_match_230 ?_
                obtain ⟨q21, eq21, h⟩ := g_bd h
                refine g_calliV C 129 [gi q18.2, gi (q18.1 132 q7.2.toNatClampNeg), gi (q18.1 132 q9.2.toNatClampNeg)] (kX4_putPair hN eq21) qs_X4_56 (by omega) (by omega) rfl rfl rfl rfl (Nat.le_of_ble_eq_true rfl) ⟨Nat.zero_le _, Nat.zero_le _⟩ dX4_match_231 ?_
                refine g_istore_n C dX4_match_234 (by decide) rfl ?_
                refine g_aload_n C 3 dX4_match_235 rfl ?_
                refine g_iload_n C 0 dX4_match_236 rfl ?_
                refine g_aload_n C 3 dX4_match_237 rfl ?_
                refine g_get (v := gr 131) C 129 1 (by omega) rfl rfl gu_4 (by decide) qf_X4_15 rfl dX4_match_238 ?_
                refine g_iload C 2 dX4_match_241 rfl ?_
                obtain ⟨hg22, h⟩ := g_gd h
                refine g_iald C 131 (by omega) rfl rfl hg22 dX4_match_243 ?_
                refine g_aload_n C 3 dX4_match_244 rfl ?_
                refine g_get (v := gr 131) C 129 1 (by omega) rfl rfl gu_4 (by decide) qf_X4_15 rfl dX4_match_245 ?_
                refine g_iload C 1 dX4_match_248 rfl ?_
                obtain ⟨hg23, h⟩ := g_gd h
                refine g_iald C 131 (by omega) rfl rfl hg23 dX4_match_250 ?_
                obtain ⟨q24, eq24, h⟩ := g_bd h
                refine g_calliV C 129 [gi q21.2, gi (q21.1 131 q7.2.toNatClampNeg), gi (q21.1 131 q9.2.toNatClampNeg)] (kX4_putPair hN eq24) qs_X4_56 (by omega) (by omega) rfl rfl rfl rfl (Nat.le_of_ble_eq_true rfl) ⟨Nat.zero_le _, Nat.zero_le _⟩ dX4_match_251 ?_
                refine g_istore_n C dX4_match_254 (by decide) rfl ?_
                refine g_sub [3, 0, 4] rfl ?_
                exact wX4_match_b255 hN C hr hK11 h
              · have h := g_ff c17 h
                refine g_iconst (v := 2) C dX4_match_201 (by decide) ?_
                obtain ⟨rfl, rfl⟩ := Prod.mk.inj (Option.some.inj h)
                exact g_reti C hr dX4_match_202
            · have h := g_tt c14 h
              refine g_sub [3, 2, 4, 1, 0] rfl ?_
              exact wX4_match_b111 hN C hr hK11 h
        · have h := g_tt c10 h
          refine g_goto C dX4_match_86 (tgt := 255) (by decide) ?_
          refine g_sub [3, 2, 4] rfl ?_
          exact wX4_match_b255 hN C hr hK11 h
      · have h := g_ff c5 h
        refine g_aload_n C 1 dX4_match_34 rfl ?_
        refine g_iconst (v := (-1)) C dX4_match_35 (by decide) ?_
        refine g_aload_n C 1 dX4_match_36 rfl ?_
        refine g_get (v := gr 135) C 129 5 (by omega) rfl rfl gu_4 (by decide) qf_X4_27 rfl dX4_match_37 ?_
        refine g_iload_n C 0 dX4_match_40 rfl ?_
        obtain ⟨hg25, h⟩ := g_gd h
        refine g_iald C 135 (by omega) rfl rfl hg25 dX4_match_41 ?_
        refine g_isub C dX4_match_42 ?_
        refine g_aload_n C 1 dX4_match_43 rfl ?_
        refine g_get (v := gr 136) C 129 6 (by omega) rfl rfl gu_4 (by decide) qf_X4_30 rfl dX4_match_44 ?_
        refine g_iload_n C 0 dX4_match_47 rfl ?_
        obtain ⟨hg26, h⟩ := g_gd h
        refine g_iald C 136 (by omega) rfl rfl hg26 dX4_match_48 ?_
        obtain ⟨q27, eq27, h⟩ := g_bd h
        refine g_callvV C 129 [gi ((-1) - (A 135 v3.toNatClampNeg)), gi (A 136 v3.toNatClampNeg)] (kX4_give hN eq27) qs_X4_59 (by omega) (by omega) rfl rfl rfl rfl (Nat.le_of_ble_eq_true rfl) ⟨Nat.zero_le _, Nat.zero_le _⟩ dX4_match_49 ?_
        refine g_goto C dX4_match_52 (tgt := 255) (by decide) ?_
        refine g_sub [1, 0, 2] rfl ?_
        exact wX4_match_b255 hN C hr hK11 h

set_option maxHeartbeats 2000000 in
set_option maxRecDepth 20000 in
theorem wX4_match_L11 (hN : 183 ≤ N) {A0 A' : gM} {r : Int32} (C : gC p R s m args meth c cX4_match RX4 9 D g (va_A (gw g ad ln A0 N) s.heap.size) 2) (hr : meth.sig.returnType = some .int)  : ∀ (f : Nat) {A : gM} {x3 : Int32} {x4 : Int32}, mX4_match_L11 f A x3 x4 = some (A', r) → gJ p l e R s m args below meth c (gEi below D g N ad ln A0 A' r args s) 9 D g (va_A (gw g ad ln A0 N) s.heap.size) N ad ln A [(0, gr 129), (3, gi x3), (4, gi x4)] 0 0 11 []
  | 0, A, x3, x4, h => by cases h
  | f + 1, A, x3, x4, h => wX4_match_b11 hN C hr (fun {A} {x3} {x4} h => wX4_match_L11 hN C hr f h) h
set_option maxHeartbeats 2000000 in
set_option maxRecDepth 20000 in
theorem wX4_match_b0 (hN : 183 ≤ N) {A0 A' : gM} {r : Int32} (C : gC p R s m args meth c cX4_match RX4 9 D g (va_A (gw g ad ln A0 N) s.heap.size) 2) (hr : meth.sig.returnType = some .int)  {A : gM} {x1 : Int32} {x2 : Int32} (h : mX4_match_b0 A x1 x2 = some (A', r)) : gJ p l e R s m args below meth c (gEi below D g N ad ln A0 A' r args s) 9 D g (va_A (gw g ad ln A0 N) s.heap.size) N ad ln A [(0, gr 129), (1, gi x1), (2, gi x2)] 0 0 0 [] := by
  unfold mX4_match_b0 at h
  refine g_aload_n C 0 dX4_match_0 rfl ?_
  refine g_iconst (v := 0) C dX4_match_1 (by decide) ?_
  refine g_iload_n C 1 dX4_match_2 rfl ?_
  refine g_iload_n C 2 dX4_match_3 rfl ?_
  obtain ⟨q1, eq1, h⟩ := g_bd h
  refine g_calliV C 129 [gi 0, gi x1, gi x2] (kX4_putPair hN eq1) qs_X4_56 (by omega) (by omega) rfl rfl rfl rfl (Nat.le_of_ble_eq_true rfl) ⟨Nat.zero_le _, Nat.zero_le _⟩ dX4_match_4 ?_
  refine g_istore_n C dX4_match_7 (by decide) rfl ?_
  refine g_iconst (v := 0) C dX4_match_8 (by decide) ?_
  refine g_istore C dX4_match_9 (by decide) rfl ?_
  refine g_sub [2, 1, 0] rfl ?_
  exact wX4_match_L11 hN C hr gF h

set_option maxHeartbeats 2000000 in
set_option maxRecDepth 20000 in
theorem kX4_match {l : Launch} {D : va_G} {g : gT} {N : Nat} {ad ln : Nat → Nat} (hN : 183 ≤ N) {A A' : gM} {x1 : Int32} {x2 : Int32} {r : Int32} (h : mX4_match A x1 x2 = some (A', r)) : gKi l yX4_match cX4_match 9 (some .int) (2) D g N ad ln A [gr 129, gi x1, gi x2] A' r := by
  refine g_meti (by decide) (Nat.le_of_ble_eq_true rfl) ?_
  intro p e s m args below meth c C hr
  refine g_sub [0, 1, 2] rfl ?_
  exact wX4_match_b0 hN C hr h
end T4
end
