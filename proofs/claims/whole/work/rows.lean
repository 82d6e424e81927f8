section
-- ===== PART A: goes FIRST, ahead of the names: the tables' words, and 'selects' of the private methods out of them =====
/-- a private method of a class that the tables say can be made, by its rows of tables_1 -/
def lw_okq (q : MethodName × Nat) : Prop := (q.1.cls ≠ "java/lang/invoke/MethodHandle" ∧ q.1.cls ≠ "java/lang/invoke/VarHandle") ∧ Cond.instantiable q.1.cls q.2 ∈ tables_1 ∧ Cond.privateMethod q.1 ∈ tables_1 ∧ Cond.instanceMethod q.1 ∈ tables_1
theorem lw_p0 : lw_okq (⟨"GearTypes", "counted", "(I)I"⟩, 3) := ⟨⟨by decide +kernel, by decide +kernel⟩, List.mem_of_getElem? (i := 17) (by decide +kernel), List.mem_of_getElem? (i := 169) (by decide +kernel), List.mem_of_getElem? (i := 170) (by decide +kernel)⟩
theorem lw_p1 : lw_okq (⟨"GearTypes", "needBetween", "(III)V"⟩, 3) := ⟨⟨by decide +kernel, by decide +kernel⟩, List.mem_of_getElem? (i := 17) (by decide +kernel), List.mem_of_getElem? (i := 196) (by decide +kernel), List.mem_of_getElem? (i := 197) (by decide +kernel)⟩
theorem lw_p2 : lw_okq (⟨"java/lang/Throwable", "fillInStackTrace", "(I)Ljava/lang/Throwable;"⟩, 6) := ⟨⟨by decide +kernel, by decide +kernel⟩, List.mem_of_getElem? (i := 238) (by decide +kernel), List.mem_of_getElem? (i := 236) (by decide +kernel), List.mem_of_getElem? (i := 237) (by decide +kernel)⟩
theorem lw_p3 : lw_okq (⟨"GearTypes", "add", "(IIIII)I"⟩, 3) := ⟨⟨by decide +kernel, by decide +kernel⟩, List.mem_of_getElem? (i := 17) (by decide +kernel), List.mem_of_getElem? (i := 263) (by decide +kernel), List.mem_of_getElem? (i := 264) (by decide +kernel)⟩
theorem lw_p4 : lw_okq (⟨"GearTypes$Parts", "sizeOf", "(I)I"⟩, 2) := ⟨⟨by decide +kernel, by decide +kernel⟩, List.mem_of_getElem? (i := 25) (by decide +kernel), List.mem_of_getElem? (i := 271) (by decide +kernel), List.mem_of_getElem? (i := 272) (by decide +kernel)⟩
theorem lw_p5 : lw_okq (⟨"GearTypes$Parts", "depthOf", "(I)I"⟩, 2) := ⟨⟨by decide +kernel, by decide +kernel⟩, List.mem_of_getElem? (i := 25) (by decide +kernel), List.mem_of_getElem? (i := 296) (by decide +kernel), List.mem_of_getElem? (i := 297) (by decide +kernel)⟩
theorem lw_p6 : lw_okq (⟨"GearTypes$Finder", "find", "(LGearTypes$Parts;II)I"⟩, 5) := ⟨⟨by decide +kernel, by decide +kernel⟩, List.mem_of_getElem? (i := 61) (by decide +kernel), List.mem_of_getElem? (i := 319) (by decide +kernel), List.mem_of_getElem? (i := 320) (by decide +kernel)⟩
theorem lw_p7 : lw_okq (⟨"GearTypes$Finder", "fail", "(II)I"⟩, 5) := ⟨⟨by decide +kernel, by decide +kernel⟩, List.mem_of_getElem? (i := 61) (by decide +kernel), List.mem_of_getElem? (i := 323) (by decide +kernel), List.mem_of_getElem? (i := 324) (by decide +kernel)⟩
theorem lw_p8 : lw_okq (⟨"GearTypes$Finder", "findName", "(LGearTypes$Parts;I)I"⟩, 5) := ⟨⟨by decide +kernel, by decide +kernel⟩, List.mem_of_getElem? (i := 61) (by decide +kernel), List.mem_of_getElem? (i := 328) (by decide +kernel), List.mem_of_getElem? (i := 329) (by decide +kernel)⟩
theorem lw_p9 : lw_okq (⟨"GearTypes$Types", "isPair", "(I)Z"⟩, 11) := ⟨⟨by decide +kernel, by decide +kernel⟩, List.mem_of_getElem? (i := 67) (by decide +kernel), List.mem_of_getElem? (i := 352) (by decide +kernel), List.mem_of_getElem? (i := 353) (by decide +kernel)⟩
theorem lw_p10 : lw_okq (⟨"GearTypes$Types", "variableAt", "(I)I"⟩, 11) := ⟨⟨by decide +kernel, by decide +kernel⟩, List.mem_of_getElem? (i := 67) (by decide +kernel), List.mem_of_getElem? (i := 364) (by decide +kernel), List.mem_of_getElem? (i := 365) (by decide +kernel)⟩
theorem lw_p11 : lw_okq (⟨"GearTypes$Finder", "findWheel", "(LGearTypes$Parts;II)I"⟩, 5) := ⟨⟨by decide +kernel, by decide +kernel⟩, List.mem_of_getElem? (i := 61) (by decide +kernel), List.mem_of_getElem? (i := 368) (by decide +kernel), List.mem_of_getElem? (i := 369) (by decide +kernel)⟩
theorem lw_p12 : lw_okq (⟨"GearTypes$Finder", "findTurning", "(LGearTypes$Parts;II)I"⟩, 5) := ⟨⟨by decide +kernel, by decide +kernel⟩, List.mem_of_getElem? (i := 61) (by decide +kernel), List.mem_of_getElem? (i := 389) (by decide +kernel), List.mem_of_getElem? (i := 390) (by decide +kernel)⟩
theorem lw_p13 : lw_okq (⟨"GearTypes$Types", "putPair", "(III)I"⟩, 11) := ⟨⟨by decide +kernel, by decide +kernel⟩, List.mem_of_getElem? (i := 67) (by decide +kernel), List.mem_of_getElem? (i := 397) (by decide +kernel), List.mem_of_getElem? (i := 398) (by decide +kernel)⟩
theorem lw_p14 : lw_okq (⟨"GearTypes$Types", "give", "(II)V"⟩, 11) := ⟨⟨by decide +kernel, by decide +kernel⟩, List.mem_of_getElem? (i := 67) (by decide +kernel), List.mem_of_getElem? (i := 402) (by decide +kernel), List.mem_of_getElem? (i := 403) (by decide +kernel)⟩
theorem lw_p15 : lw_okq (⟨"GearTypes$Types", "resolve", "(I)I"⟩, 11) := ⟨⟨by decide +kernel, by decide +kernel⟩, List.mem_of_getElem? (i := 67) (by decide +kernel), List.mem_of_getElem? (i := 406) (by decide +kernel), List.mem_of_getElem? (i := 407) (by decide +kernel)⟩
def lw_privs_1 : List (MethodName × Nat) := [(⟨"GearTypes", "counted", "(I)I"⟩, 3), (⟨"GearTypes", "needBetween", "(III)V"⟩, 3), (⟨"java/lang/Throwable", "fillInStackTrace", "(I)Ljava/lang/Throwable;"⟩, 6), (⟨"GearTypes", "add", "(IIIII)I"⟩, 3), (⟨"GearTypes$Parts", "sizeOf", "(I)I"⟩, 2), (⟨"GearTypes$Parts", "depthOf", "(I)I"⟩, 2), (⟨"GearTypes$Finder", "find", "(LGearTypes$Parts;II)I"⟩, 5), (⟨"GearTypes$Finder", "fail", "(II)I"⟩, 5), (⟨"GearTypes$Finder", "findName", "(LGearTypes$Parts;I)I"⟩, 5), (⟨"GearTypes$Types", "isPair", "(I)Z"⟩, 11), (⟨"GearTypes$Types", "variableAt", "(I)I"⟩, 11), (⟨"GearTypes$Finder", "findWheel", "(LGearTypes$Parts;II)I"⟩, 5), (⟨"GearTypes$Finder", "findTurning", "(LGearTypes$Parts;II)I"⟩, 5), (⟨"GearTypes$Types", "putPair", "(III)I"⟩, 11), (⟨"GearTypes$Types", "give", "(II)V"⟩, 11), (⟨"GearTypes$Types", "resolve", "(I)I"⟩, 11)]
theorem lw_r1 : ∀ q ∈ lw_privs_1, lw_okq q := List.forall_mem_cons.mpr ⟨lw_p0, List.forall_mem_cons.mpr ⟨lw_p1, List.forall_mem_cons.mpr ⟨lw_p2, List.forall_mem_cons.mpr ⟨lw_p3, List.forall_mem_cons.mpr ⟨lw_p4, List.forall_mem_cons.mpr ⟨lw_p5, List.forall_mem_cons.mpr ⟨lw_p6, List.forall_mem_cons.mpr ⟨lw_p7, List.forall_mem_cons.mpr ⟨lw_p8, List.forall_mem_cons.mpr ⟨lw_p9, List.forall_mem_cons.mpr ⟨lw_p10, List.forall_mem_cons.mpr ⟨lw_p11, List.forall_mem_cons.mpr ⟨lw_p12, List.forall_mem_cons.mpr ⟨lw_p13, List.forall_mem_cons.mpr ⟨lw_p14, List.forall_mem_cons.mpr ⟨lw_p15, fun _ h => absurd h List.not_mem_nil⟩⟩⟩⟩⟩⟩⟩⟩⟩⟩⟩⟩⟩⟩⟩⟩
theorem lw_p16 : lw_okq (⟨"GearTypes$Finder", "findTelling", "(LGearTypes$Parts;II)I"⟩, 5) := ⟨⟨by decide +kernel, by decide +kernel⟩, List.mem_of_getElem? (i := 61) (by decide +kernel), List.mem_of_getElem? (i := 418) (by decide +kernel), List.mem_of_getElem? (i := 419) (by decide +kernel)⟩
theorem lw_p17 : lw_okq (⟨"GearTypes$Types", "codeOf", "(I)I"⟩, 11) := ⟨⟨by decide +kernel, by decide +kernel⟩, List.mem_of_getElem? (i := 67) (by decide +kernel), List.mem_of_getElem? (i := 434) (by decide +kernel), List.mem_of_getElem? (i := 435) (by decide +kernel)⟩
theorem lw_p18 : lw_okq (⟨"GearTypes$Types", "seatOf", "(I)I"⟩, 11) := ⟨⟨by decide +kernel, by decide +kernel⟩, List.mem_of_getElem? (i := 67) (by decide +kernel), List.mem_of_getElem? (i := 439) (by decide +kernel), List.mem_of_getElem? (i := 440) (by decide +kernel)⟩
theorem lw_p19 : lw_okq (⟨"GearTypes$Finder", "findAxle", "(LGearTypes$Parts;II)I"⟩, 5) := ⟨⟨by decide +kernel, by decide +kernel⟩, List.mem_of_getElem? (i := 61) (by decide +kernel), List.mem_of_getElem? (i := 443) (by decide +kernel), List.mem_of_getElem? (i := 444) (by decide +kernel)⟩
theorem lw_p20 : lw_okq (⟨"GearTypes$Finder", "findEnd", "(LGearTypes$Parts;II)I"⟩, 5) := ⟨⟨by decide +kernel, by decide +kernel⟩, List.mem_of_getElem? (i := 61) (by decide +kernel), List.mem_of_getElem? (i := 447) (by decide +kernel), List.mem_of_getElem? (i := 448) (by decide +kernel)⟩
theorem lw_p21 : lw_okq (⟨"GearTypes$Finder", "findChoice", "(LGearTypes$Parts;II)I"⟩, 5) := ⟨⟨by decide +kernel, by decide +kernel⟩, List.mem_of_getElem? (i := 61) (by decide +kernel), List.mem_of_getElem? (i := 451) (by decide +kernel), List.mem_of_getElem? (i := 452) (by decide +kernel)⟩
theorem lw_p22 : lw_okq (⟨"GearTypes$Finder", "isTooLong", "(I)Z"⟩, 5) := ⟨⟨by decide +kernel, by decide +kernel⟩, List.mem_of_getElem? (i := 61) (by decide +kernel), List.mem_of_getElem? (i := 455) (by decide +kernel), List.mem_of_getElem? (i := 456) (by decide +kernel)⟩
theorem lw_p23 : lw_okq (⟨"GearTypes$Rows", "putFacts", "(IIII)V"⟩, 4) := ⟨⟨by decide +kernel, by decide +kernel⟩, List.mem_of_getElem? (i := 41) (by decide +kernel), List.mem_of_getElem? (i := 463) (by decide +kernel), List.mem_of_getElem? (i := 464) (by decide +kernel)⟩
theorem lw_p24 : lw_okq (⟨"GearTypes$Rows", "variablesIn", "(II)I"⟩, 4) := ⟨⟨by decide +kernel, by decide +kernel⟩, List.mem_of_getElem? (i := 41) (by decide +kernel), List.mem_of_getElem? (i := 467) (by decide +kernel), List.mem_of_getElem? (i := 468) (by decide +kernel)⟩
theorem lw_p25 : lw_okq (⟨"GearTypes$Rows", "depthOf", "(II)I"⟩, 4) := ⟨⟨by decide +kernel, by decide +kernel⟩, List.mem_of_getElem? (i := 41) (by decide +kernel), List.mem_of_getElem? (i := 473) (by decide +kernel), List.mem_of_getElem? (i := 474) (by decide +kernel)⟩
theorem lw_p26 : lw_okq (⟨"GearTypes$Rows", "isPair", "(I)Z"⟩, 4) := ⟨⟨by decide +kernel, by decide +kernel⟩, List.mem_of_getElem? (i := 41) (by decide +kernel), List.mem_of_getElem? (i := 477) (by decide +kernel), List.mem_of_getElem? (i := 478) (by decide +kernel)⟩
theorem lw_p27 : lw_okq (⟨"GearTypes", "needPart", "(I)V"⟩, 3) := ⟨⟨by decide +kernel, by decide +kernel⟩, List.mem_of_getElem? (i := 17) (by decide +kernel), List.mem_of_getElem? (i := 502) (by decide +kernel), List.mem_of_getElem? (i := 503) (by decide +kernel)⟩
theorem lw_p28 : lw_okq (⟨"GearTypes", "needPlace", "(II)V"⟩, 3) := ⟨⟨by decide +kernel, by decide +kernel⟩, List.mem_of_getElem? (i := 17) (by decide +kernel), List.mem_of_getElem? (i := 506) (by decide +kernel), List.mem_of_getElem? (i := 507) (by decide +kernel)⟩
theorem lw_p29 : lw_okq (⟨"GearTypes", "bothTyped", "(II)Z"⟩, 3) := ⟨⟨by decide +kernel, by decide +kernel⟩, List.mem_of_getElem? (i := 17) (by decide +kernel), List.mem_of_getElem? (i := 606) (by decide +kernel), List.mem_of_getElem? (i := 607) (by decide +kernel)⟩
theorem lw_p30 : lw_okq (⟨"GearTypes$Rows", "endOf", "(II)I"⟩, 4) := ⟨⟨by decide +kernel, by decide +kernel⟩, List.mem_of_getElem? (i := 41) (by decide +kernel), List.mem_of_getElem? (i := 626) (by decide +kernel), List.mem_of_getElem? (i := 627) (by decide +kernel)⟩
theorem lw_p31 : lw_okq (⟨"GearTypes$Rows", "standsFor", "(IIII)Z"⟩, 4) := ⟨⟨by decide +kernel, by decide +kernel⟩, List.mem_of_getElem? (i := 41) (by decide +kernel), List.mem_of_getElem? (i := 630) (by decide +kernel), List.mem_of_getElem? (i := 631) (by decide +kernel)⟩
def lw_privs_2 : List (MethodName × Nat) := [(⟨"GearTypes$Finder", "findTelling", "(LGearTypes$Parts;II)I"⟩, 5), (⟨"GearTypes$Types", "codeOf", "(I)I"⟩, 11), (⟨"GearTypes$Types", "seatOf", "(I)I"⟩, 11), (⟨"GearTypes$Finder", "findAxle", "(LGearTypes$Parts;II)I"⟩, 5), (⟨"GearTypes$Finder", "findEnd", "(LGearTypes$Parts;II)I"⟩, 5), (⟨"GearTypes$Finder", "findChoice", "(LGearTypes$Parts;II)I"⟩, 5), (⟨"GearTypes$Finder", "isTooLong", "(I)Z"⟩, 5), (⟨"GearTypes$Rows", "putFacts", "(IIII)V"⟩, 4), (⟨"GearTypes$Rows", "variablesIn", "(II)I"⟩, 4), (⟨"GearTypes$Rows", "depthOf", "(II)I"⟩, 4), (⟨"GearTypes$Rows", "isPair", "(I)Z"⟩, 4), (⟨"GearTypes", "needPart", "(I)V"⟩, 3), (⟨"GearTypes", "needPlace", "(II)V"⟩, 3), (⟨"GearTypes", "bothTyped", "(II)Z"⟩, 3), (⟨"GearTypes$Rows", "endOf", "(II)I"⟩, 4), (⟨"GearTypes$Rows", "standsFor", "(IIII)Z"⟩, 4)]
theorem lw_r2 : ∀ q ∈ lw_privs_2, lw_okq q := List.forall_mem_cons.mpr ⟨lw_p16, List.forall_mem_cons.mpr ⟨lw_p17, List.forall_mem_cons.mpr ⟨lw_p18, List.forall_mem_cons.mpr ⟨lw_p19, List.forall_mem_cons.mpr ⟨lw_p20, List.forall_mem_cons.mpr ⟨lw_p21, List.forall_mem_cons.mpr ⟨lw_p22, List.forall_mem_cons.mpr ⟨lw_p23, List.forall_mem_cons.mpr ⟨lw_p24, List.forall_mem_cons.mpr ⟨lw_p25, List.forall_mem_cons.mpr ⟨lw_p26, List.forall_mem_cons.mpr ⟨lw_p27, List.forall_mem_cons.mpr ⟨lw_p28, List.forall_mem_cons.mpr ⟨lw_p29, List.forall_mem_cons.mpr ⟨lw_p30, List.forall_mem_cons.mpr ⟨lw_p31, fun _ h => absurd h List.not_mem_nil⟩⟩⟩⟩⟩⟩⟩⟩⟩⟩⟩⟩⟩⟩⟩⟩
theorem lw_p32 : lw_okq (⟨"GearTypes", "faultOfTurning", "(II)I"⟩, 3) := ⟨⟨by decide +kernel, by decide +kernel⟩, List.mem_of_getElem? (i := 17) (by decide +kernel), List.mem_of_getElem? (i := 641) (by decide +kernel), List.mem_of_getElem? (i := 642) (by decide +kernel)⟩
theorem lw_p33 : lw_okq (⟨"GearTypes$Finder", "buildRow", "(LGearTypes$Rows;I)I"⟩, 5) := ⟨⟨by decide +kernel, by decide +kernel⟩, List.mem_of_getElem? (i := 61) (by decide +kernel), List.mem_of_getElem? (i := 649) (by decide +kernel), List.mem_of_getElem? (i := 650) (by decide +kernel)⟩
theorem lw_p34 : lw_okq (⟨"GearTypesModel", "made", "(IIIIII)I"⟩, 14) := ⟨⟨by decide +kernel, by decide +kernel⟩, List.mem_of_getElem? (i := 662) (by decide +kernel), List.mem_of_getElem? (i := 723) (by decide +kernel), List.mem_of_getElem? (i := 724) (by decide +kernel)⟩
theorem lw_p35 : lw_okq (⟨"GearTypesModel", "size", "(I)I"⟩, 14) := ⟨⟨by decide +kernel, by decide +kernel⟩, List.mem_of_getElem? (i := 662) (by decide +kernel), List.mem_of_getElem? (i := 727) (by decide +kernel), List.mem_of_getElem? (i := 728) (by decide +kernel)⟩
theorem lw_p36 : lw_okq (⟨"GearTypesModel", "pa", "(II)I"⟩, 14) := ⟨⟨by decide +kernel, by decide +kernel⟩, List.mem_of_getElem? (i := 662) (by decide +kernel), List.mem_of_getElem? (i := 731) (by decide +kernel), List.mem_of_getElem? (i := 732) (by decide +kernel)⟩
theorem lw_p37 : lw_okq (⟨"GearTypesModel", "fail", "(I)I"⟩, 14) := ⟨⟨by decide +kernel, by decide +kernel⟩, List.mem_of_getElem? (i := 662) (by decide +kernel), List.mem_of_getElem? (i := 735) (by decide +kernel), List.mem_of_getElem? (i := 736) (by decide +kernel)⟩
theorem lw_p38 : lw_okq (⟨"GearTypesModel", "put", "(IIIII)V"⟩, 14) := ⟨⟨by decide +kernel, by decide +kernel⟩, List.mem_of_getElem? (i := 662) (by decide +kernel), List.mem_of_getElem? (i := 739) (by decide +kernel), List.mem_of_getElem? (i := 740) (by decide +kernel)⟩
theorem lw_p39 : lw_okq (⟨"GearTypesModel", "isPart", "(I)Z"⟩, 14) := ⟨⟨by decide +kernel, by decide +kernel⟩, List.mem_of_getElem? (i := 662) (by decide +kernel), List.mem_of_getElem? (i := 757) (by decide +kernel), List.mem_of_getElem? (i := 758) (by decide +kernel)⟩
theorem lw_p40 : lw_okq (⟨"GearTypesModel", "partTold", "(II)I"⟩, 14) := ⟨⟨by decide +kernel, by decide +kernel⟩, List.mem_of_getElem? (i := 662) (by decide +kernel), List.mem_of_getElem? (i := 789) (by decide +kernel), List.mem_of_getElem? (i := 790) (by decide +kernel)⟩
theorem lw_p41 : lw_okq (⟨"GearTypesModel", "depth", "(I)I"⟩, 14) := ⟨⟨by decide +kernel, by decide +kernel⟩, List.mem_of_getElem? (i := 662) (by decide +kernel), List.mem_of_getElem? (i := 793) (by decide +kernel), List.mem_of_getElem? (i := 794) (by decide +kernel)⟩
theorem lw_p42 : lw_okq (⟨"GearTypesModel", "typeTold", "(II)I"⟩, 14) := ⟨⟨by decide +kernel, by decide +kernel⟩, List.mem_of_getElem? (i := 662) (by decide +kernel), List.mem_of_getElem? (i := 802) (by decide +kernel), List.mem_of_getElem? (i := 803) (by decide +kernel)⟩
theorem lw_p43 : lw_okq (⟨"GearTypesModel", "typeOf", "(I)I"⟩, 14) := ⟨⟨by decide +kernel, by decide +kernel⟩, List.mem_of_getElem? (i := 662) (by decide +kernel), List.mem_of_getElem? (i := 806) (by decide +kernel), List.mem_of_getElem? (i := 807) (by decide +kernel)⟩
theorem lw_p44 : lw_okq (⟨"GearTypesModel", "found", "(I)I"⟩, 14) := ⟨⟨by decide +kernel, by decide +kernel⟩, List.mem_of_getElem? (i := 662) (by decide +kernel), List.mem_of_getElem? (i := 810) (by decide +kernel), List.mem_of_getElem? (i := 811) (by decide +kernel)⟩
theorem lw_p45 : lw_okq (⟨"GearTypesModel", "sortFound", "(I)I"⟩, 14) := ⟨⟨by decide +kernel, by decide +kernel⟩, List.mem_of_getElem? (i := 662) (by decide +kernel), List.mem_of_getElem? (i := 814) (by decide +kernel), List.mem_of_getElem? (i := 815) (by decide +kernel)⟩
theorem lw_p46 : lw_okq (⟨"GearTypesModel", "node", "(III)I"⟩, 14) := ⟨⟨by decide +kernel, by decide +kernel⟩, List.mem_of_getElem? (i := 662) (by decide +kernel), List.mem_of_getElem? (i := 818) (by decide +kernel), List.mem_of_getElem? (i := 819) (by decide +kernel)⟩
theorem lw_p47 : lw_okq (⟨"GearTypesModel", "nameFound", "(I)I"⟩, 14) := ⟨⟨by decide +kernel, by decide +kernel⟩, List.mem_of_getElem? (i := 662) (by decide +kernel), List.mem_of_getElem? (i := 825) (by decide +kernel), List.mem_of_getElem? (i := 826) (by decide +kernel)⟩
def lw_privs_3 : List (MethodName × Nat) := [(⟨"GearTypes", "faultOfTurning", "(II)I"⟩, 3), (⟨"GearTypes$Finder", "buildRow", "(LGearTypes$Rows;I)I"⟩, 5), (⟨"GearTypesModel", "made", "(IIIIII)I"⟩, 14), (⟨"GearTypesModel", "size", "(I)I"⟩, 14), (⟨"GearTypesModel", "pa", "(II)I"⟩, 14), (⟨"GearTypesModel", "fail", "(I)I"⟩, 14), (⟨"GearTypesModel", "put", "(IIIII)V"⟩, 14), (⟨"GearTypesModel", "isPart", "(I)Z"⟩, 14), (⟨"GearTypesModel", "partTold", "(II)I"⟩, 14), (⟨"GearTypesModel", "depth", "(I)I"⟩, 14), (⟨"GearTypesModel", "typeTold", "(II)I"⟩, 14), (⟨"GearTypesModel", "typeOf", "(I)I"⟩, 14), (⟨"GearTypesModel", "found", "(I)I"⟩, 14), (⟨"GearTypesModel", "sortFound", "(I)I"⟩, 14), (⟨"GearTypesModel", "node", "(III)I"⟩, 14), (⟨"GearTypesModel", "nameFound", "(I)I"⟩, 14)]
theorem lw_r3 : ∀ q ∈ lw_privs_3, lw_okq q := List.forall_mem_cons.mpr ⟨lw_p32, List.forall_mem_cons.mpr ⟨lw_p33, List.forall_mem_cons.mpr ⟨lw_p34, List.forall_mem_cons.mpr ⟨lw_p35, List.forall_mem_cons.mpr ⟨lw_p36, List.forall_mem_cons.mpr ⟨lw_p37, List.forall_mem_cons.mpr ⟨lw_p38, List.forall_mem_cons.mpr ⟨lw_p39, List.forall_mem_cons.mpr ⟨lw_p40, List.forall_mem_cons.mpr ⟨lw_p41, List.forall_mem_cons.mpr ⟨lw_p42, List.forall_mem_cons.mpr ⟨lw_p43, List.forall_mem_cons.mpr ⟨lw_p44, List.forall_mem_cons.mpr ⟨lw_p45, List.forall_mem_cons.mpr ⟨lw_p46, List.forall_mem_cons.mpr ⟨lw_p47, fun _ h => absurd h List.not_mem_nil⟩⟩⟩⟩⟩⟩⟩⟩⟩⟩⟩⟩⟩⟩⟩⟩
theorem lw_p48 : lw_okq (⟨"GearTypesModel", "used", "(II)I"⟩, 14) := ⟨⟨by decide +kernel, by decide +kernel⟩, List.mem_of_getElem? (i := 662) (by decide +kernel), List.mem_of_getElem? (i := 829) (by decide +kernel), List.mem_of_getElem? (i := 830) (by decide +kernel)⟩
theorem lw_p49 : lw_okq (⟨"GearTypesModel", "now", "(I)I"⟩, 14) := ⟨⟨by decide +kernel, by decide +kernel⟩, List.mem_of_getElem? (i := 662) (by decide +kernel), List.mem_of_getElem? (i := 833) (by decide +kernel), List.mem_of_getElem? (i := 834) (by decide +kernel)⟩
theorem lw_p50 : lw_okq (⟨"GearTypesModel", "hasOwn", "(I)Z"⟩, 14) := ⟨⟨by decide +kernel, by decide +kernel⟩, List.mem_of_getElem? (i := 662) (by decide +kernel), List.mem_of_getElem? (i := 837) (by decide +kernel), List.mem_of_getElem? (i := 838) (by decide +kernel)⟩
theorem lw_p51 : lw_okq (⟨"GearTypesModel", "isPair", "(I)Z"⟩, 14) := ⟨⟨by decide +kernel, by decide +kernel⟩, List.mem_of_getElem? (i := 662) (by decide +kernel), List.mem_of_getElem? (i := 841) (by decide +kernel), List.mem_of_getElem? (i := 842) (by decide +kernel)⟩
theorem lw_p52 : lw_okq (⟨"GearTypesModel", "variable", "()I"⟩, 14) := ⟨⟨by decide +kernel, by decide +kernel⟩, List.mem_of_getElem? (i := 662) (by decide +kernel), List.mem_of_getElem? (i := 845) (by decide +kernel), List.mem_of_getElem? (i := 846) (by decide +kernel)⟩
theorem lw_p53 : lw_okq (⟨"GearTypesModel", "failed", "(II)I"⟩, 14) := ⟨⟨by decide +kernel, by decide +kernel⟩, List.mem_of_getElem? (i := 662) (by decide +kernel), List.mem_of_getElem? (i := 849) (by decide +kernel), List.mem_of_getElem? (i := 850) (by decide +kernel)⟩
theorem lw_p54 : lw_okq (⟨"GearTypesModel", "wheelFound", "(I)I"⟩, 14) := ⟨⟨by decide +kernel, by decide +kernel⟩, List.mem_of_getElem? (i := 662) (by decide +kernel), List.mem_of_getElem? (i := 853) (by decide +kernel), List.mem_of_getElem? (i := 854) (by decide +kernel)⟩
theorem lw_p55 : lw_okq (⟨"GearTypesModel", "inside", "(III)I"⟩, 14) := ⟨⟨by decide +kernel, by decide +kernel⟩, List.mem_of_getElem? (i := 662) (by decide +kernel), List.mem_of_getElem? (i := 857) (by decide +kernel), List.mem_of_getElem? (i := 858) (by decide +kernel)⟩
theorem lw_p56 : lw_okq (⟨"GearTypesModel", "turningFound", "(I)I"⟩, 14) := ⟨⟨by decide +kernel, by decide +kernel⟩, List.mem_of_getElem? (i := 662) (by decide +kernel), List.mem_of_getElem? (i := 861) (by decide +kernel), List.mem_of_getElem? (i := 862) (by decide +kernel)⟩
theorem lw_p57 : lw_okq (⟨"GearTypesModel", "join", "(III)Z"⟩, 14) := ⟨⟨by decide +kernel, by decide +kernel⟩, List.mem_of_getElem? (i := 662) (by decide +kernel), List.mem_of_getElem? (i := 865) (by decide +kernel), List.mem_of_getElem? (i := 866) (by decide +kernel)⟩
theorem lw_p58 : lw_okq (⟨"GearTypesModel", "has", "(II)Z"⟩, 14) := ⟨⟨by decide +kernel, by decide +kernel⟩, List.mem_of_getElem? (i := 662) (by decide +kernel), List.mem_of_getElem? (i := 869) (by decide +kernel), List.mem_of_getElem? (i := 870) (by decide +kernel)⟩
theorem lw_p59 : lw_okq (⟨"GearTypesModel", "tellingFound", "(I)I"⟩, 14) := ⟨⟨by decide +kernel, by decide +kernel⟩, List.mem_of_getElem? (i := 662) (by decide +kernel), List.mem_of_getElem? (i := 873) (by decide +kernel), List.mem_of_getElem? (i := 874) (by decide +kernel)⟩
theorem lw_p60 : lw_okq (⟨"GearTypesModel", "own", "(I)V"⟩, 14) := ⟨⟨by decide +kernel, by decide +kernel⟩, List.mem_of_getElem? (i := 662) (by decide +kernel), List.mem_of_getElem? (i := 877) (by decide +kernel), List.mem_of_getElem? (i := 878) (by decide +kernel)⟩
theorem lw_p61 : lw_okq (⟨"GearTypesModel", "isAround", "(I)Z"⟩, 14) := ⟨⟨by decide +kernel, by decide +kernel⟩, List.mem_of_getElem? (i := 662) (by decide +kernel), List.mem_of_getElem? (i := 881) (by decide +kernel), List.mem_of_getElem? (i := 882) (by decide +kernel)⟩
theorem lw_p62 : lw_okq (⟨"GearTypesModel", "axleFound", "(I)I"⟩, 14) := ⟨⟨by decide +kernel, by decide +kernel⟩, List.mem_of_getElem? (i := 662) (by decide +kernel), List.mem_of_getElem? (i := 885) (by decide +kernel), List.mem_of_getElem? (i := 886) (by decide +kernel)⟩
theorem lw_p63 : lw_okq (⟨"GearTypesModel", "endFound", "(I)I"⟩, 14) := ⟨⟨by decide +kernel, by decide +kernel⟩, List.mem_of_getElem? (i := 662) (by decide +kernel), List.mem_of_getElem? (i := 889) (by decide +kernel), List.mem_of_getElem? (i := 890) (by decide +kernel)⟩
def lw_privs_4 : List (MethodName × Nat) := [(⟨"GearTypesModel", "used", "(II)I"⟩, 14), (⟨"GearTypesModel", "now", "(I)I"⟩, 14), (⟨"GearTypesModel", "hasOwn", "(I)Z"⟩, 14), (⟨"GearTypesModel", "isPair", "(I)Z"⟩, 14), (⟨"GearTypesModel", "variable", "()I"⟩, 14), (⟨"GearTypesModel", "failed", "(II)I"⟩, 14), (⟨"GearTypesModel", "wheelFound", "(I)I"⟩, 14), (⟨"GearTypesModel", "inside", "(III)I"⟩, 14), (⟨"GearTypesModel", "turningFound", "(I)I"⟩, 14), (⟨"GearTypesModel", "join", "(III)Z"⟩, 14), (⟨"GearTypesModel", "has", "(II)Z"⟩, 14), (⟨"GearTypesModel", "tellingFound", "(I)I"⟩, 14), (⟨"GearTypesModel", "own", "(I)V"⟩, 14), (⟨"GearTypesModel", "isAround", "(I)Z"⟩, 14), (⟨"GearTypesModel", "axleFound", "(I)I"⟩, 14), (⟨"GearTypesModel", "endFound", "(I)I"⟩, 14)]
theorem lw_r4 : ∀ q ∈ lw_privs_4, lw_okq q := List.forall_mem_cons.mpr ⟨lw_p48, List.forall_mem_cons.mpr ⟨lw_p49, List.forall_mem_cons.mpr ⟨lw_p50, List.forall_mem_cons.mpr ⟨lw_p51, List.forall_mem_cons.mpr ⟨lw_p52, List.forall_mem_cons.mpr ⟨lw_p53, List.forall_mem_cons.mpr ⟨lw_p54, List.forall_mem_cons.mpr ⟨lw_p55, List.forall_mem_cons.mpr ⟨lw_p56, List.forall_mem_cons.mpr ⟨lw_p57, List.forall_mem_cons.mpr ⟨lw_p58, List.forall_mem_cons.mpr ⟨lw_p59, List.forall_mem_cons.mpr ⟨lw_p60, List.forall_mem_cons.mpr ⟨lw_p61, List.forall_mem_cons.mpr ⟨lw_p62, List.forall_mem_cons.mpr ⟨lw_p63, fun _ h => absurd h List.not_mem_nil⟩⟩⟩⟩⟩⟩⟩⟩⟩⟩⟩⟩⟩⟩⟩⟩
theorem lw_p64 : lw_okq (⟨"GearTypesModel", "choiceFound", "(I)I"⟩, 14) := ⟨⟨by decide +kernel, by decide +kernel⟩, List.mem_of_getElem? (i := 662) (by decide +kernel), List.mem_of_getElem? (i := 893) (by decide +kernel), List.mem_of_getElem? (i := 894) (by decide +kernel)⟩
theorem lw_p65 : lw_okq (⟨"GearTypesModel", "codes", "(I)I"⟩, 14) := ⟨⟨by decide +kernel, by decide +kernel⟩, List.mem_of_getElem? (i := 662) (by decide +kernel), List.mem_of_getElem? (i := 897) (by decide +kernel), List.mem_of_getElem? (i := 898) (by decide +kernel)⟩
theorem lw_p66 : lw_okq (⟨"GearTypesModel", "deep", "(I)I"⟩, 14) := ⟨⟨by decide +kernel, by decide +kernel⟩, List.mem_of_getElem? (i := 662) (by decide +kernel), List.mem_of_getElem? (i := 902) (by decide +kernel), List.mem_of_getElem? (i := 903) (by decide +kernel)⟩
theorem lw_p67 : lw_okq (⟨"GearTypesModel", "row", "(I)[I"⟩, 14) := ⟨⟨by decide +kernel, by decide +kernel⟩, List.mem_of_getElem? (i := 662) (by decide +kernel), List.mem_of_getElem? (i := 906) (by decide +kernel), List.mem_of_getElem? (i := 907) (by decide +kernel)⟩
theorem lw_p68 : lw_okq (⟨"GearTypesModel", "write", "(I[II[I)I"⟩, 14) := ⟨⟨by decide +kernel, by decide +kernel⟩, List.mem_of_getElem? (i := 662) (by decide +kernel), List.mem_of_getElem? (i := 910) (by decide +kernel), List.mem_of_getElem? (i := 911) (by decide +kernel)⟩
theorem lw_p69 : lw_okq (⟨"GearTypesModel", "counted", "(I)I"⟩, 14) := ⟨⟨by decide +kernel, by decide +kernel⟩, List.mem_of_getElem? (i := 662) (by decide +kernel), List.mem_of_getElem? (i := 922) (by decide +kernel), List.mem_of_getElem? (i := 923) (by decide +kernel)⟩
theorem lw_p70 : lw_okq (⟨"GearTypesModel", "turned", "(II)I"⟩, 14) := ⟨⟨by decide +kernel, by decide +kernel⟩, List.mem_of_getElem? (i := 662) (by decide +kernel), List.mem_of_getElem? (i := 941) (by decide +kernel), List.mem_of_getElem? (i := 942) (by decide +kernel)⟩
theorem lw_p71 : lw_okq (⟨"GearTypesModel", "length", "(I)I"⟩, 14) := ⟨⟨by decide +kernel, by decide +kernel⟩, List.mem_of_getElem? (i := 662) (by decide +kernel), List.mem_of_getElem? (i := 953) (by decide +kernel), List.mem_of_getElem? (i := 954) (by decide +kernel)⟩
def lw_privs_5 : List (MethodName × Nat) := [(⟨"GearTypesModel", "choiceFound", "(I)I"⟩, 14), (⟨"GearTypesModel", "codes", "(I)I"⟩, 14), (⟨"GearTypesModel", "deep", "(I)I"⟩, 14), (⟨"GearTypesModel", "row", "(I)[I"⟩, 14), (⟨"GearTypesModel", "write", "(I[II[I)I"⟩, 14), (⟨"GearTypesModel", "counted", "(I)I"⟩, 14), (⟨"GearTypesModel", "turned", "(II)I"⟩, 14), (⟨"GearTypesModel", "length", "(I)I"⟩, 14)]
theorem lw_r5 : ∀ q ∈ lw_privs_5, lw_okq q := List.forall_mem_cons.mpr ⟨lw_p64, List.forall_mem_cons.mpr ⟨lw_p65, List.forall_mem_cons.mpr ⟨lw_p66, List.forall_mem_cons.mpr ⟨lw_p67, List.forall_mem_cons.mpr ⟨lw_p68, List.forall_mem_cons.mpr ⟨lw_p69, List.forall_mem_cons.mpr ⟨lw_p70, List.forall_mem_cons.mpr ⟨lw_p71, fun _ h => absurd h List.not_mem_nil⟩⟩⟩⟩⟩⟩⟩⟩
def lw_privs : List (MethodName × Nat) := lw_privs_1 ++ (lw_privs_2 ++ (lw_privs_3 ++ (lw_privs_4 ++ (lw_privs_5))))
def lw_tbl : List Cond := k2_sels lw_privs ++ tables_1
theorem lw_privs_ok : ∀ q ∈ lw_privs, lw_okq q := by
  show ∀ q ∈ lw_privs_1 ++ (lw_privs_2 ++ (lw_privs_3 ++ (lw_privs_4 ++ (lw_privs_5)))), lw_okq q
  exact List.forall_mem_append.mpr ⟨lw_r1, List.forall_mem_append.mpr ⟨lw_r2, List.forall_mem_append.mpr ⟨lw_r3, List.forall_mem_append.mpr ⟨lw_r4, lw_r5⟩⟩⟩⟩
/-- the streams that the claim lets the run draw from -/
abbrev lw_cs : List Choice := [Jvm.Choice.named "NaN.bits"]
theorem lw_bits : nanBits ∈ lw_cs := by first | decide | exact List.mem_cons_self | simp [lw_cs, nanBits]
-- ===== end of PART A; then your names; then what follows =====
def RX0 : String := "GearTypes$Finder"
def TX0 : u_T := fun k => match k with
  | 0 => ("GearTypes$Finder", "types", "LGearTypes$Types;", true)
  | 1 => ("GearTypes$Finder", "names", "LGearTypes$Names;", true)
  | 2 => ("GearTypes$Finder", "row", "[I", true)
  | 3 => ("GearTypes$Finder", "fault", "I", false)
  | _ => ("GearTypes$Finder", "place", "I", false)
def tyX0 : Nat → FieldType := fun k => match k with
  | 0 => .object "GearTypes$Types"
  | 1 => .object "GearTypes$Names"
  | 2 => .array .int
  | 3 => .int
  | _ => .int
abbrev wsX00 : List Cond := u_ws RX0 TX0 5
theorem nmX0 : ∀ a, a < 5 → ∀ b, b < 5 → a ≠ b → (TX0 a).2.1 ≠ (TX0 b).2.1 := by decide +kernel
theorem tyX0_ok : ∀ k, k < 5 → parseFieldDescriptor (TX0 k).2.2.1 = some (tyX0 k) := by decide +kernel
abbrev cX0_init : ByteArray := prog_2_method_1_code
def yX0_init : MethodName := ⟨RX0, "<init>", "()V"⟩
abbrev cX0_settle : ByteArray := prog_2_method_2_code
def yX0_settle : MethodName := ⟨RX0, "settle", "(LGearTypes$Parts;ILGearTypes$Rows;)V"⟩
abbrev cX0_faultOfTurning : ByteArray := prog_2_method_3_code
def yX0_faultOfTurning : MethodName := ⟨RX0, "faultOfTurning", "(LGearTypes$Rows;II)I"⟩
abbrev cX0_buildRow : ByteArray := prog_2_method_4_code
def yX0_buildRow : MethodName := ⟨RX0, "buildRow", "(LGearTypes$Rows;I)I"⟩
abbrev cX0_isTooLong : ByteArray := prog_2_method_5_code
def yX0_isTooLong : MethodName := ⟨RX0, "isTooLong", "(I)Z"⟩
abbrev cX0_fail : ByteArray := prog_2_method_6_code
def yX0_fail : MethodName := ⟨RX0, "fail", "(II)I"⟩
abbrev cX0_find : ByteArray := prog_2_method_7_code
def yX0_find : MethodName := ⟨RX0, "find", "(LGearTypes$Parts;II)I"⟩
abbrev cX0_findName : ByteArray := prog_2_method_8_code
def yX0_findName : MethodName := ⟨RX0, "findName", "(LGearTypes$Parts;I)I"⟩
abbrev cX0_findWheel : ByteArray := prog_2_method_9_code
def yX0_findWheel : MethodName := ⟨RX0, "findWheel", "(LGearTypes$Parts;II)I"⟩
abbrev cX0_findTurning : ByteArray := prog_2_method_10_code
def yX0_findTurning : MethodName := ⟨RX0, "findTurning", "(LGearTypes$Parts;II)I"⟩
abbrev cX0_findTelling : ByteArray := prog_2_method_11_code
def yX0_findTelling : MethodName := ⟨RX0, "findTelling", "(LGearTypes$Parts;II)I"⟩
abbrev cX0_findAxle : ByteArray := prog_2_method_12_code
def yX0_findAxle : MethodName := ⟨RX0, "findAxle", "(LGearTypes$Parts;II)I"⟩
abbrev cX0_findEnd : ByteArray := prog_2_method_13_code
def yX0_findEnd : MethodName := ⟨RX0, "findEnd", "(LGearTypes$Parts;II)I"⟩
abbrev cX0_findChoice : ByteArray := prog_2_method_14_code
def yX0_findChoice : MethodName := ⟨RX0, "findChoice", "(LGearTypes$Parts;II)I"⟩
def RX1 : String := "GearTypes$Names"
def TX1 : u_T := fun k => match k with
  | 0 => ("GearTypes$Names", "labels", "[I", true)
  | 1 => ("GearTypes$Names", "codes", "[[I", true)
  | 2 => ("GearTypes$Names", "lengths", "[I", true)
  | _ => ("GearTypes$Names", "around", "I", false)
def tyX1 : Nat → FieldType := fun k => match k with
  | 0 => .array .int
  | 1 => .array (.array .int)
  | 2 => .array .int
  | _ => .int
abbrev wsX10 : List Cond := u_ws RX1 TX1 4
theorem nmX1 : ∀ a, a < 4 → ∀ b, b < 4 → a ≠ b → (TX1 a).2.1 ≠ (TX1 b).2.1 := by decide +kernel
theorem tyX1_ok : ∀ k, k < 4 → parseFieldDescriptor (TX1 k).2.2.1 = some (tyX1 k) := by decide +kernel
abbrev cX1_init : ByteArray := prog_3_method_1_code
def yX1_init : MethodName := ⟨RX1, "<init>", "()V"⟩
abbrev cX1_clear : ByteArray := prog_3_method_2_code
def yX1_clear : MethodName := ⟨RX1, "clear", "()V"⟩
abbrev cX1_put : ByteArray := prog_3_method_3_code
def yX1_put : MethodName := ⟨RX1, "put", "(I[II)V"⟩
abbrev cX1_markAll : ByteArray := prog_3_method_4_code
def yX1_markAll : MethodName := ⟨RX1, "markAll", "(LGearTypes$Types;)V"⟩
abbrev cX1_dropLast : ByteArray := prog_3_method_5_code
def yX1_dropLast : MethodName := ⟨RX1, "dropLast", "()V"⟩
abbrev cX1_latest : ByteArray := prog_3_method_6_code
def yX1_latest : MethodName := ⟨RX1, "latest", "(I)I"⟩
abbrev cX1_rowAt : ByteArray := prog_3_method_7_code
def yX1_rowAt : MethodName := ⟨RX1, "rowAt", "(I)[I"⟩
abbrev cX1_lengthAt : ByteArray := prog_3_method_8_code
def yX1_lengthAt : MethodName := ⟨RX1, "lengthAt", "(I)I"⟩
def RX2 : String := "GearTypes$Parts"
def TX2 : u_T := fun k => match k with
  | 0 => ("GearTypes$Parts", "facts", "[[I", true)
  | _ => ("GearTypes$Parts", "made", "I", false)
def tyX2 : Nat → FieldType := fun k => match k with
  | 0 => .array (.array .int)
  | _ => .int
abbrev wsX20 : List Cond := u_ws RX2 TX2 2
theorem nmX2 : ∀ a, a < 2 → ∀ b, b < 2 → a ≠ b → (TX2 a).2.1 ≠ (TX2 b).2.1 := by decide +kernel
theorem tyX2_ok : ∀ k, k < 2 → parseFieldDescriptor (TX2 k).2.2.1 = some (tyX2 k) := by decide +kernel
abbrev cX2_init : ByteArray := prog_4_method_1_code
def yX2_init : MethodName := ⟨RX2, "<init>", "()V"⟩
abbrev cX2_made : ByteArray := prog_4_method_2_code
def yX2_made : MethodName := ⟨RX2, "made", "()I"⟩
abbrev cX2_fact : ByteArray := prog_4_method_3_code
def yX2_fact : MethodName := ⟨RX2, "fact", "(II)I"⟩
abbrev cX2_sizeOver : ByteArray := prog_4_method_4_code
def yX2_sizeOver : MethodName := ⟨RX2, "sizeOver", "(III)I"⟩
abbrev cX2_sizeOf : ByteArray := prog_4_method_5_code
def yX2_sizeOf : MethodName := ⟨RX2, "sizeOf", "(I)I"⟩
abbrev cX2_depthOf : ByteArray := prog_4_method_6_code
def yX2_depthOf : MethodName := ⟨RX2, "depthOf", "(I)I"⟩
abbrev cX2_append : ByteArray := prog_4_method_7_code
def yX2_append : MethodName := ⟨RX2, "append", "(IIIII)I"⟩
abbrev cX2_dropLast : ByteArray := prog_4_method_8_code
def yX2_dropLast : MethodName := ⟨RX2, "dropLast", "()V"⟩
def RX3 : String := "GearTypes$Rows"
def TX3 : u_T := fun k => match k with
  | 0 => ("GearTypes$Rows", "codes", "[[I", true)
  | 1 => ("GearTypes$Rows", "facts", "[[I", true)
  | 2 => ("GearTypes$Rows", "depths", "[I", true)
  | _ => ("GearTypes$Rows", "starts", "[I", true)
def tyX3 : Nat → FieldType := fun k => match k with
  | 0 => .array (.array .int)
  | 1 => .array (.array .int)
  | 2 => .array .int
  | _ => .array .int
abbrev wsX30 : List Cond := u_ws RX3 TX3 4
theorem nmX3 : ∀ a, a < 4 → ∀ b, b < 4 → a ≠ b → (TX3 a).2.1 ≠ (TX3 b).2.1 := by decide +kernel
theorem tyX3_ok : ∀ k, k < 4 → parseFieldDescriptor (TX3 k).2.2.1 = some (tyX3 k) := by decide +kernel
abbrev cX3_init : ByteArray := prog_5_method_1_code
def yX3_init : MethodName := ⟨RX3, "<init>", "()V"⟩
abbrev cX3_fact : ByteArray := prog_5_method_2_code
def yX3_fact : MethodName := ⟨RX3, "fact", "(II)I"⟩
abbrev cX3_codeAt : ByteArray := prog_5_method_3_code
def yX3_codeAt : MethodName := ⟨RX3, "codeAt", "(II)I"⟩
abbrev cX3_putFault : ByteArray := prog_5_method_4_code
def yX3_putFault : MethodName := ⟨RX3, "putFault", "(III)V"⟩
abbrev cX3_putRow : ByteArray := prog_5_method_5_code
def yX3_putRow : MethodName := ⟨RX3, "putRow", "(I[II)V"⟩
abbrev cX3_putFacts : ByteArray := prog_5_method_6_code
def yX3_putFacts : MethodName := ⟨RX3, "putFacts", "(IIII)V"⟩
abbrev cX3_variablesIn : ByteArray := prog_5_method_7_code
def yX3_variablesIn : MethodName := ⟨RX3, "variablesIn", "(II)I"⟩
abbrev cX3_depthOf : ByteArray := prog_5_method_8_code
def yX3_depthOf : MethodName := ⟨RX3, "depthOf", "(II)I"⟩
abbrev cX3_alike : ByteArray := prog_5_method_9_code
def yX3_alike : MethodName := ⟨RX3, "alike", "(II)Z"⟩
abbrev cX3_covers : ByteArray := prog_5_method_10_code
def yX3_covers : MethodName := ⟨RX3, "covers", "(II)Z"⟩
abbrev cX3_standsFor : ByteArray := prog_5_method_11_code
def yX3_standsFor : MethodName := ⟨RX3, "standsFor", "(IIII)Z"⟩
abbrev cX3_endOf : ByteArray := prog_5_method_12_code
def yX3_endOf : MethodName := ⟨RX3, "endOf", "(II)I"⟩
abbrev cX3_isPair : ByteArray := prog_5_method_13_code
def yX3_isPair : MethodName := ⟨RX3, "isPair", "(I)Z"⟩
def RX4 : String := "GearTypes$Types"
def TX4 : u_T := fun k => match k with
  | 0 => ("GearTypes$Types", "kind", "[I", true)
  | 1 => ("GearTypes$Types", "left", "[I", true)
  | 2 => ("GearTypes$Types", "right", "[I", true)
  | 3 => ("GearTypes$Types", "mark", "[I", true)
  | 4 => ("GearTypes$Types", "work", "[I", true)
  | 5 => ("GearTypes$Types", "pairLeft", "[I", true)
  | 6 => ("GearTypes$Types", "pairRight", "[I", true)
  | 7 => ("GearTypes$Types", "seats", "[I", true)
  | 8 => ("GearTypes$Types", "seated", "I", false)
  | 9 => ("GearTypes$Types", "used", "I", false)
  | _ => ("GearTypes$Types", "stamp", "I", false)
def tyX4 : Nat → FieldType := fun k => match k with
  | 0 => .array .int
  | 1 => .array .int
  | 2 => .array .int
  | 3 => .array .int
  | 4 => .array .int
  | 5 => .array .int
  | 6 => .array .int
  | 7 => .array .int
  | 8 => .int
  | 9 => .int
  | _ => .int
abbrev wsX40 : List Cond := u_ws RX4 TX4 11
theorem nmX4 : ∀ a, a < 11 → ∀ b, b < 11 → a ≠ b → (TX4 a).2.1 ≠ (TX4 b).2.1 := by decide +kernel
theorem tyX4_ok : ∀ k, k < 11 → parseFieldDescriptor (TX4 k).2.2.1 = some (tyX4 k) := by decide +kernel
abbrev cX4_init : ByteArray := prog_6_method_1_code
def yX4_init : MethodName := ⟨RX4, "<init>", "()V"⟩
abbrev cX4_clear : ByteArray := prog_6_method_2_code
def yX4_clear : MethodName := ⟨RX4, "clear", "()V"⟩
abbrev cX4_make : ByteArray := prog_6_method_3_code
def yX4_make : MethodName := ⟨RX4, "make", "(III)I"⟩
abbrev cX4_newVariable : ByteArray := prog_6_method_4_code
def yX4_newVariable : MethodName := ⟨RX4, "newVariable", "()I"⟩
abbrev cX4_codeOfNode : ByteArray := prog_6_method_5_code
def yX4_codeOfNode : MethodName := ⟨RX4, "codeOfNode", "(I)I"⟩
abbrev cX4_forgetMarks : ByteArray := prog_6_method_6_code
def yX4_forgetMarks : MethodName := ⟨RX4, "forgetMarks", "()V"⟩
abbrev cX4_isNode : ByteArray := prog_6_method_7_code
def yX4_isNode : MethodName := ⟨RX4, "isNode", "(I)Z"⟩
abbrev cX4_nodeOfCode : ByteArray := prog_6_method_8_code
def yX4_nodeOfCode : MethodName := ⟨RX4, "nodeOfCode", "(I)I"⟩
abbrev cX4_markWithin : ByteArray := prog_6_method_9_code
def yX4_markWithin : MethodName := ⟨RX4, "markWithin", "(I)V"⟩
abbrev cX4_resolve : ByteArray := prog_6_method_10_code
def yX4_resolve : MethodName := ⟨RX4, "resolve", "(I)I"⟩
abbrev cX4_isPair : ByteArray := prog_6_method_11_code
def yX4_isPair : MethodName := ⟨RX4, "isPair", "(I)Z"⟩
abbrev cX4_match : ByteArray := prog_6_method_12_code
def yX4_match : MethodName := ⟨RX4, "match", "(II)I"⟩
abbrev cX4_putPair : ByteArray := prog_6_method_13_code
def yX4_putPair : MethodName := ⟨RX4, "putPair", "(III)I"⟩
abbrev cX4_give : ByteArray := prog_6_method_14_code
def yX4_give : MethodName := ⟨RX4, "give", "(II)V"⟩
abbrev cX4_write : ByteArray := prog_6_method_15_code
def yX4_write : MethodName := ⟨RX4, "write", "(I[I)I"⟩
abbrev cX4_codeOf : ByteArray := prog_6_method_16_code
def yX4_codeOf : MethodName := ⟨RX4, "codeOf", "(I)I"⟩
abbrev cX4_seatOf : ByteArray := prog_6_method_17_code
def yX4_seatOf : MethodName := ⟨RX4, "seatOf", "(I)I"⟩
abbrev cX4_build : ByteArray := prog_6_method_18_code
def yX4_build : MethodName := ⟨RX4, "build", "([II)I"⟩
abbrev cX4_variableAt : ByteArray := prog_6_method_19_code
def yX4_variableAt : MethodName := ⟨RX4, "variableAt", "(I)I"⟩
def RX5 : String := "GearTypes"
def TX5 : u_T := fun k => match k with
  | 0 => ("GearTypes", "parts", "LGearTypes$Parts;", true)
  | 1 => ("GearTypes", "rows", "LGearTypes$Rows;", true)
  | _ => ("GearTypes", "finder", "LGearTypes$Finder;", true)
def tyX5 : Nat → FieldType := fun k => match k with
  | 0 => .object "GearTypes$Parts"
  | 1 => .object "GearTypes$Rows"
  | _ => .object "GearTypes$Finder"
abbrev wsX50 : List Cond := u_ws RX5 TX5 3
theorem nmX5 : ∀ a, a < 3 → ∀ b, b < 3 → a ≠ b → (TX5 a).2.1 ≠ (TX5 b).2.1 := by decide +kernel
theorem tyX5_ok : ∀ k, k < 3 → parseFieldDescriptor (TX5 k).2.2.1 = some (tyX5 k) := by decide +kernel
abbrev cX5_init : ByteArray := prog_1_method_1_code
def yX5_init : MethodName := ⟨RX5, "<init>", "()V"⟩
abbrev cX5_plain : ByteArray := prog_1_method_2_code
def yX5_plain : MethodName := ⟨RX5, "plain", "(I)I"⟩
abbrev cX5_name : ByteArray := prog_1_method_3_code
def yX5_name : MethodName := ⟨RX5, "name", "(I)I"⟩
abbrev cX5_wheel : ByteArray := prog_1_method_4_code
def yX5_wheel : MethodName := ⟨RX5, "wheel", "(II)I"⟩
abbrev cX5_turn : ByteArray := prog_1_method_5_code
def yX5_turn : MethodName := ⟨RX5, "turn", "(II)I"⟩
abbrev cX5_tell : ByteArray := prog_1_method_6_code
def yX5_tell : MethodName := ⟨RX5, "tell", "(III)I"⟩
abbrev cX5_axle : ByteArray := prog_1_method_7_code
def yX5_axle : MethodName := ⟨RX5, "axle", "(II)I"⟩
abbrev cX5_end : ByteArray := prog_1_method_8_code
def yX5_end : MethodName := ⟨RX5, "end", "(II)I"⟩
abbrev cX5_either : ByteArray := prog_1_method_9_code
def yX5_either : MethodName := ⟨RX5, "either", "(III)I"⟩
abbrev cX5_undo : ByteArray := prog_1_method_10_code
def yX5_undo : MethodName := ⟨RX5, "undo", "()I"⟩
abbrev cX5_part : ByteArray := prog_1_method_11_code
def yX5_part : MethodName := ⟨RX5, "part", "(II)I"⟩
abbrev cX5_type : ByteArray := prog_1_method_12_code
def yX5_type : MethodName := ⟨RX5, "type", "(II)I"⟩
abbrev cX5_code : ByteArray := prog_1_method_13_code
def yX5_code : MethodName := ⟨RX5, "code", "(II)I"⟩
abbrev cX5_count : ByteArray := prog_1_method_14_code
def yX5_count : MethodName := ⟨RX5, "count", "(I)I"⟩
abbrev cX5_same : ByteArray := prog_1_method_15_code
def yX5_same : MethodName := ⟨RX5, "same", "(II)Z"⟩
abbrev cX5_fits : ByteArray := prog_1_method_16_code
def yX5_fits : MethodName := ⟨RX5, "fits", "(II)Z"⟩
abbrev cX5_goes : ByteArray := prog_1_method_17_code
def yX5_goes : MethodName := ⟨RX5, "goes", "(II)I"⟩
abbrev cX5_first : ByteArray := prog_1_method_18_code
def yX5_first : MethodName := ⟨RX5, "first", "(I)I"⟩
abbrev cX5_longest : ByteArray := prog_1_method_19_code
def yX5_longest : MethodName := ⟨RX5, "longest", "()I"⟩
abbrev cX5_mean : ByteArray := prog_1_method_20_code
def yX5_mean : MethodName := ⟨RX5, "mean", "()D"⟩
abbrev cX5_digest : ByteArray := prog_1_method_21_code
def yX5_digest : MethodName := ⟨RX5, "digest", "()J"⟩
abbrev cX5_needPart : ByteArray := prog_1_method_22_code
def yX5_needPart : MethodName := ⟨RX5, "needPart", "(I)V"⟩
abbrev cX5_needPlace : ByteArray := prog_1_method_23_code
def yX5_needPlace : MethodName := ⟨RX5, "needPlace", "(II)V"⟩
abbrev cX5_needBetween : ByteArray := prog_1_method_24_code
def yX5_needBetween : MethodName := ⟨RX5, "needBetween", "(III)V"⟩
abbrev cX5_add : ByteArray := prog_1_method_25_code
def yX5_add : MethodName := ⟨RX5, "add", "(IIIII)I"⟩
abbrev cX5_counted : ByteArray := prog_1_method_26_code
def yX5_counted : MethodName := ⟨RX5, "counted", "(I)I"⟩
abbrev cX5_bothTyped : ByteArray := prog_1_method_27_code
def yX5_bothTyped : MethodName := ⟨RX5, "bothTyped", "(II)Z"⟩
abbrev cX5_faultOfTurning : ByteArray := prog_1_method_28_code
def yX5_faultOfTurning : MethodName := ⟨RX5, "faultOfTurning", "(II)I"⟩
def RX6 : String := "GearTypesModel"
def TX6 : u_T := fun k => match k with
  | 0 => ("GearTypesModel", "thrown", "I", false)
  | 1 => ("GearTypesModel", "parts", "I", false)
  | 2 => ("GearTypesModel", "rows", "[I", true)
  | 3 => ("GearTypesModel", "nodes", "I", false)
  | 4 => ("GearTypesModel", "kinds", "[I", false)
  | 5 => ("GearTypesModel", "lefts", "[I", false)
  | 6 => ("GearTypesModel", "rights", "[I", false)
  | 7 => ("GearTypesModel", "isOwn", "[Z", false)
  | 8 => ("GearTypesModel", "fresh", "[I", false)
  | 9 => ("GearTypesModel", "around", "I", false)
  | 10 => ("GearTypesModel", "names", "[I", true)
  | 11 => ("GearTypesModel", "types", "[I", true)
  | 12 => ("GearTypesModel", "fault", "I", false)
  | _ => ("GearTypesModel", "faultAt", "I", false)
def tyX6 : Nat → FieldType := fun k => match k with
  | 0 => .int
  | 1 => .int
  | 2 => .array .int
  | 3 => .int
  | 4 => .array .int
  | 5 => .array .int
  | 6 => .array .int
  | 7 => .array .boolean
  | 8 => .array .int
  | 9 => .int
  | 10 => .array .int
  | 11 => .array .int
  | 12 => .int
  | _ => .int
abbrev wsX60 : List Cond := u_ws RX6 TX6 14
theorem nmX6 : ∀ a, a < 14 → ∀ b, b < 14 → a ≠ b → (TX6 a).2.1 ≠ (TX6 b).2.1 := by decide +kernel
theorem tyX6_ok : ∀ k, k < 14 → parseFieldDescriptor (TX6 k).2.2.1 = some (tyX6 k) := by decide +kernel
abbrev cX6_init : ByteArray := prog_8_method_1_code
def yX6_init : MethodName := ⟨RX6, "<init>", "()V"⟩
abbrev cX6_thrown : ByteArray := prog_8_method_2_code
def yX6_thrown : MethodName := ⟨RX6, "thrown", "()I"⟩
abbrev cX6_fail : ByteArray := prog_8_method_3_code
def yX6_fail : MethodName := ⟨RX6, "fail", "(I)I"⟩
abbrev cX6_isIn : ByteArray := prog_8_method_4_code
def yX6_isIn : MethodName := ⟨RX6, "isIn", "(III)Z"⟩
abbrev cX6_isPart : ByteArray := prog_8_method_5_code
def yX6_isPart : MethodName := ⟨RX6, "isPart", "(I)Z"⟩
abbrev cX6_pa : ByteArray := prog_8_method_6_code
def yX6_pa : MethodName := ⟨RX6, "pa", "(II)I"⟩
abbrev cX6_size : ByteArray := prog_8_method_7_code
def yX6_size : MethodName := ⟨RX6, "size", "(I)I"⟩
abbrev cX6_put : ByteArray := prog_8_method_8_code
def yX6_put : MethodName := ⟨RX6, "put", "(IIIII)V"⟩
abbrev cX6_made : ByteArray := prog_8_method_9_code
def yX6_made : MethodName := ⟨RX6, "made", "(IIIIII)I"⟩
abbrev cX6_plain : ByteArray := prog_8_method_10_code
def yX6_plain : MethodName := ⟨RX6, "plain", "(I)I"⟩
abbrev cX6_isName : ByteArray := prog_8_method_11_code
def yX6_isName : MethodName := ⟨RX6, "isName", "(I)Z"⟩
abbrev cX6_name : ByteArray := prog_8_method_12_code
def yX6_name : MethodName := ⟨RX6, "name", "(I)I"⟩
abbrev cX6_wheel : ByteArray := prog_8_method_13_code
def yX6_wheel : MethodName := ⟨RX6, "wheel", "(II)I"⟩
abbrev cX6_turn : ByteArray := prog_8_method_14_code
def yX6_turn : MethodName := ⟨RX6, "turn", "(II)I"⟩
abbrev cX6_tell : ByteArray := prog_8_method_15_code
def yX6_tell : MethodName := ⟨RX6, "tell", "(III)I"⟩
abbrev cX6_axle : ByteArray := prog_8_method_16_code
def yX6_axle : MethodName := ⟨RX6, "axle", "(II)I"⟩
abbrev cX6_end : ByteArray := prog_8_method_17_code
def yX6_end : MethodName := ⟨RX6, "end", "(II)I"⟩
abbrev cX6_either : ByteArray := prog_8_method_18_code
def yX6_either : MethodName := ⟨RX6, "either", "(III)I"⟩
abbrev cX6_undo : ByteArray := prog_8_method_19_code
def yX6_undo : MethodName := ⟨RX6, "undo", "()I"⟩
abbrev cX6_node : ByteArray := prog_8_method_20_code
def yX6_node : MethodName := ⟨RX6, "node", "(III)I"⟩
abbrev cX6_more : ByteArray := prog_8_method_21_code
def yX6_more : MethodName := ⟨RX6, "more", "([I)[I"⟩
abbrev cX6_variable : ByteArray := prog_8_method_22_code
def yX6_variable : MethodName := ⟨RX6, "variable", "()I"⟩
abbrev cX6_now : ByteArray := prog_8_method_23_code
def yX6_now : MethodName := ⟨RX6, "now", "(I)I"⟩
abbrev cX6_isPair : ByteArray := prog_8_method_24_code
def yX6_isPair : MethodName := ⟨RX6, "isPair", "(I)Z"⟩
abbrev cX6_has : ByteArray := prog_8_method_25_code
def yX6_has : MethodName := ⟨RX6, "has", "(II)Z"⟩
abbrev cX6_failed : ByteArray := prog_8_method_26_code
def yX6_failed : MethodName := ⟨RX6, "failed", "(II)I"⟩
abbrev cX6_join : ByteArray := prog_8_method_27_code
def yX6_join : MethodName := ⟨RX6, "join", "(III)Z"⟩
abbrev cX6_codes : ByteArray := prog_8_method_28_code
def yX6_codes : MethodName := ⟨RX6, "codes", "(I)I"⟩
abbrev cX6_isAround : ByteArray := prog_8_method_29_code
def yX6_isAround : MethodName := ⟨RX6, "isAround", "(I)Z"⟩
abbrev cX6_own : ByteArray := prog_8_method_30_code
def yX6_own : MethodName := ⟨RX6, "own", "(I)V"⟩
abbrev cX6_hasOwn : ByteArray := prog_8_method_31_code
def yX6_hasOwn : MethodName := ⟨RX6, "hasOwn", "(I)Z"⟩
abbrev cX6_used : ByteArray := prog_8_method_32_code
def yX6_used : MethodName := ⟨RX6, "used", "(II)I"⟩
abbrev cX6_nameFound : ByteArray := prog_8_method_33_code
def yX6_nameFound : MethodName := ⟨RX6, "nameFound", "(I)I"⟩
abbrev cX6_inside : ByteArray := prog_8_method_34_code
def yX6_inside : MethodName := ⟨RX6, "inside", "(III)I"⟩
abbrev cX6_wheelFound : ByteArray := prog_8_method_35_code
def yX6_wheelFound : MethodName := ⟨RX6, "wheelFound", "(I)I"⟩
abbrev cX6_turningFound : ByteArray := prog_8_method_36_code
def yX6_turningFound : MethodName := ⟨RX6, "turningFound", "(I)I"⟩
abbrev cX6_tellingFound : ByteArray := prog_8_method_37_code
def yX6_tellingFound : MethodName := ⟨RX6, "tellingFound", "(I)I"⟩
abbrev cX6_axleFound : ByteArray := prog_8_method_38_code
def yX6_axleFound : MethodName := ⟨RX6, "axleFound", "(I)I"⟩
abbrev cX6_endFound : ByteArray := prog_8_method_39_code
def yX6_endFound : MethodName := ⟨RX6, "endFound", "(I)I"⟩
abbrev cX6_choiceFound : ByteArray := prog_8_method_40_code
def yX6_choiceFound : MethodName := ⟨RX6, "choiceFound", "(I)I"⟩
abbrev cX6_sortFound : ByteArray := prog_8_method_41_code
def yX6_sortFound : MethodName := ⟨RX6, "sortFound", "(I)I"⟩
abbrev cX6_found : ByteArray := prog_8_method_42_code
def yX6_found : MethodName := ⟨RX6, "found", "(I)I"⟩
abbrev cX6_typeOf : ByteArray := prog_8_method_43_code
def yX6_typeOf : MethodName := ⟨RX6, "typeOf", "(I)I"⟩
abbrev cX6_write : ByteArray := prog_8_method_44_code
def yX6_write : MethodName := ⟨RX6, "write", "(I[II[I)I"⟩
abbrev cX6_row : ByteArray := prog_8_method_45_code
def yX6_row : MethodName := ⟨RX6, "row", "(I)[I"⟩
abbrev cX6_deep : ByteArray := prog_8_method_46_code
def yX6_deep : MethodName := ⟨RX6, "deep", "(I)I"⟩
abbrev cX6_depth : ByteArray := prog_8_method_47_code
def yX6_depth : MethodName := ⟨RX6, "depth", "(I)I"⟩
abbrev cX6_partTold : ByteArray := prog_8_method_48_code
def yX6_partTold : MethodName := ⟨RX6, "partTold", "(II)I"⟩
abbrev cX6_part : ByteArray := prog_8_method_49_code
def yX6_part : MethodName := ⟨RX6, "part", "(II)I"⟩
abbrev cX6_typeTold : ByteArray := prog_8_method_50_code
def yX6_typeTold : MethodName := ⟨RX6, "typeTold", "(II)I"⟩
abbrev cX6_type : ByteArray := prog_8_method_51_code
def yX6_type : MethodName := ⟨RX6, "type", "(II)I"⟩
abbrev cX6_code : ByteArray := prog_8_method_52_code
def yX6_code : MethodName := ⟨RX6, "code", "(II)I"⟩
abbrev cX6_counted : ByteArray := prog_8_method_53_code
def yX6_counted : MethodName := ⟨RX6, "counted", "(I)I"⟩
abbrev cX6_count : ByteArray := prog_8_method_54_code
def yX6_count : MethodName := ⟨RX6, "count", "(I)I"⟩
abbrev cX6_same : ByteArray := prog_8_method_55_code
def yX6_same : MethodName := ⟨RX6, "same", "(II)Z"⟩
abbrev cX6_behind : ByteArray := prog_8_method_56_code
def yX6_behind : MethodName := ⟨RX6, "behind", "([II)I"⟩
abbrev cX6_fits : ByteArray := prog_8_method_57_code
def yX6_fits : MethodName := ⟨RX6, "fits", "(II)Z"⟩
abbrev cX6_turned : ByteArray := prog_8_method_58_code
def yX6_turned : MethodName := ⟨RX6, "turned", "(II)I"⟩
abbrev cX6_goes : ByteArray := prog_8_method_59_code
def yX6_goes : MethodName := ⟨RX6, "goes", "(II)I"⟩
abbrev cX6_first : ByteArray := prog_8_method_60_code
def yX6_first : MethodName := ⟨RX6, "first", "(I)I"⟩
abbrev cX6_length : ByteArray := prog_8_method_61_code
def yX6_length : MethodName := ⟨RX6, "length", "(I)I"⟩
abbrev cX6_longest : ByteArray := prog_8_method_62_code
def yX6_longest : MethodName := ⟨RX6, "longest", "()I"⟩
abbrev cX6_mean : ByteArray := prog_8_method_63_code
def yX6_mean : MethodName := ⟨RX6, "mean", "()D"⟩
abbrev cX6_digest : ByteArray := prog_8_method_64_code
def yX6_digest : MethodName := ⟨RX6, "digest", "()J"⟩
def RL : String := "GearTypesLaw"
abbrev cL_plain : ByteArray := method_3_code
def yL_plain : MethodName := ⟨RL, "plain", "(LGearTypes;I[J)I"⟩
abbrev cL_name : ByteArray := method_4_code
def yL_name : MethodName := ⟨RL, "name", "(LGearTypes;I[J)I"⟩
abbrev cL_wheel : ByteArray := method_5_code
def yL_wheel : MethodName := ⟨RL, "wheel", "(LGearTypes;II[J)I"⟩
abbrev cL_turn : ByteArray := method_6_code
def yL_turn : MethodName := ⟨RL, "turn", "(LGearTypes;II[J)I"⟩
abbrev cL_tell : ByteArray := method_7_code
def yL_tell : MethodName := ⟨RL, "tell", "(LGearTypes;III[J)I"⟩
abbrev cL_axle : ByteArray := method_8_code
def yL_axle : MethodName := ⟨RL, "axle", "(LGearTypes;II[J)I"⟩
abbrev cL_end : ByteArray := method_9_code
def yL_end : MethodName := ⟨RL, "end", "(LGearTypes;II[J)I"⟩
abbrev cL_either : ByteArray := method_10_code
def yL_either : MethodName := ⟨RL, "either", "(LGearTypes;III[J)I"⟩
abbrev cL_undo : ByteArray := method_11_code
def yL_undo : MethodName := ⟨RL, "undo", "(LGearTypes;[J)I"⟩
abbrev cL_part : ByteArray := method_12_code
def yL_part : MethodName := ⟨RL, "part", "(LGearTypes;II[J)I"⟩
abbrev cL_type : ByteArray := method_13_code
def yL_type : MethodName := ⟨RL, "type", "(LGearTypes;II[J)I"⟩
abbrev cL_code : ByteArray := method_14_code
def yL_code : MethodName := ⟨RL, "code", "(LGearTypes;II[J)I"⟩
abbrev cL_count : ByteArray := method_15_code
def yL_count : MethodName := ⟨RL, "count", "(LGearTypes;I[J)I"⟩
abbrev cL_same : ByteArray := method_16_code
def yL_same : MethodName := ⟨RL, "same", "(LGearTypes;II[J)I"⟩
abbrev cL_fits : ByteArray := method_17_code
def yL_fits : MethodName := ⟨RL, "fits", "(LGearTypes;II[J)I"⟩
abbrev cL_goes : ByteArray := method_18_code
def yL_goes : MethodName := ⟨RL, "goes", "(LGearTypes;II[J)I"⟩
abbrev cL_first : ByteArray := method_19_code
def yL_first : MethodName := ⟨RL, "first", "(LGearTypes;I[J)I"⟩
abbrev cL_law : ByteArray := code
def yL_law : MethodName := ⟨RL, "law", "([I)Z"⟩
abbrev vwCl : List vw_C := [(RX0, TX0, 5), (RX1, TX1, 4), (RX2, TX2, 2), (RX3, TX3, 4), (RX4, TX4, 11), (RX5, TX5, 3), (RX6, TX6, 14)]
end
section
/-! THE WHOLE SYSTEM'S MEMORY AS ONE FUNCTION OF TWO NUMBERS: cell, place ↦ Int32. Every cell of the class, of the reference and of the law has a fixed number ('logical cell'). -/
/-- the words of the tables that a call may take along -/
def gtb : List Cond := lw_tbl.filter goodWord
theorem g_tb {w : Cond} (h : w ∈ lw_tbl) (hg : goodWord w = true) : w ∈ gtb := List.mem_filter.mpr ⟨h, hg⟩
def g_ws (y : MethodName) (b : ByteArray) (n : Nat) (r : Option FieldType) : List Cond := Cond.code y b n r :: gtb
theorem g_word {w : Cond} (h : w ∈ gtb) : goodWord w = true := (List.mem_filter.mp h).2
theorem g_inL {z : MethodName} {b2 : ByteArray} {n2 : Nat} {r2 : Option FieldType} (h : Cond.code z b2 n2 r2 ∈ gtb) : GoodIn gtb (g_ws z b2 n2 r2) := by
  intro w hw
  rcases List.mem_cons.mp hw with rfl | hw
  · exact ⟨h, good_of_word (g_word h)⟩
  · exact ⟨hw, good_of_word (g_word hw)⟩
abbrev gM : Type := Nat → Nat → Int32
/-- class ids of int[], boolean[], long[], int[][] -/
abbrev gT : Type := ClassId × ClassId × ClassId × ClassId
abbrev gV : Type := Nat ⊕ Value
abbrev gi (x : Int32) : gV := .inr (.int x)
abbrev gl (x : Int64) : gV := .inr (.long x)
abbrev gd (x : UInt64) : gV := .inr (.double x)
abbrev gr (i : Nat) : gV := .inl i
def g_v (ad : Nat → Nat) : gV → Value
  | .inl i => .ref (ad i)
  | .inr v => v
def g_q (ad : Nat → Nat) (q : Nat × gV) : Nat × Value := (q.1, g_v ad q.2)
/-- the outer array of rows b, b + 1, .. -/
def g_out (ad : Nat → Nat) (b : Nat) : vp_A := (40, .inr (.inr (.inr (.inr (fun j => if j < 40 then some (ad (b + j)) else none)))))
/-- what a cell of number i with row f (and n places, if it is an array) is -/
def g_ce (g : gT) (ad : Nat → Nat) (n : Nat) (f : Nat → Int32) (i : Nat) : va_E :=
  if i = 129 then .inr (4, [.ref (ad 130), .ref (ad 131), .ref (ad 132), .ref (ad 133), .ref (ad 134), .ref (ad 135), .ref (ad 136), .ref (ad 137), .int (f 8), .int (f 9), .int (f 10)])
  else if i = 183 then .inr (6, [.int (f 0), .int (f 1), .ref (ad 184), .int (f 3), .ref (ad 185), .ref (ad 186), .ref (ad 187), .ref (ad 188), .ref (ad 189), .int (f 9), .ref (ad 190), .ref (ad 191), .int (f 12), .int (f 13)])
  else if i = 188 then .inl (g.2.1, n, .inl f)
  else if i = 192 then .inl (g.2.2.1, n, .inr (.inl (fun j => (f j).toInt64)))
  else if i = 0 then .inr (5, [.ref (ad 1), .ref (ad 43), .ref (ad 128)])
  else if i = 1 then .inr (2, [.ref (ad 2), .int (f 1)])
  else if i = 43 then .inr (3, [.ref (ad 44), .ref (ad 85), .ref (ad 126), .ref (ad 127)])
  else if i = 128 then .inr (0, [.ref (ad 129), .ref (ad 138), .ref (ad 182), .int (f 3), .int (f 4)])
  else if i = 138 then .inr (1, [.ref (ad 139), .ref (ad 140), .ref (ad 181), .int (f 3)])
  else if i = 2 then .inl (g.2.2.2, g_out ad 3)
  else if i = 44 then .inl (g.2.2.2, g_out ad 45)
  else if i = 85 then .inl (g.2.2.2, g_out ad 86)
  else if i = 140 then .inl (g.2.2.2, g_out ad 141)
  else .inl (g.1, n, .inl f)
/-- the plain int arrays -/
def g_isI (i : Nat) : Bool := !([129, 183, 188, 192, 0, 1, 43, 128, 138, 2, 44, 85, 140].contains i)
theorem g_ce_I {g : gT} {ad : Nat → Nat} {n : Nat} {f : Nat → Int32} {i : Nat} (h : g_isI i = true) : g_ce g ad n f i = .inl (g.1, n, .inl f) := by
  have h : ¬ (i = 129 ∨ i = 183 ∨ i = 188 ∨ i = 192 ∨ i = 0 ∨ i = 1 ∨ i = 43 ∨ i = 128 ∨ i = 138 ∨ i = 2 ∨ i = 44 ∨ i = 85 ∨ i = 140) := by
    simpa [g_isI] using h
  unfold g_ce
  rw [if_neg (by omega), if_neg (by omega), if_neg (by omega), if_neg (by omega), if_neg (by omega), if_neg (by omega), if_neg (by omega), if_neg (by omega), if_neg (by omega), if_neg (by omega), if_neg (by omega), if_neg (by omega), if_neg (by omega)]
def g_len (i : Nat) : Nat :=
  if i < 43 then 7 else if i < 85 then 60 else if i < 126 then 5 else if i < 128 then 60 else if i < 134 then 2600 else if i < 137 then 5208 else if i < 138 then 60 else if i < 140 then 40 else if i < 181 then 60 else if i < 182 then 40 else if i < 184 then 60 else if i < 185 then 246 else if i < 192 then 61 else 1
/-- how many places cell i has: ln says it of the arrays that grow (185 to 189) and of the new ones (193 on) -/
def g_ln (ln : Nat → Nat) (i : Nat) : Nat := if 185 ≤ i ∧ i ≤ 189 ∨ 193 ≤ i then ln i else g_len i
theorem g_ln_c {ln : Nat → Nat} {i : Nat} (h : i < 185) : g_ln ln i = g_len i := if_neg (by omega)
def gw (g : gT) (ad ln : Nat → Nat) (A : gM) (N : Nat) : va_W := (List.range N).map (fun i => (ad i, g_ce g ad (g_ln ln i) (A i) i))
theorem gw_at {g : gT} {ad ln : Nat → Nat} {A : gM} {N i : Nat} (h : i < N) : (gw g ad ln A N)[i]? = some (ad i, g_ce g ad (g_ln ln i) (A i) i) := by
  simp [gw, h]
theorem gw_of {g : gT} {ad ln : Nat → Nat} {A : gM} {N k : Nat} {q : Nat × va_E} (h : (gw g ad ln A N)[k]? = some q) : k < N ∧ q = (ad k, g_ce g ad (g_ln ln k) (A k) k) := by
  have hk : k < N := by
    have := (List.getElem?_eq_some_iff.mp h).1
    simpa [gw] using this
  refine ⟨hk, ?_⟩
  rw [gw_at hk] at h
  exact (Option.some.inj h).symm
/-- row i of A becomes f -/
def g_row (A : gM) (i : Nat) (f : Nat → Int32) : gM := fun a => if a = i then f else A a
/-- place j of cell i becomes v -/
def g_up (A : gM) (i j : Nat) (v : Int32) : gM := g_row A i (upd (A i) j v)
theorem g_row_s {A : gM} {i : Nat} {f : Nat → Int32} : g_row A i f i = f := if_pos rfl
theorem g_row_n {A : gM} {i a : Nat} {f : Nat → Int32} (h : a ≠ i) : g_row A i f a = A a := if_neg h
theorem gw_set {g : gT} {ad ln : Nat → Nat} {A : gM} {N i : Nat} {f : Nat → Int32} (h : i < N) : (gw g ad ln A N).set i (ad i, g_ce g ad (g_ln ln i) f i) = gw g ad ln (g_row A i f) N := by
  apply List.ext_getElem?
  intro k
  rw [List.getElem?_set]
  by_cases hk : k < N
  · rw [gw_at hk]
    by_cases e : i = k
    · subst e
      rw [if_pos rfl, if_pos (by simpa [gw] using h), gw_at h, g_row_s]
    · rw [if_neg e, gw_at hk, g_row_n (fun q => e q.symm)]
  · have h2 : (gw g ad ln (g_row A i f) N)[k]? = none := by
      rw [List.getElem?_eq_none_iff]; simp [gw]; omega
    rw [h2, if_neg (by omega), List.getElem?_eq_none_iff]
    simp [gw]; omega
abbrev g_tys (g : gT) : List (ClassId × FieldType) := [(g.1, .int), (g.2.1, .boolean), (g.2.2.1, .long), (g.2.2.2, .array .int)]
section GJ
variable {p : Program} {l : Launch} {e : Env} {R : Room} {s : State} {m : MethodId} {args : Array Value} {below : List Frame} {meth : Method} {c : Code} {Q : State → Prop} {nL : Nat} {D : va_G} {g : gT} {As : Nat → Prop} {N : Nat} {ad ln : Nat → Nat} {A : gM} {loc loc' : List (Nat × gV)} {k n pc : Nat} {st : List gV} {cc : ByteArray} {own : String} {d : Nat}
/-- the machine at pc, the world gw, locals loc, operands st, comes to Q -/
def gJ (p : Program) (l : Launch) (e : Env) (R : Room) (s : State) (m : MethodId) (args : Array Value) (below : List Frame) (meth : Method) (c : Code) (Q : State → Prop) (nL : Nat) (D : va_G) (g : gT) (As : Nat → Prop) (N : Nat) (ad ln : Nat → Nat) (A : gM) (loc : List (Nat × gV)) (k n pc : Nat) (st : List gV) : Prop :=
  ∀ (H : Heap) (locs : List Loc) (ls : Array Slot), va_P D vwCl (gw g ad ln A N) H → va_D As (gw g ad ln A N) → va_S As s.heap H locs → lv_has ls nL (loc.map (g_q ad)) → W p l e R s m args below meth c H locs k n Q (F0 m pc ls (st.map (g_v ad)))
/-- what stays while a method runs -/
def gC (p : Program) (R : Room) (s : State) (m : MethodId) (args : Array Value) (meth : Method) (c : Code) (cc : ByteArray) (own : String) (nL : Nat) (D : va_G) (g : gT) (As : Nat → Prop) (d : Nat) : Prop :=
  p.tables.exec = Jvm.exec ∧ c.code = cc ∧ c.maxLocals = nL ∧ s.vm.findClass own = some m.cls ∧ (∀ w ∈ gtb, w.before args s = true) ∧ va_K D vwCl (g_tys g) s ∧ (∀ q : Nat, s.heap.size ≤ q → As q) ∧ meth.locks = false ∧ d ≤ R.frames ∧ 40 * d ≤ R.locals
theorem g_pc {pc2 : Nat} (h : pc = pc2) (kk : gJ p l e R s m args below meth c Q nL D g As N ad ln A loc k n pc2 st) : gJ p l e R s m args below meth c Q nL D g As N ad ln A loc k n pc st := h ▸ kk
theorem g_mem {A2 : gM} (h : A = A2) (kk : gJ p l e R s m args below meth c Q nL D g As N ad ln A2 loc k n pc st) : gJ p l e R s m args below meth c Q nL D g As N ad ln A loc k n pc st := h ▸ kk
theorem g_sub (ks : List Nat) (h : ks.filterMap (fun i => loc[i]?) = loc') (kk : gJ p l e R s m args below meth c Q nL D g As N ad ln A loc' k n pc st) : gJ p l e R s m args below meth c Q nL D g As N ad ln A loc k n pc st := by
  intro H locs ls hP hD hS hl
  refine kk H locs ls hP hD hS ⟨hl.1, hl.2.1, fun q hq => hl.2.2 q ?_⟩
  obtain ⟨q0, h0, rfl⟩ := List.mem_map.mp hq
  rw [← h] at h0
  obtain ⟨i, -, hi⟩ := List.mem_filterMap.mp h0
  exact List.mem_map.mpr ⟨q0, List.mem_of_getElem? hi, rfl⟩
variable (C : gC p R s m args meth c cc own nL D g As d)
theorem g_at {ad : Nat → Nat} {loc : List (Nat × gV)} {ls : Array Slot} {q i : Nat} {v : gV} (hl : lv_has ls nL (loc.map (g_q ad))) (h : loc[q]? = some (i, v)) : ls[i]? = some (.val (g_v ad v)) :=
  lv_at hl q (by rw [List.getElem?_map, h]; rfl)
theorem g_iconst (C : gC p R s m args meth c cc own nL D g As d) {v : Int32} {z : Int} (hdg : decode cc pc = .ok (.iconst z, 1)) (hv : Int32.ofInt z = v) (kk : gJ p l e R s m args below meth c Q nL D g As N ad ln A loc k n (pc + 1) (gi v :: st)) : gJ p l e R s m args below meth c Q nL D g As N ad ln A loc k n pc (st) := fun H locs ls hP hD hS hl => lv_iconst C.1 C.2.1 hdg hv (kk H locs ls hP hD hS hl)
theorem g_bipush (C : gC p R s m args meth c cc own nL D g As d) {v : Int32} {z : Int} (hdg : decode cc pc = .ok (.bipush z, 2)) (hv : (Int8.ofInt z).toInt32 = v) (kk : gJ p l e R s m args below meth c Q nL D g As N ad ln A loc k n (pc + 2) (gi v :: st)) : gJ p l e R s m args below meth c Q nL D g As N ad ln A loc k n pc (st) := fun H locs ls hP hD hS hl => lv_bipush C.1 C.2.1 hdg hv (kk H locs ls hP hD hS hl)
theorem g_sipush (C : gC p R s m args meth c cc own nL D g As d) {v : Int32} {z : Int} (hdg : decode cc pc = .ok (.sipush z, 3)) (hv : (Int16.ofInt z).toInt32 = v) (kk : gJ p l e R s m args below meth c Q nL D g As N ad ln A loc k n (pc + 3) (gi v :: st)) : gJ p l e R s m args below meth c Q nL D g As N ad ln A loc k n pc (st) := fun H locs ls hP hD hS hl => lv_sipush C.1 C.2.1 hdg hv (kk H locs ls hP hD hS hl)
theorem g_lconst (C : gC p R s m args meth c cc own nL D g As d) {v : Int64} {z : Fin 2} (hdg : decode cc pc = .ok (.lconst z, 1)) (hv : Int64.ofNat (z : Nat) = v) (kk : gJ p l e R s m args below meth c Q nL D g As N ad ln A loc k n (pc + 1) (gl v :: st)) : gJ p l e R s m args below meth c Q nL D g As N ad ln A loc k n pc (st) := fun H locs ls hP hD hS hl => lv_lconst C.1 C.2.1 hdg hv (kk H locs ls hP hD hS hl)
theorem g_ldc (C : gC p R s m args meth c cc own nL D g As d) {v : Int32} {ix : Nat} (hw : Cond.constant own ix v ∈ gtb) (hdg : decode cc pc = .ok (.ldc ix, 2)) (kk : gJ p l e R s m args below meth c Q nL D g As N ad ln A loc k n (pc + 2) (gi v :: st)) : gJ p l e R s m args below meth c Q nL D g As N ad ln A loc k n pc (st) := fun H locs ls hP hD hS hl => lv_ldc C.1 C.2.1 C.2.2.2.1 (C.2.2.2.2.1 _ hw) hdg (kk H locs ls hP hD hS hl)
theorem g_ldc2 (C : gC p R s m args meth c cc own nL D g As d) {v : Int64} {ix : Nat} (hw : Cond.constantLong own ix v ∈ gtb) (hdg : decode cc pc = .ok (.ldc2_w ix, 3)) (kk : gJ p l e R s m args below meth c Q nL D g As N ad ln A loc k n (pc + 3) (gl v :: st)) : gJ p l e R s m args below meth c Q nL D g As N ad ln A loc k n pc (st) := fun H locs ls hP hD hS hl => lv_ldc2 C.1 C.2.1 C.2.2.2.1 (C.2.2.2.2.1 _ hw) hdg (kk H locs ls hP hD hS hl)
theorem g_dconst0 (C : gC p R s m args meth c cc own nL D g As d) (hdg : decode cc pc = .ok (.dconst 0, 1)) (kk : gJ p l e R s m args below meth c Q nL D g As N ad ln A loc k n (pc + 1) (gd 0 :: st)) : gJ p l e R s m args below meth c Q nL D g As N ad ln A loc k n pc (st) := fun H locs ls hP hD hS hl => lv_dconst0 C.1 C.2.1 hdg (kk H locs ls hP hD hS hl)
theorem g_iload_n (C : gC p R s m args meth c cc own nL D g As d) (q : Nat) {x : Int32} {z : Fin 4} (hdg : decode cc pc = .ok (.iload_n z, 1)) (h : loc[q]? = some ((z : Nat), gi x)) (kk : gJ p l e R s m args below meth c Q nL D g As N ad ln A loc k n (pc + 1) (gi x :: st)) : gJ p l e R s m args below meth c Q nL D g As N ad ln A loc k n pc (st) := fun H locs ls hP hD hS hl => lv_iload_n C.1 C.2.1 hdg rfl (g_at hl h) (kk H locs ls hP hD hS hl)
theorem g_iload (C : gC p R s m args meth c cc own nL D g As d) (q : Nat) {x : Int32} {i : Nat} (hdg : decode cc pc = .ok (.iload i, 2)) (h : loc[q]? = some (i, gi x)) (kk : gJ p l e R s m args below meth c Q nL D g As N ad ln A loc k n (pc + 2) (gi x :: st)) : gJ p l e R s m args below meth c Q nL D g As N ad ln A loc k n pc (st) := fun H locs ls hP hD hS hl => lv_iload C.1 C.2.1 hdg (g_at hl h) (kk H locs ls hP hD hS hl)
theorem g_lload_n (C : gC p R s m args meth c cc own nL D g As d) (q : Nat) {x : Int64} {z : Fin 4} (hdg : decode cc pc = .ok (.lload_n z, 1)) (h : loc[q]? = some ((z : Nat), gl x)) (kk : gJ p l e R s m args below meth c Q nL D g As N ad ln A loc k n (pc + 1) (gl x :: st)) : gJ p l e R s m args below meth c Q nL D g As N ad ln A loc k n pc (st) := fun H locs ls hP hD hS hl => lv_lload_n C.1 C.2.1 hdg rfl (g_at hl h) (kk H locs ls hP hD hS hl)
theorem g_lload (C : gC p R s m args meth c cc own nL D g As d) (q : Nat) {x : Int64} {i : Nat} (hdg : decode cc pc = .ok (.lload i, 2)) (h : loc[q]? = some (i, gl x)) (kk : gJ p l e R s m args below meth c Q nL D g As N ad ln A loc k n (pc + 2) (gl x :: st)) : gJ p l e R s m args below meth c Q nL D g As N ad ln A loc k n pc (st) := fun H locs ls hP hD hS hl => lv_lload C.1 C.2.1 hdg (g_at hl h) (kk H locs ls hP hD hS hl)
theorem g_aload_n (C : gC p R s m args meth c cc own nL D g As d) (q : Nat) {x : Nat} {z : Fin 4} (hdg : decode cc pc = .ok (.aload_n z, 1)) (h : loc[q]? = some ((z : Nat), gr x)) (kk : gJ p l e R s m args below meth c Q nL D g As N ad ln A loc k n (pc + 1) (gr x :: st)) : gJ p l e R s m args below meth c Q nL D g As N ad ln A loc k n pc (st) := fun H locs ls hP hD hS hl => lv_aload_n C.1 C.2.1 hdg rfl (g_at hl h) (kk H locs ls hP hD hS hl)
theorem g_aload (C : gC p R s m args meth c cc own nL D g As d) (q : Nat) {x : Nat} {i : Nat} (hdg : decode cc pc = .ok (.aload i, 2)) (h : loc[q]? = some (i, gr x)) (kk : gJ p l e R s m args below meth c Q nL D g As N ad ln A loc k n (pc + 2) (gr x :: st)) : gJ p l e R s m args below meth c Q nL D g As N ad ln A loc k n pc (st) := fun H locs ls hP hD hS hl => lv_aload C.1 C.2.1 hdg (g_at hl h) (kk H locs ls hP hD hS hl)
theorem g_dload_n (C : gC p R s m args meth c cc own nL D g As d) (q : Nat) {x : UInt64} {z : Fin 4} (hdg : decode cc pc = .ok (.dload_n z, 1)) (h : loc[q]? = some ((z : Nat), gd x)) (kk : gJ p l e R s m args below meth c Q nL D g As N ad ln A loc k n (pc + 1) (gd x :: st)) : gJ p l e R s m args below meth c Q nL D g As N ad ln A loc k n pc (st) := fun H locs ls hP hD hS hl => lv_dload_n C.1 C.2.1 hdg rfl (g_at hl h) (kk H locs ls hP hD hS hl)
theorem g_dload (C : gC p R s m args meth c cc own nL D g As d) (q : Nat) {x : UInt64} {i : Nat} (hdg : decode cc pc = .ok (.dload i, 2)) (h : loc[q]? = some (i, gd x)) (kk : gJ p l e R s m args below meth c Q nL D g As N ad ln A loc k n (pc + 2) (gd x :: st)) : gJ p l e R s m args below meth c Q nL D g As N ad ln A loc k n pc (st) := fun H locs ls hP hD hS hl => lv_dload C.1 C.2.1 hdg (g_at hl h) (kk H locs ls hP hD hS hl)
theorem g_iadd (C : gC p R s m args meth c cc own nL D g As d) {x y : Int32} (hdg : decode cc pc = .ok (.iadd, 1)) (kk : gJ p l e R s m args below meth c Q nL D g As N ad ln A loc k n (pc + 1) (gi (x + y) :: st)) : gJ p l e R s m args below meth c Q nL D g As N ad ln A loc k n pc (gi y :: gi x :: st) := fun H locs ls hP hD hS hl => lv_iadd C.1 C.2.1 hdg (kk H locs ls hP hD hS hl)
theorem g_isub (C : gC p R s m args meth c cc own nL D g As d) {x y : Int32} (hdg : decode cc pc = .ok (.isub, 1)) (kk : gJ p l e R s m args below meth c Q nL D g As N ad ln A loc k n (pc + 1) (gi (x - y) :: st)) : gJ p l e R s m args below meth c Q nL D g As N ad ln A loc k n pc (gi y :: gi x :: st) := fun H locs ls hP hD hS hl => lv_isub C.1 C.2.1 hdg (kk H locs ls hP hD hS hl)
theorem g_imul (C : gC p R s m args meth c cc own nL D g As d) {x y : Int32} (hdg : decode cc pc = .ok (.imul, 1)) (kk : gJ p l e R s m args below meth c Q nL D g As N ad ln A loc k n (pc + 1) (gi (x * y) :: st)) : gJ p l e R s m args below meth c Q nL D g As N ad ln A loc k n pc (gi y :: gi x :: st) := fun H locs ls hP hD hS hl => lv_imul C.1 C.2.1 hdg (kk H locs ls hP hD hS hl)
theorem g_iand (C : gC p R s m args meth c cc own nL D g As d) {x y : Int32} (hdg : decode cc pc = .ok (.iand, 1)) (kk : gJ p l e R s m args below meth c Q nL D g As N ad ln A loc k n (pc + 1) (gi (x &&& y) :: st)) : gJ p l e R s m args below meth c Q nL D g As N ad ln A loc k n pc (gi y :: gi x :: st) := fun H locs ls hP hD hS hl => lv_iand C.1 C.2.1 hdg (kk H locs ls hP hD hS hl)
theorem g_ladd (C : gC p R s m args meth c cc own nL D g As d) {x y : Int64} (hdg : decode cc pc = .ok (.ladd, 1)) (kk : gJ p l e R s m args below meth c Q nL D g As N ad ln A loc k n (pc + 1) (gl (x + y) :: st)) : gJ p l e R s m args below meth c Q nL D g As N ad ln A loc k n pc (gl y :: gl x :: st) := fun H locs ls hP hD hS hl => lv_ladd C.1 C.2.1 hdg (kk H locs ls hP hD hS hl)
theorem g_lmul (C : gC p R s m args meth c cc own nL D g As d) {x y : Int64} (hdg : decode cc pc = .ok (.lmul, 1)) (kk : gJ p l e R s m args below meth c Q nL D g As N ad ln A loc k n (pc + 1) (gl (x * y) :: st)) : gJ p l e R s m args below meth c Q nL D g As N ad ln A loc k n pc (gl y :: gl x :: st) := fun H locs ls hP hD hS hl => lv_lmul C.1 C.2.1 hdg (kk H locs ls hP hD hS hl)
theorem g_i2l (C : gC p R s m args meth c cc own nL D g As d) {x : Int32} (hdg : decode cc pc = .ok (.i2l, 1)) (kk : gJ p l e R s m args below meth c Q nL D g As N ad ln A loc k n (pc + 1) (gl x.toInt64 :: st)) : gJ p l e R s m args below meth c Q nL D g As N ad ln A loc k n pc (gi x :: st) := fun H locs ls hP hD hS hl => lv_i2l C.1 C.2.1 hdg rfl (kk H locs ls hP hD hS hl)
theorem g_i2d (C : gC p R s m args meth c cc own nL D g As d) {x : Int32} (hdg : decode cc pc = .ok (.i2d, 1)) (kk : gJ p l e R s m args below meth c Q nL D g As N ad ln A loc k n (pc + 1) (gd (FP.i2d x) :: st)) : gJ p l e R s m args below meth c Q nL D g As N ad ln A loc k n pc (gi x :: st) := fun H locs ls hP hD hS hl => lv_i2d C.1 C.2.1 hdg (kk H locs ls hP hD hS hl)
theorem g_lcmp (C : gC p R s m args meth c cc own nL D g As d) {x y : Int64} (hdg : decode cc pc = .ok (.lcmp, 1)) (kk : gJ p l e R s m args below meth c Q nL D g As N ad ln A loc k n (pc + 1) (gi (lg_cmp x y) :: st)) : gJ p l e R s m args below meth c Q nL D g As N ad ln A loc k n pc (gl y :: gl x :: st) := fun H locs ls hP hD hS hl => W.lcmp C.1 C.2.1 hdg (kk H locs ls hP hD hS hl)
theorem g_dcmp (C : gC p R s m args meth c cc own nL D g As d) {x y : UInt64} {op : CmpOp} (hdg : decode cc pc = .ok (.dcmp op, 1)) (kk : gJ p l e R s m args below meth c Q nL D g As N ad ln A loc k n (pc + 1) (gi (Op.cmpValue (FP.dcmp x y) op) :: st)) : gJ p l e R s m args below meth c Q nL D g As N ad ln A loc k n pc (gd y :: gd x :: st) := fun H locs ls hP hD hS hl => lv_dcmp C.1 C.2.1 hdg (kk H locs ls hP hD hS hl)
theorem g_dup_r (C : gC p R s m args meth c cc own nL D g As d) {x : Nat} (hdg : decode cc pc = .ok (.dup, 1)) (kk : gJ p l e R s m args below meth c Q nL D g As N ad ln A loc k n (pc + 1) (gr x :: gr x :: st)) : gJ p l e R s m args below meth c Q nL D g As N ad ln A loc k n pc (gr x :: st) := fun H locs ls hP hD hS hl => lv_dup C.1 C.2.1 hdg rfl (kk H locs ls hP hD hS hl)
theorem g_dup_i (C : gC p R s m args meth c cc own nL D g As d) {x : Int32} (hdg : decode cc pc = .ok (.dup, 1)) (kk : gJ p l e R s m args below meth c Q nL D g As N ad ln A loc k n (pc + 1) (gi x :: gi x :: st)) : gJ p l e R s m args below meth c Q nL D g As N ad ln A loc k n pc (gi x :: st) := fun H locs ls hP hD hS hl => lv_dup C.1 C.2.1 hdg rfl (kk H locs ls hP hD hS hl)
theorem g_pop_i (C : gC p R s m args meth c cc own nL D g As d) {x : Int32} (hdg : decode cc pc = .ok (.pop, 1)) (kk : gJ p l e R s m args below meth c Q nL D g As N ad ln A loc k n (pc + 1) (st)) : gJ p l e R s m args below meth c Q nL D g As N ad ln A loc k n pc (gi x :: st) := fun H locs ls hP hD hS hl => lv_pop C.1 C.2.1 hdg rfl (kk H locs ls hP hD hS hl)
theorem g_if_eq (C : gC p R s m args meth c cc own nL D g As d) {x : Int32} {off : Int} {tgt : Nat} (hdg : decode cc pc = .ok (.ifCond .eq off, 3)) (ht : (pc : Int) + off = (tgt : Int)) (kt : x = 0 → gJ p l e R s m args below meth c Q nL D g As N ad ln A loc k n tgt st) (kf : ¬ x = 0 → gJ p l e R s m args below meth c Q nL D g As N ad ln A loc k n (pc + 3) st) : gJ p l e R s m args below meth c Q nL D g As N ad ln A loc k n pc (gi x :: st) := fun H locs ls hP hD hS hl => lv_if_eq C.1 C.2.1 hdg ht (fun q => kt q H locs ls hP hD hS hl) (fun q => kf q H locs ls hP hD hS hl)
theorem g_if_ne (C : gC p R s m args meth c cc own nL D g As d) {x : Int32} {off : Int} {tgt : Nat} (hdg : decode cc pc = .ok (.ifCond .ne off, 3)) (ht : (pc : Int) + off = (tgt : Int)) (kt : ¬ x = 0 → gJ p l e R s m args below meth c Q nL D g As N ad ln A loc k n tgt st) (kf : x = 0 → gJ p l e R s m args below meth c Q nL D g As N ad ln A loc k n (pc + 3) st) : gJ p l e R s m args below meth c Q nL D g As N ad ln A loc k n pc (gi x :: st) := fun H locs ls hP hD hS hl => lv_if_ne C.1 C.2.1 hdg ht (fun q => kt q H locs ls hP hD hS hl) (fun q => kf q H locs ls hP hD hS hl)
theorem g_if_lt (C : gC p R s m args meth c cc own nL D g As d) {x : Int32} {off : Int} {tgt : Nat} (hdg : decode cc pc = .ok (.ifCond .lt off, 3)) (ht : (pc : Int) + off = (tgt : Int)) (kt : x < 0 → gJ p l e R s m args below meth c Q nL D g As N ad ln A loc k n tgt st) (kf : ¬ x < 0 → gJ p l e R s m args below meth c Q nL D g As N ad ln A loc k n (pc + 3) st) : gJ p l e R s m args below meth c Q nL D g As N ad ln A loc k n pc (gi x :: st) := fun H locs ls hP hD hS hl => lv_if_lt C.1 C.2.1 hdg ht (fun q => kt q H locs ls hP hD hS hl) (fun q => kf q H locs ls hP hD hS hl)
theorem g_if_ge (C : gC p R s m args meth c cc own nL D g As d) {x : Int32} {off : Int} {tgt : Nat} (hdg : decode cc pc = .ok (.ifCond .ge off, 3)) (ht : (pc : Int) + off = (tgt : Int)) (kt : 0 ≤ x → gJ p l e R s m args below meth c Q nL D g As N ad ln A loc k n tgt st) (kf : ¬ 0 ≤ x → gJ p l e R s m args below meth c Q nL D g As N ad ln A loc k n (pc + 3) st) : gJ p l e R s m args below meth c Q nL D g As N ad ln A loc k n pc (gi x :: st) := fun H locs ls hP hD hS hl => lv_if_ge C.1 C.2.1 hdg ht (fun q => kt q H locs ls hP hD hS hl) (fun q => kf q H locs ls hP hD hS hl)
theorem g_if_gt (C : gC p R s m args meth c cc own nL D g As d) {x : Int32} {off : Int} {tgt : Nat} (hdg : decode cc pc = .ok (.ifCond .gt off, 3)) (ht : (pc : Int) + off = (tgt : Int)) (kt : 0 < x → gJ p l e R s m args below meth c Q nL D g As N ad ln A loc k n tgt st) (kf : ¬ 0 < x → gJ p l e R s m args below meth c Q nL D g As N ad ln A loc k n (pc + 3) st) : gJ p l e R s m args below meth c Q nL D g As N ad ln A loc k n pc (gi x :: st) := fun H locs ls hP hD hS hl => lv_if_gt C.1 C.2.1 hdg ht (fun q => kt q H locs ls hP hD hS hl) (fun q => kf q H locs ls hP hD hS hl)
theorem g_if_le (C : gC p R s m args meth c cc own nL D g As d) {x : Int32} {off : Int} {tgt : Nat} (hdg : decode cc pc = .ok (.ifCond .le off, 3)) (ht : (pc : Int) + off = (tgt : Int)) (kt : x ≤ 0 → gJ p l e R s m args below meth c Q nL D g As N ad ln A loc k n tgt st) (kf : ¬ x ≤ 0 → gJ p l e R s m args below meth c Q nL D g As N ad ln A loc k n (pc + 3) st) : gJ p l e R s m args below meth c Q nL D g As N ad ln A loc k n pc (gi x :: st) := fun H locs ls hP hD hS hl => lv_if_le C.1 C.2.1 hdg ht (fun q => kt q H locs ls hP hD hS hl) (fun q => kf q H locs ls hP hD hS hl)
theorem g_icmp_eq (C : gC p R s m args meth c cc own nL D g As d) {x y : Int32} {off : Int} {tgt : Nat} (hdg : decode cc pc = .ok (.if_icmp .eq off, 3)) (ht : (pc : Int) + off = (tgt : Int)) (kt : x = y → gJ p l e R s m args below meth c Q nL D g As N ad ln A loc k n tgt st) (kf : ¬ x = y → gJ p l e R s m args below meth c Q nL D g As N ad ln A loc k n (pc + 3) st) : gJ p l e R s m args below meth c Q nL D g As N ad ln A loc k n pc (gi y :: gi x :: st) := fun H locs ls hP hD hS hl => lv_icmp_eq C.1 C.2.1 hdg ht (fun q => kt q H locs ls hP hD hS hl) (fun q => kf q H locs ls hP hD hS hl)
theorem g_icmp_ne (C : gC p R s m args meth c cc own nL D g As d) {x y : Int32} {off : Int} {tgt : Nat} (hdg : decode cc pc = .ok (.if_icmp .ne off, 3)) (ht : (pc : Int) + off = (tgt : Int)) (kt : ¬ x = y → gJ p l e R s m args below meth c Q nL D g As N ad ln A loc k n tgt st) (kf : x = y → gJ p l e R s m args below meth c Q nL D g As N ad ln A loc k n (pc + 3) st) : gJ p l e R s m args below meth c Q nL D g As N ad ln A loc k n pc (gi y :: gi x :: st) := fun H locs ls hP hD hS hl => lv_icmp_ne C.1 C.2.1 hdg ht (fun q => kt q H locs ls hP hD hS hl) (fun q => kf q H locs ls hP hD hS hl)
theorem g_icmp_lt (C : gC p R s m args meth c cc own nL D g As d) {x y : Int32} {off : Int} {tgt : Nat} (hdg : decode cc pc = .ok (.if_icmp .lt off, 3)) (ht : (pc : Int) + off = (tgt : Int)) (kt : x < y → gJ p l e R s m args below meth c Q nL D g As N ad ln A loc k n tgt st) (kf : ¬ x < y → gJ p l e R s m args below meth c Q nL D g As N ad ln A loc k n (pc + 3) st) : gJ p l e R s m args below meth c Q nL D g As N ad ln A loc k n pc (gi y :: gi x :: st) := fun H locs ls hP hD hS hl => lv_icmp_lt C.1 C.2.1 hdg ht (fun q => kt q H locs ls hP hD hS hl) (fun q => kf q H locs ls hP hD hS hl)
theorem g_icmp_ge (C : gC p R s m args meth c cc own nL D g As d) {x y : Int32} {off : Int} {tgt : Nat} (hdg : decode cc pc = .ok (.if_icmp .ge off, 3)) (ht : (pc : Int) + off = (tgt : Int)) (kt : y ≤ x → gJ p l e R s m args below meth c Q nL D g As N ad ln A loc k n tgt st) (kf : ¬ y ≤ x → gJ p l e R s m args below meth c Q nL D g As N ad ln A loc k n (pc + 3) st) : gJ p l e R s m args below meth c Q nL D g As N ad ln A loc k n pc (gi y :: gi x :: st) := fun H locs ls hP hD hS hl => lv_icmp_ge C.1 C.2.1 hdg ht (fun q => kt q H locs ls hP hD hS hl) (fun q => kf q H locs ls hP hD hS hl)
theorem g_icmp_gt (C : gC p R s m args meth c cc own nL D g As d) {x y : Int32} {off : Int} {tgt : Nat} (hdg : decode cc pc = .ok (.if_icmp .gt off, 3)) (ht : (pc : Int) + off = (tgt : Int)) (kt : y < x → gJ p l e R s m args below meth c Q nL D g As N ad ln A loc k n tgt st) (kf : ¬ y < x → gJ p l e R s m args below meth c Q nL D g As N ad ln A loc k n (pc + 3) st) : gJ p l e R s m args below meth c Q nL D g As N ad ln A loc k n pc (gi y :: gi x :: st) := fun H locs ls hP hD hS hl => lv_icmp_gt C.1 C.2.1 hdg ht (fun q => kt q H locs ls hP hD hS hl) (fun q => kf q H locs ls hP hD hS hl)
theorem g_icmp_le (C : gC p R s m args meth c cc own nL D g As d) {x y : Int32} {off : Int} {tgt : Nat} (hdg : decode cc pc = .ok (.if_icmp .le off, 3)) (ht : (pc : Int) + off = (tgt : Int)) (kt : x ≤ y → gJ p l e R s m args below meth c Q nL D g As N ad ln A loc k n tgt st) (kf : ¬ x ≤ y → gJ p l e R s m args below meth c Q nL D g As N ad ln A loc k n (pc + 3) st) : gJ p l e R s m args below meth c Q nL D g As N ad ln A loc k n pc (gi y :: gi x :: st) := fun H locs ls hP hD hS hl => lv_icmp_le C.1 C.2.1 hdg ht (fun q => kt q H locs ls hP hD hS hl) (fun q => kf q H locs ls hP hD hS hl)
theorem g_goto (C : gC p R s m args meth c cc own nL D g As d) {off : Int} {tgt : Nat} (hdg : decode cc pc = .ok (.goto off, 3)) (ht : (pc : Int) + off = (tgt : Int)) (kk : gJ p l e R s m args below meth c Q nL D g As N ad ln A loc k n tgt st) : gJ p l e R s m args below meth c Q nL D g As N ad ln A loc k n pc st := fun H locs ls hP hD hS hl => lv_goto C.1 C.2.1 hdg ht (kk H locs ls hP hD hS hl)
def g_cat : gV → Nat
  | .inl _ => 1
  | .inr v => v.category
theorem g_cat_v {ad : Nat → Nat} {v : gV} : (g_v ad v).category = g_cat v := by cases v <;> rfl
/-- the locals behind a store of one word, of two -/
def g_st (i : Nat) (v : gV) (loc : List (Nat × gV)) : List (Nat × gV) := (i, v) :: loc.filter (fun q => !(q.1 == i) && !(q.1 + 1 == i && g_cat q.2 == 2))
def g_st2 (i : Nat) (v : gV) (loc : List (Nat × gV)) : List (Nat × gV) := (i, v) :: loc.filter (fun q => !(q.1 == i) && (!(q.1 == i + 1) && !(q.1 + 1 == i && g_cat q.2 == 2)))
theorem g_st_map {ad : Nat → Nat} {i : Nat} {v : gV} {loc : List (Nat × gV)} : (i, g_v ad v) :: (loc.map (g_q ad)).filter (fun q => !(q.1 == i) && !(q.1 + 1 == i && q.2.category == 2)) = (g_st i v loc).map (g_q ad) := by
  show _ = (i, g_v ad v) :: _
  rw [List.filter_map]
  congr 2
  apply List.filter_congr
  intro q _
  simp [g_q, g_cat_v]
theorem g_st2_map {ad : Nat → Nat} {i : Nat} {v : gV} {loc : List (Nat × gV)} : (i, g_v ad v) :: (loc.map (g_q ad)).filter (fun q => !(q.1 == i) && (!(q.1 == i + 1) && !(q.1 + 1 == i && q.2.category == 2))) = (g_st2 i v loc).map (g_q ad) := by
  show _ = (i, g_v ad v) :: _
  rw [List.filter_map]
  congr 2
  apply List.filter_congr
  intro q _
  simp [g_q, g_cat_v]
theorem g_istore_n (C : gC p R s m args meth c cc own nL D g As d) {x : Int32} {z : Fin 4} (hdg : decode cc pc = .ok (.istore_n z, 1)) (hn : (z : Nat) < nL) (h : g_st z (gi x) loc = loc') (kk : gJ p l e R s m args below meth c Q nL D g As N ad ln A loc' k n (pc + 1) st) : gJ p l e R s m args below meth c Q nL D g As N ad ln A loc k n pc (gi x :: st) := fun H locs ls hP hD hS hl => lv_istore_n C.1 C.2.1 hdg rfl hl hn (g_st_map.trans (by rw [h])) (fun ls' hl' => kk H locs ls' hP hD hS hl')
theorem g_istore (C : gC p R s m args meth c cc own nL D g As d) {x : Int32} {i : Nat} (hdg : decode cc pc = .ok (.istore i, 2)) (hn : i < nL) (h : g_st i (gi x) loc = loc') (kk : gJ p l e R s m args below meth c Q nL D g As N ad ln A loc' k n (pc + 2) st) : gJ p l e R s m args below meth c Q nL D g As N ad ln A loc k n pc (gi x :: st) := fun H locs ls hP hD hS hl => lv_istore C.1 C.2.1 hdg hl hn (g_st_map.trans (by rw [h])) (fun ls' hl' => kk H locs ls' hP hD hS hl')
theorem g_lstore_n (C : gC p R s m args meth c cc own nL D g As d) {x : Int64} {z : Fin 4} (hdg : decode cc pc = .ok (.lstore_n z, 1)) (hn : (z : Nat) + 1 < nL) (h : g_st2 z (gl x) loc = loc') (kk : gJ p l e R s m args below meth c Q nL D g As N ad ln A loc' k n (pc + 1) st) : gJ p l e R s m args below meth c Q nL D g As N ad ln A loc k n pc (gl x :: st) := fun H locs ls hP hD hS hl => lv_lstore_n C.1 C.2.1 hdg rfl hl hn (g_st2_map.trans (by rw [h])) (fun ls' hl' => kk H locs ls' hP hD hS hl')
theorem g_lstore (C : gC p R s m args meth c cc own nL D g As d) {x : Int64} {i : Nat} (hdg : decode cc pc = .ok (.lstore i, 2)) (hn : i + 1 < nL) (h : g_st2 i (gl x) loc = loc') (kk : gJ p l e R s m args below meth c Q nL D g As N ad ln A loc' k n (pc + 2) st) : gJ p l e R s m args below meth c Q nL D g As N ad ln A loc k n pc (gl x :: st) := fun H locs ls hP hD hS hl => lv_lstore C.1 C.2.1 hdg hl hn (g_st2_map.trans (by rw [h])) (fun ls' hl' => kk H locs ls' hP hD hS hl')
theorem g_astore_n (C : gC p R s m args meth c cc own nL D g As d) {x : Nat} {z : Fin 4} (hdg : decode cc pc = .ok (.astore_n z, 1)) (hn : (z : Nat) < nL) (h : g_st z (gr x) loc = loc') (kk : gJ p l e R s m args below meth c Q nL D g As N ad ln A loc' k n (pc + 1) st) : gJ p l e R s m args below meth c Q nL D g As N ad ln A loc k n pc (gr x :: st) := fun H locs ls hP hD hS hl => lv_astore_n C.1 C.2.1 hdg rfl hl hn (g_st_map.trans (by rw [h])) (fun ls' hl' => kk H locs ls' hP hD hS hl')
theorem g_astore (C : gC p R s m args meth c cc own nL D g As d) {x : Nat} {i : Nat} (hdg : decode cc pc = .ok (.astore i, 2)) (hn : i < nL) (h : g_st i (gr x) loc = loc') (kk : gJ p l e R s m args below meth c Q nL D g As N ad ln A loc' k n (pc + 2) st) : gJ p l e R s m args below meth c Q nL D g As N ad ln A loc k n pc (gr x :: st) := fun H locs ls hP hD hS hl => lv_astore C.1 C.2.1 hdg hl hn (g_st_map.trans (by rw [h])) (fun ls' hl' => kk H locs ls' hP hD hS hl')
theorem g_dstore_n (C : gC p R s m args meth c cc own nL D g As d) {x : UInt64} {z : Fin 4} (hdg : decode cc pc = .ok (.dstore_n z, 1)) (hn : (z : Nat) + 1 < nL) (h : g_st2 z (gd x) loc = loc') (kk : gJ p l e R s m args below meth c Q nL D g As N ad ln A loc' k n (pc + 1) st) : gJ p l e R s m args below meth c Q nL D g As N ad ln A loc k n pc (gd x :: st) := fun H locs ls hP hD hS hl => lv_dstore_n C.1 C.2.1 hdg rfl hl hn (g_st2_map.trans (by rw [h])) (fun ls' hl' => kk H locs ls' hP hD hS hl')
theorem g_dstore (C : gC p R s m args meth c cc own nL D g As d) {x : UInt64} {i : Nat} (hdg : decode cc pc = .ok (.dstore i, 2)) (hn : i + 1 < nL) (h : g_st2 i (gd x) loc = loc') (kk : gJ p l e R s m args below meth c Q nL D g As N ad ln A loc' k n (pc + 2) st) : gJ p l e R s m args below meth c Q nL D g As N ad ln A loc k n pc (gd x :: st) := fun H locs ls hP hD hS hl => lv_dstore C.1 C.2.1 hdg hl hn (g_st2_map.trans (by rw [h])) (fun ls' hl' => kk H locs ls' hP hD hS hl')
theorem g_iinc (C : gC p R s m args meth c cc own nL D g As d) (q : Nat) {x v : Int32} {i : Nat} {z : Int} (hdg : decode cc pc = .ok (.iinc i z, 3)) (hq : loc[q]? = some (i, gi x)) (hv : x + Int32.ofInt z = v) (hn : i < nL) (h : g_st i (gi v) loc = loc') (kk : gJ p l e R s m args below meth c Q nL D g As N ad ln A loc' k n (pc + 3) st) : gJ p l e R s m args below meth c Q nL D g As N ad ln A loc k n pc st := fun H locs ls hP hD hS hl => lv_iinc (k := q) C.1 C.2.1 hdg hl (by rw [List.getElem?_map, hq]; rfl) hv hn (g_st_map.trans (by rw [h])) (fun ls' hl' => kk H locs ls' hP hD hS hl')
def g_in (x : Int32) (n : Nat) : Bool := decide (¬ (x < 0 ∨ n ≤ x.toNatClampNeg))
theorem g_in_vp {x : Int32} {n : Nat} (h : g_in x n = true) : vp_in x n := (of_decide_eq_true h : ¬ (x < 0 ∨ n ≤ x.toNatClampNeg))
theorem g_in_lt {x : Int32} {n : Nat} (h : g_in x n = true) : x.toNatClampNeg < n := Nat.not_le.mp fun q => g_in_vp h (Or.inr q)
theorem g_iald (C : gC p R s m args meth c cc own nL D g As d) (i : Nat) {nn : Nat} {x : Int32} (hi : i < N) (hI : g_isI i = true) (hn : g_ln ln i = nn) (hin : g_in x nn = true) (hdg : decode cc pc = .ok (.iaload, 1)) (kk : gJ p l e R s m args below meth c Q nL D g As N ad ln A loc k n (pc + 1) (gi (A i x.toNatClampNeg) :: st)) : gJ p l e R s m args below meth c Q nL D g As N ad ln A loc k n pc (gi x :: gr i :: st) := fun H locs ls hP hD hS hl => va_iald C.1 C.2.1 C.2.2.2.2.2.1 hP i 0 (f := A i) (n := nn) (cA := g.1) (by rw [gw_at hi, g_ce_I hI, hn]) rfl (g_in_vp hin) hdg (kk H locs ls hP hD hS hl)
theorem g_iast (C : gC p R s m args meth c cc own nL D g As d) (i : Nat) {nn : Nat} {x v : Int32} {A' : gM} (hi : i < N) (hI : g_isI i = true) (hn : g_ln ln i = nn) (hin : g_in x nn = true) (hA : g_up A i x.toNatClampNeg v = A') (hdg : decode cc pc = .ok (.iastore, 1)) (kk : gJ p l e R s m args below meth c Q nL D g As N ad ln A' loc k n (pc + 1) st) : gJ p l e R s m args below meth c Q nL D g As N ad ln A loc k n pc (gi v :: gi x :: gr i :: st) := fun H locs ls hP hD hS hl => va_iast C.1 C.2.1 C.2.2.2.2.2.1 hP hD hS i 0 (f := A i) (n := nn) (cA := g.1) (by rw [gw_at hi, g_ce_I hI, hn]) rfl (g_in_vp hin) hdg (fun H1 locs1 hP1 hD1 hS1 => by
  have e : (gw g ad ln A N).set i (ad i, .inl (g.1, nn, .inl (upd (A i) x.toNatClampNeg v))) = gw g ad ln A' N := by
    rw [← hA, g_up, ← gw_set hi, g_ce_I hI, hn]
  rw [e] at hP1 hD1
  exact kk H1 locs1 ls hP1 hD1 hS1 hl)
theorem g_zald (C : gC p R s m args meth c cc own nL D g As d) {x : Int32} (hi : 188 < N) (hin : g_in x (ln 188) = true) (hdg : decode cc pc = .ok (.baload, 1)) (kk : gJ p l e R s m args below meth c Q nL D g As N ad ln A loc k n (pc + 1) (gi (A 188 x.toNatClampNeg) :: st)) : gJ p l e R s m args below meth c Q nL D g As N ad ln A loc k n pc (gi x :: gr 188 :: st) := fun H locs ls hP hD hS hl => va_zald C.1 C.2.1 C.2.2.2.2.2.1 hP 188 1 (f := A 188) (n := ln 188) (cA := g.2.1) (by rw [gw_at hi]; rfl) rfl (g_in_vp hin) hdg (kk H locs ls hP hD hS hl)
theorem g_zast (C : gC p R s m args meth c cc own nL D g As d) {x v : Int32} {A' : gM} (hi : 188 < N) (hin : g_in x (ln 188) = true) (hA : g_up A 188 x.toNatClampNeg (vp_nar .boolean v) = A') (hdg : decode cc pc = .ok (.bastore, 1)) (kk : gJ p l e R s m args below meth c Q nL D g As N ad ln A' loc k n (pc + 1) st) : gJ p l e R s m args below meth c Q nL D g As N ad ln A loc k n pc (gi v :: gi x :: gr 188 :: st) := fun H locs ls hP hD hS hl => va_zast C.1 C.2.1 C.2.2.2.2.2.1 hP hD hS 188 1 (f := A 188) (n := ln 188) (cA := g.2.1) (by rw [gw_at hi]; rfl) rfl (g_in_vp hin) hdg (fun H1 locs1 hP1 hD1 hS1 => by
  have e : (gw g ad ln A N).set 188 (ad 188, .inl (g.2.1, ln 188, .inl (upd (A 188) x.toNatClampNeg (vp_nar .boolean v)))) = gw g ad ln A' N := by
    rw [← hA, g_up, ← gw_set hi]; rfl
  rw [e] at hP1 hD1
  exact kk H1 locs1 ls hP1 hD1 hS1 hl)
theorem g_lald (C : gC p R s m args meth c cc own nL D g As d) {x : Int32} (hi : 192 < N) (hin : g_in x 1 = true) (hdg : decode cc pc = .ok (.laload, 1)) (kk : gJ p l e R s m args below meth c Q nL D g As N ad ln A loc k n (pc + 1) (gl (A 192 x.toNatClampNeg).toInt64 :: st)) : gJ p l e R s m args below meth c Q nL D g As N ad ln A loc k n pc (gi x :: gr 192 :: st) := fun H locs ls hP hD hS hl => va_lald C.1 C.2.1 C.2.2.2.2.2.1 hP 192 2 (f := fun j => (A 192 j).toInt64) (n := 1) (cA := g.2.2.1) (by rw [gw_at hi]; rfl) rfl (g_in_vp hin) hdg (kk H locs ls hP hD hS hl)
theorem g_last (C : gC p R s m args meth c cc own nL D g As d) {x v : Int32} {A' : gM} (hi : 192 < N) (hin : g_in x 1 = true) (hA : g_up A 192 x.toNatClampNeg v = A') (hdg : decode cc pc = .ok (.lastore, 1)) (kk : gJ p l e R s m args below meth c Q nL D g As N ad ln A' loc k n (pc + 1) st) : gJ p l e R s m args below meth c Q nL D g As N ad ln A loc k n pc (gl v.toInt64 :: gi x :: gr 192 :: st) := fun H locs ls hP hD hS hl => va_last C.1 C.2.1 C.2.2.2.2.2.1 hP hD hS 192 2 (f := fun j => (A 192 j).toInt64) (n := 1) (cA := g.2.2.1) (by rw [gw_at hi]; rfl) rfl (g_in_vp hin) hdg (fun H1 locs1 hP1 hD1 hS1 => by
  have e : (gw g ad ln A N).set 192 (ad 192, .inl (g.2.2.1, 1, .inr (.inl (vp_updL (fun j => (A 192 j).toInt64) x.toNatClampNeg v.toInt64)))) = gw g ad ln A' N := by
    rw [← hA, g_up, ← gw_set hi]
    have : (fun j => (upd (A 192) x.toNatClampNeg v j).toInt64) = vp_updL (fun j => (A 192 j).toInt64) x.toNatClampNeg v.toInt64 := by
      funext j
      show _ = if j = x.toNatClampNeg then v.toInt64 else (A 192 j).toInt64
      by_cases q : j = x.toNatClampNeg
      · rw [if_pos q, q, pk_us]
      · rw [if_neg q, pk_un q]
    show _ = (gw g ad ln A N).set 192 (ad 192, .inl (g.2.2.1, 1, .inr (.inl (fun j => (upd (A 192) x.toNatClampNeg v j).toInt64))))
    rw [this]
  rw [e] at hP1 hD1
  exact kk H1 locs1 ls hP1 hD1 hS1 hl)
theorem g_aald (C : gC p R s m args meth c cc own nL D g As d) (i b : Nat) {x : Int32} (hi : i < N) (hc : g_ce g ad (g_ln ln i) (A i) i = .inl (g.2.2.2, g_out ad b)) (hin : g_in x 40 = true) (hdg : decode cc pc = .ok (.aaload, 1)) (kk : gJ p l e R s m args below meth c Q nL D g As N ad ln A loc k n (pc + 1) (gr (b + x.toNatClampNeg) :: st)) : gJ p l e R s m args below meth c Q nL D g As N ad ln A loc k n pc (gi x :: gr i :: st) := fun H locs ls hP hD hS hl => by
  have hlt := g_in_lt hin
  have hin := g_in_vp hin
  have ha : H[ad i]? = some (arrV g.2.2.2 40 (fun j => va_rf (if j < 40 then some (ad (b + j)) else none))) := by
    have h1 := hP i _ (gw_at hi)
    rw [hc] at h1
    exact h1
  have hv : va_rf (if x.toNatClampNeg < 40 then some (ad (b + x.toNatClampNeg)) else none) = .ref (ad (b + x.toNatClampNeg)) := by rw [if_pos hlt]; rfl
  exact W.aald (v := .ref (ad (b + x.toNatClampNeg))) (ty := .array .int) C.1 C.2.1 ha ((C.2.2.2.2.2.1.2 3 _ rfl).1 40 (fun j => va_rf (if j < 40 then some (ad (b + j)) else none))) rfl (fun q => by cases q) (by show ¬ (x < 0 ∨ (arrV _ _ _).slots.size ≤ _); rw [arrV_size]; exact hin) (by show (arrV _ _ _).slots[_]? = _; rw [arrV_read _ _ hlt, hv]) rfl rfl hdg (kk H locs ls hP hD hS hl)
theorem g_alen (C : gC p R s m args meth c cc own nL D g As d) (i : Nat) {v : Int32} (hi : i < N) (hI : g_isI i = true) (hv : Int32.ofNat (g_ln ln i) = v) (hdg : decode cc pc = .ok (.arraylength, 1)) (kk : gJ p l e R s m args below meth c Q nL D g As N ad ln A loc k n (pc + 1) (gi v :: st)) : gJ p l e R s m args below meth c Q nL D g As N ad ln A loc k n pc (gr i :: st) := fun H locs ls hP hD hS hl => va_alen C.1 C.2.1 C.2.2.2.2.2.1 hP i 0 (x := (g_ln ln i, .inl (A i))) (cA := g.1) (by rw [gw_at hi, g_ce_I hI]) rfl hv hdg (kk H locs ls hP hD hS hl)
theorem g_get (C : gC p R s m args meth c cc own nL D g As d) (i q : Nat) {ci ix Nn : Nat} {fs : List Value} {Cn : String} {T : u_T} {v : gV} (hi : i < N) (he : g_ce g ad (g_ln ln i) (A i) i = .inr (ci, fs)) (hc : vwCl[ci]? = some (Cn, T, Nn)) (hu : ∀ w ∈ u_ws Cn T Nn, w ∈ gtb) (hq : q < Nn) (hw : Cond.fieldLink own ix (T q).1 (T q).2.1 (T q).2.2.1 ∈ gtb) (hv : fs[q]? = some (g_v ad v)) (hdg : decode cc pc = .ok (.getfield ix, 3)) (kk : gJ p l e R s m args below meth c Q nL D g As N ad ln A loc k n (pc + 3) (v :: st)) : gJ p l e R s m args below meth c Q nL D g As N ad ln A loc k n pc (gr i :: st) := fun H locs ls hP hD hS hl => va_get C.1 C.2.1 C.2.2.2.2.1 hu C.2.2.2.1 C.2.2.2.2.2.1 hP i (fs := fs) (by rw [gw_at hi, he]) hc q hq (C.2.2.2.2.1 _ hw) (fun _ h9 => h9) hv hdg (kk H locs ls hP hD hS hl)
theorem g_put (C : gC p R s m args meth c cc own nL D g As d) (i q : Nat) {ci ix Nn : Nat} {fs : List Value} {Cn : String} {T : u_T} {v : Int32} {A' : gM} (ty0 : Nat → FieldType) (hty : ∀ k, k < Nn → parseFieldDescriptor (T k).2.2.1 = some (ty0 k)) (hnm : ∀ a, a < Nn → ∀ b, b < Nn → a ≠ b → (T a).2.1 ≠ (T b).2.1) (hi : i < N) (he : g_ce g ad (g_ln ln i) (A i) i = .inr (ci, fs)) (hc : vwCl[ci]? = some (Cn, T, Nn)) (hu : ∀ w ∈ u_ws Cn T Nn, w ∈ gtb) (hq : q < Nn) (hw : Cond.fieldLink own ix (T q).1 (T q).2.1 (T q).2.2.1 ∈ gtb) (hfin : (T q).2.2.2 = false) (hd : parseFieldDescriptor (T q).2.2.1 = some .int) (hlen : q < fs.length) (he2 : g_ce g ad (g_ln ln i) (upd (A i) q v) i = .inr (ci, fs.set q (.int v))) (hA : g_up A i q v = A') (hdg : decode cc pc = .ok (.putfield ix, 3)) (kk : gJ p l e R s m args below meth c Q nL D g As N ad ln A' loc k n (pc + 3) st) : gJ p l e R s m args below meth c Q nL D g As N ad ln A loc k n pc (gi v :: gr i :: st) := fun H locs ls hP hD hS hl => va_put C.1 C.2.1 C.2.2.2.2.1 hu ty0 hty hnm C.2.2.2.1 C.2.2.2.2.2.1 hP hD hS i (fs := fs) (v := .int v) (by rw [gw_at hi, he]) hc q hq (C.2.2.2.2.1 _ hw) (fun _ h9 => h9) hfin hd rfl rfl hlen hdg (fun H1 locs1 hP1 hD1 hS1 => by
  rw [← he2, gw_set hi, ← g_up, hA] at hP1 hD1
  exact kk H1 locs1 ls hP1 hD1 hS1 hl)
end GJ
end
section
/-! CONTRACTS of methods that make nothing: the memory A becomes A', the answer is r -/
def g_rm (d : Nat) : Room := { frames := d, cells := 0, slots := 0, locals := 40 * d }
def g_pre (D : va_G) (g : gT) (N : Nat) (ad ln : Nat → Nat) (A : gM) (sz : Nat) (av : List gV) : Array Value → State → Prop :=
  va_Pc (av.map (g_v ad)) (fun U => U.heap.size = sz ∧ va_P D vwCl (gw g ad ln A N) U.heap ∧ va_K D vwCl (g_tys g) U ∧ va_D (fun _ => True) (gw g ad ln A N))
def g_B (D : va_G) (g : gT) (N : Nat) (ad ln : Nat → Nat) (A A' : gM) (sz : Nat) (t : State) : Prop :=
  va_P D vwCl (gw g ad ln A' N) t.heap ∧ va_K D vwCl (g_tys g) t ∧ va_D (va_A (gw g ad ln A N) sz) (gw g ad ln A' N)
def g_Qi (D : va_G) (g : gT) (N : Nat) (ad ln : Nat → Nat) (A : gM) (sz : Nat) (A' : gM) (r : Int32) : Array Value → State → Outcome → State → Prop :=
  va_Qi (S := Unit) (fun x _ => x = r) (fun _ t => g_B D g N ad ln A A' sz t) (va_A (gw g ad ln A N) sz)
def g_Ql (D : va_G) (g : gT) (N : Nat) (ad ln : Nat → Nat) (A : gM) (sz : Nat) (A' : gM) (r : Int64) : Array Value → State → Outcome → State → Prop :=
  va_Ql (S := Unit) (fun x _ => x = r) (fun _ t => g_B D g N ad ln A A' sz t) (va_A (gw g ad ln A N) sz)
def g_Qv (D : va_G) (g : gT) (N : Nat) (ad ln : Nat → Nat) (A : gM) (sz : Nat) (A' : gM) : Array Value → State → Outcome → State → Prop :=
  va_Qv (S := Unit) (fun _ => True) (fun _ t => g_B D g N ad ln A A' sz t) (va_A (gw g ad ln A N) sz)
def g_Qr (D : va_G) (g : gT) (N : Nat) (ad ln : Nat → Nat) (A : gM) (sz : Nat) (A' : gM) (r : Nat) : Array Value → State → Outcome → State → Prop :=
  va_Qr (S := Unit) (fun _ => True) (fun _ a t => a = ad r ∧ g_B D g N ad ln A A' sz t) (va_A (gw g ad ln A N) sz)
/-- the contract of method y at depth d: from memory A with arguments av it answers r and leaves A' -/
def gKi (l : Launch) (y : MethodName) (b : ByteArray) (nl : Nat) (rt : Option FieldType) (d : Nat) (D : va_G) (g : gT) (N : Nat) (ad ln : Nat → Nat) (A : gM) (av : List gV) (A' : gM) (r : Int32) : Prop :=
  ∀ sz, Met l y (g_ws y b nl rt) (g_rm d) (g_pre D g N ad ln A sz av) (g_Qi D g N ad ln A sz A' r) 0 0 (va_A (gw g ad ln A N) sz)
def gKl (l : Launch) (y : MethodName) (b : ByteArray) (nl : Nat) (rt : Option FieldType) (d : Nat) (D : va_G) (g : gT) (N : Nat) (ad ln : Nat → Nat) (A : gM) (av : List gV) (A' : gM) (r : Int64) : Prop :=
  ∀ sz, Met l y (g_ws y b nl rt) (g_rm d) (g_pre D g N ad ln A sz av) (g_Ql D g N ad ln A sz A' r) 0 0 (va_A (gw g ad ln A N) sz)
def gKv (l : Launch) (y : MethodName) (b : ByteArray) (nl : Nat) (rt : Option FieldType) (d : Nat) (D : va_G) (g : gT) (N : Nat) (ad ln : Nat → Nat) (A : gM) (av : List gV) (A' : gM) : Prop :=
  ∀ sz, Met l y (g_ws y b nl rt) (g_rm d) (g_pre D g N ad ln A sz av) (g_Qv D g N ad ln A sz A') 0 0 (va_A (gw g ad ln A N) sz)
def gKr (l : Launch) (y : MethodName) (b : ByteArray) (nl : Nat) (rt : Option FieldType) (d : Nat) (D : va_G) (g : gT) (N : Nat) (ad ln : Nat → Nat) (A : gM) (av : List gV) (A' : gM) (r : Nat) : Prop :=
  ∀ sz, Met l y (g_ws y b nl rt) (g_rm d) (g_pre D g N ad ln A sz av) (g_Qr D g N ad ln A sz A' r) 0 0 (va_A (gw g ad ln A N) sz)
theorem g_blind {D : va_G} {g : gT} {N : Nat} {ad ln : Nat → Nat} {A : gM} {sz : Nat} {av : List gV} : FrameBlind (g_pre D g N ad ln A sz av) := fun a U q mk h => by
  obtain ⟨q0, q1, qP, qK, qD⟩ := h
  exact ⟨q0, q1, qP, va_K.moved (u := U) (U := U.calling q mk a) (Vm.Alike.refl U.vm) qK, qD⟩
section GK
variable {p : Program} {l : Launch} {e : Env} {R : Room} {s : State} {m : MethodId} {args : Array Value} {below : List Frame} {meth : Method} {c : Code} {Q : State → Prop} {nL : Nat} {D : va_G} {g : gT} {As : Nat → Prop} {N : Nat} {ad ln : Nat → Nat} {A A' : gM} {loc loc' : List (Nat × gV)} {k n pc : Nat} {st : List gV} {cc : ByteArray} {own : String} {d : Nat}
theorem g_frees {H : Heap} {locs : List Loc} (hD : va_D As (gw g ad ln A N)) (hS : va_S As s.heap H locs) (hA : ∀ q : Nat, s.heap.size ≤ q → As q) : ∀ q, va_A (gw g ad ln A N) H.size q → As q := by
  intro q h
  rcases h with ⟨k, e, h⟩ | h
  · exact hD.2 k (q, e) h
  · exact hA q (Nat.le_trans hS.1 h)
theorem g_room {d d' mL : Nat} {R : Room} (h1 : d ≤ R.frames ∧ 40 * d ≤ R.locals) (h2 : d' + 1 ≤ d) (h3 : mL ≤ 20) : (g_rm d').frames + 1 ≤ R.frames ∧ 8 + (mL + 11) + (g_rm d').locals ≤ R.locals := by
  show d' + 1 ≤ R.frames ∧ 8 + (mL + 11) + 40 * d' ≤ R.locals
  omega
/-- the words of a call by name: link, receiver's method, code -/
def g_site (own C : String) (ix : Nat) (z : MethodName) (b : ByteArray) (mL : Nat) (rt : Option FieldType) (np : Nat) : Prop :=
  Cond.methodLink own ix z ∈ gtb ∧ Cond.instanceMethod z ∈ gtb ∧ Cond.selects C z z ∈ gtb ∧ Cond.initialized C ∈ gtb ∧ Cond.code z b mL rt ∈ gtb ∧ (z.cls = C ∧ z.cls ≠ "java/lang/invoke/MethodHandle" ∧ z.cls ≠ "java/lang/invoke/VarHandle" ∧ (parseMethodDescriptor z.desc).map (fun d => d.parameters.length) = some np) ∧ mL ≤ 20
/-- of a static call -/
def g_siteS (own : String) (ix : Nat) (z : MethodName) (b : ByteArray) (mL : Nat) (rt : Option FieldType) (np : Nat) : Prop :=
  Cond.methodLink own ix z ∈ gtb ∧ Cond.static z ∈ gtb ∧ Cond.initialized own ∈ gtb ∧ Cond.code z b mL rt ∈ gtb ∧ (z.cls = own ∧ z.cls ≠ "java/lang/invoke/MethodHandle" ∧ z.cls ≠ "java/lang/invoke/VarHandle" ∧ (parseMethodDescriptor z.desc).map (fun d => d.parameters.length) = some np) ∧ mL ≤ 20
theorem g_goodV {own Cn : String} {ix : Nat} {z : MethodName} {b : ByteArray} {mL np : Nat} {rt : Option FieldType} (h : g_site own Cn ix z b mL rt np) : GoodIn gtb (wsV own ix Cn z (g_ws z b mL rt)) := by
  intro w hw
  rcases List.mem_append.mp hw with hw | hw
  · have hm : w ∈ gtb := by
      rcases List.mem_cons.mp hw with rfl | hw
      · exact h.1
      · rcases List.mem_cons.mp hw with rfl | hw
        · exact h.2.1
        · rcases List.mem_cons.mp hw with rfl | hw
          · exact h.2.2.1
          · rcases List.mem_cons.mp hw with rfl | hw
            · exact h.2.2.2.1
            · cases hw
    exact ⟨hm, good_of_word (g_word hm)⟩
  · exact g_inL h.2.2.2.2.1 w hw
theorem g_goodS {own : String} {ix : Nat} {z : MethodName} {b : ByteArray} {mL np : Nat} {rt : Option FieldType} (h : g_siteS own ix z b mL rt np) : GoodIn gtb (wsS own ix z (g_ws z b mL rt)) := by
  intro w hw
  rcases List.mem_append.mp hw with hw | hw
  · have hm : w ∈ gtb := by
      rcases List.mem_cons.mp hw with rfl | hw
      · exact h.1
      · rcases List.mem_cons.mp hw with rfl | hw
        · exact h.2.1
        · rcases List.mem_cons.mp hw with rfl | hw
          · exact h.2.2.1
          · cases hw
    exact ⟨hm, good_of_word (g_word hm)⟩
  · exact g_inL h.2.2.2.1 w hw
theorem g_lv {ad : Nat → Nat} {st : List gV} (h : (st.map g_cat).sum ≤ 8) : 2 * 0 + ((st.map (g_v ad)).map fun v => v.category).sum ≤ 8 := by
  have : (st.map (g_v ad)).map (fun v => v.category) = st.map g_cat := by
    rw [List.map_map]
    exact List.map_congr_left fun v _ => g_cat_v
  rw [this]; omega
theorem g_calliV (C : gC p R s m args meth c cc own nL D g As d) (i : Nat) (as : List gV) {st0 : List gV} {Cn : String} {ci ix np mL d' : Nat} {z : MethodName} {b : ByteArray} {rt : Option FieldType} {fs : List Value} {T : u_T} {Nn : Nat} {r : Int32} (hM : gKi l z b mL rt d' D g N ad ln A (gr i :: as) A' r) (hs : g_site own Cn ix z b mL rt np) (hd : d' + 1 ≤ d) (hi : i < N) (he : g_ce g ad (g_ln ln i) (A i) i = .inr (ci, fs)) (hc : vwCl[ci]? = some (Cn, T, Nn)) (hn : as.length = np) (hst : st0 = as.reverse ++ gr i :: st) (hcat : (st.map g_cat).sum ≤ 8) (hkn : k ≤ R.cells ∧ n ≤ R.slots) (hdg : decode cc pc = .ok (.invokevirtual ix, 3)) (kk : gJ p l e R s m args below meth c Q nL D g As N ad ln A' loc k n (pc + 3) (gi r :: st)) : gJ p l e R s m args below meth c Q nL D g As N ad ln A loc k n pc st0 := by
  intro H locs ls hP hD hS hl
  have hF := g_frees hD hS C.2.2.2.2.2.2.1
  refine va_calli (va_runV (C := Cn) (b := ad i) (As := as.map (g_v ad)) (rest := st.map (g_v ad)) ⟨C.1, C.2.1, C.2.2.1, C.2.2.2.1, C.2.2.2.2.1⟩ (hM H.size) (cwV np C.2.2.2.2.1 (g_goodV hs) rfl rfl rfl hs.2.2.2.2.2.1 (g_room C.2.2.2.2.2.2.2.2 hd hs.2.2.2.2.2.2)) ⟨g_blind, va_recv C.2.2.2.2.2.1 hP (q0 := i) hc (by rw [gw_at hi, he]), fun U hU hW => ⟨rfl, by rw [hU], by rw [hU]; exact hP, va_K.moved hW.alike C.2.2.2.2.2.1, hD.weaken (fun _ _ _ _ => trivial)⟩⟩ rfl (by rw [List.length_map]; exact hn) hl.1 (by show st0.map (g_v ad) = _; rw [hst]; simp [g_v]) (g_lv hcat) hdg ⟨by omega, by omega⟩) hS (fun q _ h => hF q h) hF (fun r u t H1 locs1 ht hvm hw hB hz1 hk1 hS => ?_)
  subst hw
  obtain ⟨hP1, hK1, hD1⟩ := hB
  rw [ht] at hP1
  exact kk H1 locs1 ls hP1 (hD1.weaken (fun _ _ _ h => hF _ h)) hS hl
theorem g_calliS (C : gC p R s m args meth c cc own nL D g As d) (as : List gV) {st0 : List gV} {ix np mL d' : Nat} {z : MethodName} {b : ByteArray} {rt : Option FieldType} {r : Int32} (hM : gKi l z b mL rt d' D g N ad ln A as A' r) (hs : g_siteS own ix z b mL rt np) (hd : d' + 1 ≤ d) (hn : as.length = np) (hst : st0 = as.reverse ++ st) (hcat : (st.map g_cat).sum ≤ 8) (hkn : k ≤ R.cells ∧ n ≤ R.slots) (hdg : decode cc pc = .ok (.invokestatic ix, 3)) (kk : gJ p l e R s m args below meth c Q nL D g As N ad ln A' loc k n (pc + 3) (gi r :: st)) : gJ p l e R s m args below meth c Q nL D g As N ad ln A loc k n pc st0 := by
  intro H locs ls hP hD hS hl
  have hF := g_frees hD hS C.2.2.2.2.2.2.1
  refine va_calli (va_runS (As := as.map (g_v ad)) (rest := st.map (g_v ad)) ⟨C.1, C.2.1, C.2.2.1, C.2.2.2.1, C.2.2.2.2.1⟩ (hM H.size) (cwS np C.2.2.2.2.1 (g_goodS hs) rfl rfl rfl hs.2.2.2.2.1 (g_room C.2.2.2.2.2.2.2.2 hd hs.2.2.2.2.2)) ⟨g_blind, fun U hU hW => ⟨rfl, by rw [hU], by rw [hU]; exact hP, va_K.moved hW.alike C.2.2.2.2.2.1, hD.weaken (fun _ _ _ _ => trivial)⟩⟩ rfl (by rw [List.length_map]; exact hn) hl.1 (by show st0.map (g_v ad) = _; rw [hst]; simp [g_v]) (g_lv hcat) hdg ⟨by omega, by omega⟩) hS (fun q _ h => hF q h) hF (fun r u t H1 locs1 ht hvm hw hB hz1 hk1 hS => ?_)
  subst hw
  obtain ⟨hP1, hK1, hD1⟩ := hB
  rw [ht] at hP1
  exact kk H1 locs1 ls hP1 (hD1.weaken (fun _ _ _ h => hF _ h)) hS hl
theorem g_calllV (C : gC p R s m args meth c cc own nL D g As d) (i : Nat) (as : List gV) {st0 : List gV} {Cn : String} {ci ix np mL d' : Nat} {z : MethodName} {b : ByteArray} {rt : Option FieldType} {fs : List Value} {T : u_T} {Nn : Nat} {r : Int64} (hM : gKl l z b mL rt d' D g N ad ln A (gr i :: as) A' r) (hs : g_site own Cn ix z b mL rt np) (hd : d' + 1 ≤ d) (hi : i < N) (he : g_ce g ad (g_ln ln i) (A i) i = .inr (ci, fs)) (hc : vwCl[ci]? = some (Cn, T, Nn)) (hn : as.length = np) (hst : st0 = as.reverse ++ gr i :: st) (hcat : (st.map g_cat).sum ≤ 8) (hkn : k ≤ R.cells ∧ n ≤ R.slots) (hdg : decode cc pc = .ok (.invokevirtual ix, 3)) (kk : gJ p l e R s m args below meth c Q nL D g As N ad ln A' loc k n (pc + 3) (gl r :: st)) : gJ p l e R s m args below meth c Q nL D g As N ad ln A loc k n pc st0 := by
  intro H locs ls hP hD hS hl
  have hF := g_frees hD hS C.2.2.2.2.2.2.1
  refine va_calll (va_runV (C := Cn) (b := ad i) (As := as.map (g_v ad)) (rest := st.map (g_v ad)) ⟨C.1, C.2.1, C.2.2.1, C.2.2.2.1, C.2.2.2.2.1⟩ (hM H.size) (cwV np C.2.2.2.2.1 (g_goodV hs) rfl rfl rfl hs.2.2.2.2.2.1 (g_room C.2.2.2.2.2.2.2.2 hd hs.2.2.2.2.2.2)) ⟨g_blind, va_recv C.2.2.2.2.2.1 hP (q0 := i) hc (by rw [gw_at hi, he]), fun U hU hW => ⟨rfl, by rw [hU], by rw [hU]; exact hP, va_K.moved hW.alike C.2.2.2.2.2.1, hD.weaken (fun _ _ _ _ => trivial)⟩⟩ rfl (by rw [List.length_map]; exact hn) hl.1 (by show st0.map (g_v ad) = _; rw [hst]; simp [g_v]) (g_lv hcat) hdg ⟨by omega, by omega⟩) hS (fun q _ h => hF q h) hF (fun r u t H1 locs1 ht hvm hw hB hz1 hk1 hS => ?_)
  subst hw
  obtain ⟨hP1, hK1, hD1⟩ := hB
  rw [ht] at hP1
  exact kk H1 locs1 ls hP1 (hD1.weaken (fun _ _ _ h => hF _ h)) hS hl
theorem g_calllS (C : gC p R s m args meth c cc own nL D g As d) (as : List gV) {st0 : List gV} {ix np mL d' : Nat} {z : MethodName} {b : ByteArray} {rt : Option FieldType} {r : Int64} (hM : gKl l z b mL rt d' D g N ad ln A as A' r) (hs : g_siteS own ix z b mL rt np) (hd : d' + 1 ≤ d) (hn : as.length = np) (hst : st0 = as.reverse ++ st) (hcat : (st.map g_cat).sum ≤ 8) (hkn : k ≤ R.cells ∧ n ≤ R.slots) (hdg : decode cc pc = .ok (.invokestatic ix, 3)) (kk : gJ p l e R s m args below meth c Q nL D g As N ad ln A' loc k n (pc + 3) (gl r :: st)) : gJ p l e R s m args below meth c Q nL D g As N ad ln A loc k n pc st0 := by
  intro H locs ls hP hD hS hl
  have hF := g_frees hD hS C.2.2.2.2.2.2.1
  refine va_calll (va_runS (As := as.map (g_v ad)) (rest := st.map (g_v ad)) ⟨C.1, C.2.1, C.2.2.1, C.2.2.2.1, C.2.2.2.2.1⟩ (hM H.size) (cwS np C.2.2.2.2.1 (g_goodS hs) rfl rfl rfl hs.2.2.2.2.1 (g_room C.2.2.2.2.2.2.2.2 hd hs.2.2.2.2.2)) ⟨g_blind, fun U hU hW => ⟨rfl, by rw [hU], by rw [hU]; exact hP, va_K.moved hW.alike C.2.2.2.2.2.1, hD.weaken (fun _ _ _ _ => trivial)⟩⟩ rfl (by rw [List.length_map]; exact hn) hl.1 (by show st0.map (g_v ad) = _; rw [hst]; simp [g_v]) (g_lv hcat) hdg ⟨by omega, by omega⟩) hS (fun q _ h => hF q h) hF (fun r u t H1 locs1 ht hvm hw hB hz1 hk1 hS => ?_)
  subst hw
  obtain ⟨hP1, hK1, hD1⟩ := hB
  rw [ht] at hP1
  exact kk H1 locs1 ls hP1 (hD1.weaken (fun _ _ _ h => hF _ h)) hS hl
theorem g_callvV (C : gC p R s m args meth c cc own nL D g As d) (i : Nat) (as : List gV) {st0 : List gV} {Cn : String} {ci ix np mL d' : Nat} {z : MethodName} {b : ByteArray} {rt : Option FieldType} {fs : List Value} {T : u_T} {Nn : Nat}  (hM : gKv l z b mL rt d' D g N ad ln A (gr i :: as) A') (hs : g_site own Cn ix z b mL rt np) (hd : d' + 1 ≤ d) (hi : i < N) (he : g_ce g ad (g_ln ln i) (A i) i = .inr (ci, fs)) (hc : vwCl[ci]? = some (Cn, T, Nn)) (hn : as.length = np) (hst : st0 = as.reverse ++ gr i :: st) (hcat : (st.map g_cat).sum ≤ 8) (hkn : k ≤ R.cells ∧ n ≤ R.slots) (hdg : decode cc pc = .ok (.invokevirtual ix, 3)) (kk : gJ p l e R s m args below meth c Q nL D g As N ad ln A' loc k n (pc + 3) (st)) : gJ p l e R s m args below meth c Q nL D g As N ad ln A loc k n pc st0 := by
  intro H locs ls hP hD hS hl
  have hF := g_frees hD hS C.2.2.2.2.2.2.1
  refine va_callv (va_runV (C := Cn) (b := ad i) (As := as.map (g_v ad)) (rest := st.map (g_v ad)) ⟨C.1, C.2.1, C.2.2.1, C.2.2.2.1, C.2.2.2.2.1⟩ (hM H.size) (cwV np C.2.2.2.2.1 (g_goodV hs) rfl rfl rfl hs.2.2.2.2.2.1 (g_room C.2.2.2.2.2.2.2.2 hd hs.2.2.2.2.2.2)) ⟨g_blind, va_recv C.2.2.2.2.2.1 hP (q0 := i) hc (by rw [gw_at hi, he]), fun U hU hW => ⟨rfl, by rw [hU], by rw [hU]; exact hP, va_K.moved hW.alike C.2.2.2.2.2.1, hD.weaken (fun _ _ _ _ => trivial)⟩⟩ rfl (by rw [List.length_map]; exact hn) hl.1 (by show st0.map (g_v ad) = _; rw [hst]; simp [g_v]) (g_lv hcat) hdg ⟨by omega, by omega⟩) hS (fun q _ h => hF q h) hF (fun u t H1 locs1 ht hvm hw hB hz1 hk1 hS => ?_)
  obtain ⟨hP1, hK1, hD1⟩ := hB
  rw [ht] at hP1
  exact kk H1 locs1 ls hP1 (hD1.weaken (fun _ _ _ h => hF _ h)) hS hl
theorem g_callvS (C : gC p R s m args meth c cc own nL D g As d) (as : List gV) {st0 : List gV} {ix np mL d' : Nat} {z : MethodName} {b : ByteArray} {rt : Option FieldType}  (hM : gKv l z b mL rt d' D g N ad ln A as A') (hs : g_siteS own ix z b mL rt np) (hd : d' + 1 ≤ d) (hn : as.length = np) (hst : st0 = as.reverse ++ st) (hcat : (st.map g_cat).sum ≤ 8) (hkn : k ≤ R.cells ∧ n ≤ R.slots) (hdg : decode cc pc = .ok (.invokestatic ix, 3)) (kk : gJ p l e R s m args below meth c Q nL D g As N ad ln A' loc k n (pc + 3) (st)) : gJ p l e R s m args below meth c Q nL D g As N ad ln A loc k n pc st0 := by
  intro H locs ls hP hD hS hl
  have hF := g_frees hD hS C.2.2.2.2.2.2.1
  refine va_callv (va_runS (As := as.map (g_v ad)) (rest := st.map (g_v ad)) ⟨C.1, C.2.1, C.2.2.1, C.2.2.2.1, C.2.2.2.2.1⟩ (hM H.size) (cwS np C.2.2.2.2.1 (g_goodS hs) rfl rfl rfl hs.2.2.2.2.1 (g_room C.2.2.2.2.2.2.2.2 hd hs.2.2.2.2.2)) ⟨g_blind, fun U hU hW => ⟨rfl, by rw [hU], by rw [hU]; exact hP, va_K.moved hW.alike C.2.2.2.2.2.1, hD.weaken (fun _ _ _ _ => trivial)⟩⟩ rfl (by rw [List.length_map]; exact hn) hl.1 (by show st0.map (g_v ad) = _; rw [hst]; simp [g_v]) (g_lv hcat) hdg ⟨by omega, by omega⟩) hS (fun q _ h => hF q h) hF (fun u t H1 locs1 ht hvm hw hB hz1 hk1 hS => ?_)
  obtain ⟨hP1, hK1, hD1⟩ := hB
  rw [ht] at hP1
  exact kk H1 locs1 ls hP1 (hD1.weaken (fun _ _ _ h => hF _ h)) hS hl
theorem g_callrV (C : gC p R s m args meth c cc own nL D g As d) (i : Nat) (as : List gV) {st0 : List gV} {Cn : String} {ci ix np mL d' : Nat} {z : MethodName} {b : ByteArray} {rt : Option FieldType} {fs : List Value} {T : u_T} {Nn : Nat} {r : Nat} (hM : gKr l z b mL rt d' D g N ad ln A (gr i :: as) A' r) (hs : g_site own Cn ix z b mL rt np) (hd : d' + 1 ≤ d) (hi : i < N) (he : g_ce g ad (g_ln ln i) (A i) i = .inr (ci, fs)) (hc : vwCl[ci]? = some (Cn, T, Nn)) (hn : as.length = np) (hst : st0 = as.reverse ++ gr i :: st) (hcat : (st.map g_cat).sum ≤ 8) (hkn : k ≤ R.cells ∧ n ≤ R.slots) (hdg : decode cc pc = .ok (.invokevirtual ix, 3)) (kk : gJ p l e R s m args below meth c Q nL D g As N ad ln A' loc k n (pc + 3) (gr r :: st)) : gJ p l e R s m args below meth c Q nL D g As N ad ln A loc k n pc st0 := by
  intro H locs ls hP hD hS hl
  have hF := g_frees hD hS C.2.2.2.2.2.2.1
  refine va_callr (va_runV (C := Cn) (b := ad i) (As := as.map (g_v ad)) (rest := st.map (g_v ad)) ⟨C.1, C.2.1, C.2.2.1, C.2.2.2.1, C.2.2.2.2.1⟩ (hM H.size) (cwV np C.2.2.2.2.1 (g_goodV hs) rfl rfl rfl hs.2.2.2.2.2.1 (g_room C.2.2.2.2.2.2.2.2 hd hs.2.2.2.2.2.2)) ⟨g_blind, va_recv C.2.2.2.2.2.1 hP (q0 := i) hc (by rw [gw_at hi, he]), fun U hU hW => ⟨rfl, by rw [hU], by rw [hU]; exact hP, va_K.moved hW.alike C.2.2.2.2.2.1, hD.weaken (fun _ _ _ _ => trivial)⟩⟩ rfl (by rw [List.length_map]; exact hn) hl.1 (by show st0.map (g_v ad) = _; rw [hst]; simp [g_v]) (g_lv hcat) hdg ⟨by omega, by omega⟩) hS (fun q _ h => hF q h) hF (fun u ra t H1 locs1 ht hvm hw hB hz1 hk1 hS => ?_)
  obtain ⟨rfl, hP1, hK1, hD1⟩ := hB
  rw [ht] at hP1
  exact kk H1 locs1 ls hP1 (hD1.weaken (fun _ _ _ h => hF _ h)) hS hl
theorem g_callrS (C : gC p R s m args meth c cc own nL D g As d) (as : List gV) {st0 : List gV} {ix np mL d' : Nat} {z : MethodName} {b : ByteArray} {rt : Option FieldType} {r : Nat} (hM : gKr l z b mL rt d' D g N ad ln A as A' r) (hs : g_siteS own ix z b mL rt np) (hd : d' + 1 ≤ d) (hn : as.length = np) (hst : st0 = as.reverse ++ st) (hcat : (st.map g_cat).sum ≤ 8) (hkn : k ≤ R.cells ∧ n ≤ R.slots) (hdg : decode cc pc = .ok (.invokestatic ix, 3)) (kk : gJ p l e R s m args below meth c Q nL D g As N ad ln A' loc k n (pc + 3) (gr r :: st)) : gJ p l e R s m args below meth c Q nL D g As N ad ln A loc k n pc st0 := by
  intro H locs ls hP hD hS hl
  have hF := g_frees hD hS C.2.2.2.2.2.2.1
  refine va_callr (va_runS (As := as.map (g_v ad)) (rest := st.map (g_v ad)) ⟨C.1, C.2.1, C.2.2.1, C.2.2.2.1, C.2.2.2.2.1⟩ (hM H.size) (cwS np C.2.2.2.2.1 (g_goodS hs) rfl rfl rfl hs.2.2.2.2.1 (g_room C.2.2.2.2.2.2.2.2 hd hs.2.2.2.2.2)) ⟨g_blind, fun U hU hW => ⟨rfl, by rw [hU], by rw [hU]; exact hP, va_K.moved hW.alike C.2.2.2.2.2.1, hD.weaken (fun _ _ _ _ => trivial)⟩⟩ rfl (by rw [List.length_map]; exact hn) hl.1 (by show st0.map (g_v ad) = _; rw [hst]; simp [g_v]) (g_lv hcat) hdg ⟨by omega, by omega⟩) hS (fun q _ h => hF q h) hF (fun u ra t H1 locs1 ht hvm hw hB hz1 hk1 hS => ?_)
  obtain ⟨rfl, hP1, hK1, hD1⟩ := hB
  rw [ht] at hP1
  exact kk H1 locs1 ls hP1 (hD1.weaken (fun _ _ _ h => hF _ h)) hS hl
end GK
end
section
/-! A METHOD'S ENTRY AND ITS ENDS -/
def g_args : Nat → List gV → List (Nat × gV)
  | _, [] => []
  | i, v :: vs => (i, v) :: g_args (if g_cat v = 2 then i + 2 else i + 1) vs
theorem g_args_map {ad : Nat → Nat} : ∀ (av : List gV) (i : Nat), lv_args i (av.map (g_v ad)) = (g_args i av).map (g_q ad)
  | [], _ => rfl
  | v :: vs, i => by
    show (i, g_v ad v) :: lv_args (if (g_v ad v).category = 2 then i + 2 else i + 1) (vs.map (g_v ad)) = _
    rw [g_cat_v, g_args_map vs]
    rfl
theorem g_sl_len {ad : Nat → Nat} : ∀ (av : List gV), (lg_sl (av.map (g_v ad))).length = (av.map g_cat).foldr (fun c n => (if c = 2 then 2 else 1) + n) 0
  | [] => rfl
  | v :: vs => by
    show (((if (g_v ad v).category = 2 then [Slot.val (g_v ad v), .second] else [.val (g_v ad v)]) : List Slot) ++ lg_sl (vs.map (g_v ad))).length = (if g_cat v = 2 then 2 else 1) + (vs.map g_cat).foldr (fun c n => (if c = 2 then 2 else 1) + n) 0
    rw [List.length_append, g_sl_len vs, g_cat_v]
    split <;> rfl
section GE
variable {p : Program} {l : Launch} {e : Env} {R : Room} {s : State} {m : MethodId} {args : Array Value} {below : List Frame} {meth : Method} {c : Code} {Q : State → Prop} {nL : Nat} {D : va_G} {g : gT} {As : Nat → Prop} {N : Nat} {ad ln : Nat → Nat} {A A' : gM} {loc loc' : List (Nat × gV)} {k n pc : Nat} {st : List gV} {cc : ByteArray} {own : String} {d : Nat}
/-- where a method that answers must come -/
def gEi (below : List Frame) (D : va_G) (g : gT) (N : Nat) (ad ln : Nat → Nat) (A A' : gM) (r : Int32) (args : Array Value) (s : State) : State → Prop := MQ below (g_Qi D g N ad ln A s.heap.size A' r) args s 0 0 (va_A (gw g ad ln A N) s.heap.size)
theorem g_meti {y : MethodName} {b : ByteArray} {nl : Nat} {rt : Option FieldType} {av : List gV} {r : Int32} (hpl : plainName y.cls = true) (hlen : (av.map g_cat).foldr (fun c n => (if c = 2 then 2 else 1) + n) 0 ≤ nl)
    (body : ∀ (p : Program) (e : Env) (s : State) (m : MethodId) (args : Array Value) (below : List Frame) (meth : Method) (c : Code), gC p (g_rm d) s m args meth c b y.cls nl D g (va_A (gw g ad ln A N) s.heap.size) d → meth.sig.returnType = rt → gJ p l e (g_rm d) s m args below meth c (gEi below D g N ad ln A A' r args s) nl D g (va_A (gw g ad ln A N) s.heap.size) N ad ln A (g_args 0 av) 0 0 0 []) : gKi l y b nl rt d D g N ad ln A av A' r := by
  intro sz
  refine Met.ofW (cc := b) (maxL := nl) (ret := rt) hpl rfl ?_
  intro p e s m args below meth c s₁ B hml hv
  obtain ⟨rfl, hsz, hP, hK, hD0⟩ := hv
  subst hsz
  have hts := atoms_spec (ws := g_ws y b nl rt) B.pre
  have hown : s.vm.findClass y.cls = some m.cls := findClass_of_methodNamed B.named
  have hl := lv_entry (av.map (g_v ad)) (n := nl) (by rw [g_sl_len]; exact hlen)
  rw [lg_entry_eq]
  rw [g_args_map] at hl
  exact body p e s m _ below meth c ⟨B.exec, B.bytes, hml, hown, fun w hw => hts w (List.mem_cons_of_mem _ hw), hK, fun q h => Or.inr h, B.notSynchronized, Nat.le_refl _, Nat.le_refl _⟩ B.returns s.heap [] _ hP hD0.self va_S.rf hl
/-- where a method that answers must come -/
def gEl (below : List Frame) (D : va_G) (g : gT) (N : Nat) (ad ln : Nat → Nat) (A A' : gM) (r : Int64) (args : Array Value) (s : State) : State → Prop := MQ below (g_Ql D g N ad ln A s.heap.size A' r) args s 0 0 (va_A (gw g ad ln A N) s.heap.size)
theorem g_metl {y : MethodName} {b : ByteArray} {nl : Nat} {rt : Option FieldType} {av : List gV} {r : Int64} (hpl : plainName y.cls = true) (hlen : (av.map g_cat).foldr (fun c n => (if c = 2 then 2 else 1) + n) 0 ≤ nl)
    (body : ∀ (p : Program) (e : Env) (s : State) (m : MethodId) (args : Array Value) (below : List Frame) (meth : Method) (c : Code), gC p (g_rm d) s m args meth c b y.cls nl D g (va_A (gw g ad ln A N) s.heap.size) d → meth.sig.returnType = rt → gJ p l e (g_rm d) s m args below meth c (gEl below D g N ad ln A A' r args s) nl D g (va_A (gw g ad ln A N) s.heap.size) N ad ln A (g_args 0 av) 0 0 0 []) : gKl l y b nl rt d D g N ad ln A av A' r := by
  intro sz
  refine Met.ofW (cc := b) (maxL := nl) (ret := rt) hpl rfl ?_
  intro p e s m args below meth c s₁ B hml hv
  obtain ⟨rfl, hsz, hP, hK, hD0⟩ := hv
  subst hsz
  have hts := atoms_spec (ws := g_ws y b nl rt) B.pre
  have hown : s.vm.findClass y.cls = some m.cls := findClass_of_methodNamed B.named
  have hl := lv_entry (av.map (g_v ad)) (n := nl) (by rw [g_sl_len]; exact hlen)
  rw [lg_entry_eq]
  rw [g_args_map] at hl
  exact body p e s m _ below meth c ⟨B.exec, B.bytes, hml, hown, fun w hw => hts w (List.mem_cons_of_mem _ hw), hK, fun q h => Or.inr h, B.notSynchronized, Nat.le_refl _, Nat.le_refl _⟩ B.returns s.heap [] _ hP hD0.self va_S.rf hl
/-- where a method that answers must come -/
def gEv (below : List Frame) (D : va_G) (g : gT) (N : Nat) (ad ln : Nat → Nat) (A A' : gM)  (args : Array Value) (s : State) : State → Prop := MQ below (g_Qv D g N ad ln A s.heap.size A') args s 0 0 (va_A (gw g ad ln A N) s.heap.size)
theorem g_metv {y : MethodName} {b : ByteArray} {nl : Nat} {rt : Option FieldType} {av : List gV}  (hpl : plainName y.cls = true) (hlen : (av.map g_cat).foldr (fun c n => (if c = 2 then 2 else 1) + n) 0 ≤ nl)
    (body : ∀ (p : Program) (e : Env) (s : State) (m : MethodId) (args : Array Value) (below : List Frame) (meth : Method) (c : Code), gC p (g_rm d) s m args meth c b y.cls nl D g (va_A (gw g ad ln A N) s.heap.size) d → meth.sig.returnType = rt → gJ p l e (g_rm d) s m args below meth c (gEv below D g N ad ln A A' args s) nl D g (va_A (gw g ad ln A N) s.heap.size) N ad ln A (g_args 0 av) 0 0 0 []) : gKv l y b nl rt d D g N ad ln A av A' := by
  intro sz
  refine Met.ofW (cc := b) (maxL := nl) (ret := rt) hpl rfl ?_
  intro p e s m args below meth c s₁ B hml hv
  obtain ⟨rfl, hsz, hP, hK, hD0⟩ := hv
  subst hsz
  have hts := atoms_spec (ws := g_ws y b nl rt) B.pre
  have hown : s.vm.findClass y.cls = some m.cls := findClass_of_methodNamed B.named
  have hl := lv_entry (av.map (g_v ad)) (n := nl) (by rw [g_sl_len]; exact hlen)
  rw [lg_entry_eq]
  rw [g_args_map] at hl
  exact body p e s m _ below meth c ⟨B.exec, B.bytes, hml, hown, fun w hw => hts w (List.mem_cons_of_mem _ hw), hK, fun q h => Or.inr h, B.notSynchronized, Nat.le_refl _, Nat.le_refl _⟩ B.returns s.heap [] _ hP hD0.self va_S.rf hl
/-- where a method that answers must come -/
def gEr (below : List Frame) (D : va_G) (g : gT) (N : Nat) (ad ln : Nat → Nat) (A A' : gM) (r : Nat) (args : Array Value) (s : State) : State → Prop := MQ below (g_Qr D g N ad ln A s.heap.size A' r) args s 0 0 (va_A (gw g ad ln A N) s.heap.size)
theorem g_metr {y : MethodName} {b : ByteArray} {nl : Nat} {rt : Option FieldType} {av : List gV} {r : Nat} (hpl : plainName y.cls = true) (hlen : (av.map g_cat).foldr (fun c n => (if c = 2 then 2 else 1) + n) 0 ≤ nl)
    (body : ∀ (p : Program) (e : Env) (s : State) (m : MethodId) (args : Array Value) (below : List Frame) (meth : Method) (c : Code), gC p (g_rm d) s m args meth c b y.cls nl D g (va_A (gw g ad ln A N) s.heap.size) d → meth.sig.returnType = rt → gJ p l e (g_rm d) s m args below meth c (gEr below D g N ad ln A A' r args s) nl D g (va_A (gw g ad ln A N) s.heap.size) N ad ln A (g_args 0 av) 0 0 0 []) : gKr l y b nl rt d D g N ad ln A av A' r := by
  intro sz
  refine Met.ofW (cc := b) (maxL := nl) (ret := rt) hpl rfl ?_
  intro p e s m args below meth c s₁ B hml hv
  obtain ⟨rfl, hsz, hP, hK, hD0⟩ := hv
  subst hsz
  have hts := atoms_spec (ws := g_ws y b nl rt) B.pre
  have hown : s.vm.findClass y.cls = some m.cls := findClass_of_methodNamed B.named
  have hl := lv_entry (av.map (g_v ad)) (n := nl) (by rw [g_sl_len]; exact hlen)
  rw [lg_entry_eq]
  rw [g_args_map] at hl
  exact body p e s m _ below meth c ⟨B.exec, B.bytes, hml, hown, fun w hw => hts w (List.mem_cons_of_mem _ hw), hK, fun q h => Or.inr h, B.notSynchronized, Nat.le_refl _, Nat.le_refl _⟩ B.returns s.heap [] _ hP hD0.self va_S.rf hl
theorem g_reti (C : gC p R s m args meth c cc own nL D g (va_A (gw g ad ln A N) s.heap.size) d) {r : Int32} (hr : meth.sig.returnType = some .int) (hdg : decode cc pc = .ok (.ireturn, 1)) : gJ p l e R s m args below meth c (gEi below D g N ad ln A A' r args s) nL D g (va_A (gw g ad ln A N) s.heap.size) N ad ln A' loc 0 0 pc [gi r] := fun H locs ls hP hD hS hl => W.iret (v := r) C.1 C.2.1 hr (fun t ht hW => ⟨⟨r, (), rfl, rfl, by rw [ht]; exact hP, va_K.moved hW.alike C.2.2.2.2.2.1, hD⟩, hS.F ht⟩) hS.2.2 hdg C.2.2.2.2.2.2.2.1
theorem g_retl (C : gC p R s m args meth c cc own nL D g (va_A (gw g ad ln A N) s.heap.size) d) {r : Int64} (hr : meth.sig.returnType = some .long) (hdg : decode cc pc = .ok (.lreturn, 1)) : gJ p l e R s m args below meth c (gEl below D g N ad ln A A' r args s) nL D g (va_A (gw g ad ln A N) s.heap.size) N ad ln A' loc 0 0 pc [gl r] := fun H locs ls hP hD hS hl => W.lret (v := r) C.1 C.2.1 hr (fun t ht hW => ⟨⟨r, (), rfl, rfl, by rw [ht]; exact hP, va_K.moved hW.alike C.2.2.2.2.2.1, hD⟩, hS.F ht⟩) hS.2.2 hdg C.2.2.2.2.2.2.2.1
theorem g_retv (C : gC p R s m args meth c cc own nL D g (va_A (gw g ad ln A N) s.heap.size) d)  (hr : meth.sig.returnType = none) (hdg : decode cc pc = .ok (.return_, 1)) : gJ p l e R s m args below meth c (gEv below D g N ad ln A A' args s) nL D g (va_A (gw g ad ln A N) s.heap.size) N ad ln A' loc 0 0 pc [] := fun H locs ls hP hD hS hl => W.vret C.1 C.2.1 hr (fun t ht hW => ⟨⟨(), rfl, trivial, by rw [ht]; exact hP, va_K.moved hW.alike C.2.2.2.2.2.1, hD⟩, hS.F ht⟩) hS.2.2 hdg C.2.2.2.2.2.2.2.1
theorem g_retz (C : gC p R s m args meth c cc own nL D g (va_A (gw g ad ln A N) s.heap.size) d) {r : Int32} (hr : meth.sig.returnType = some .boolean) (hz : r = 0 ∨ r = 1) (hdg : decode cc pc = .ok (.ireturn, 1)) : gJ p l e R s m args below meth c (gEi below D g N ad ln A A' r args s) nL D g (va_A (gw g ad ln A N) s.heap.size) N ad ln A' loc 0 0 pc [gi r] := fun H locs ls hP hD hS hl => W.zret (v := r) C.1 C.2.1 hr (by rcases hz with rfl | rfl <;> rfl) (fun t ht hW => ⟨⟨r, (), rfl, rfl, by rw [ht]; exact hP, va_K.moved hW.alike C.2.2.2.2.2.1, hD⟩, hS.F ht⟩) hS.2.2 hdg C.2.2.2.2.2.2.2.1
theorem g_retr (C : gC p R s m args meth c cc own nL D g (va_A (gw g ad ln A N) s.heap.size) d) {r : Nat} {rt : FieldType} (hr : meth.sig.returnType = some rt) (hrt : (∃ n, rt = .object n) ∨ ∃ t, rt = .array t) (hdg : decode cc pc = .ok (.areturn, 1)) : gJ p l e R s m args below meth c (gEr below D g N ad ln A A' r args s) nL D g (va_A (gw g ad ln A N) s.heap.size) N ad ln A' loc 0 0 pc [gr r] := fun H locs ls hP hD hS hl => W.aret (v := .ref (ad r)) C.1 C.2.1 hr hrt (Or.inr ⟨_, rfl⟩) (fun t ht hW => ⟨⟨(), ad r, rfl, trivial, rfl, by rw [ht]; exact hP, va_K.moved hW.alike C.2.2.2.2.2.1, hD⟩, hS.F ht⟩) hS.2.2 hdg C.2.2.2.2.2.2.2.1
theorem g_tableIn (C : gC p R s m args meth c cc own nL D g As d) {dflt lo hi : Int} {offs : Array Int} {len : Nat} {x : Int32} {off : Int} {tgt : Nat} (hdg : decode cc pc = .ok (.tableswitch dflt lo hi offs, len)) (h1 : ¬ x.toInt < lo) (h2 : ¬ hi < x.toInt) (ho : offs[(x.toInt - lo).toNat]? = some off) (ht : (pc : Int) + off = (tgt : Int)) (kk : gJ p l e R s m args below meth c Q nL D g As N ad ln A loc k n tgt st) : gJ p l e R s m args below meth c Q nL D g As N ad ln A loc k n pc (gi x :: st) := fun H locs ls hP hD hS hl => lv_tableIn C.1 C.2.1 hdg h1 h2 ho ht (kk H locs ls hP hD hS hl)
theorem g_tableOut (C : gC p R s m args meth c cc own nL D g As d) {dflt lo hi : Int} {offs : Array Int} {len : Nat} {x : Int32} {tgt : Nat} (hdg : decode cc pc = .ok (.tableswitch dflt lo hi offs, len)) (h : x.toInt < lo ∨ hi < x.toInt) (ht : (pc : Int) + dflt = (tgt : Int)) (kk : gJ p l e R s m args below meth c Q nL D g As N ad ln A loc k n tgt st) : gJ p l e R s m args below meth c Q nL D g As N ad ln A loc k n pc (gi x :: st) := fun H locs ls hP hD hS hl => lv_tableOut C.1 C.2.1 hdg h ht (kk H locs ls hP hD hS hl)
end GE
end
section
/-! THE MODELS' OWN WORDS: naming, guards, binds; and how a walk takes them apart -/
/-- the bound of every loop's model -/
def gF : Nat := 1000002
def g_let {α β : Type} (v : α) (f : α → β) : β := f v
theorem g_lt {α β : Type} {v : α} {f : α → Option β} {x : β} (h : g_let v f = some x) : ∃ w, v = w ∧ f w = some x := ⟨v, rfl, h⟩
theorem g_gd {β : Type} {c : Prop} {_ : Decidable c} {a : Option β} {x : β} (h : (if c then a else none) = some x) : c ∧ a = some x := by
  by_cases q : c
  · rw [if_pos q] at h; exact ⟨q, h⟩
  · rw [if_neg q] at h; cases h
theorem g_bd {α β : Type} {o : Option α} {f : α → Option β} {x : β} (h : o.bind f = some x) : ∃ q, o = some q ∧ f q = some x := by
  cases o with
  | none => cases h
  | some q => exact ⟨q, rfl, h⟩
theorem g_tt {β : Type} {c : Prop} {_ : Decidable c} {a b : Option β} {x : β} (q : c) (h : (if c then a else b) = some x) : a = some x := by rw [if_pos q] at h; exact h
theorem g_ff {β : Type} {c : Prop} {_ : Decidable c} {a b : Option β} {x : β} (q : ¬ c) (h : (if c then a else b) = some x) : b = some x := by rw [if_neg q] at h; exact h
theorem g_sw1_8 {x : Int32} (h1 : ¬ x = 1) (h2 : ¬ x = 2) (h3 : ¬ x = 3) (h4 : ¬ x = 4) (h5 : ¬ x = 5) (h6 : ¬ x = 6) (h7 : ¬ x = 7) (h8 : ¬ x = 8) : x.toInt < 1 ∨ 8 < x.toInt := by
  have t : ∀ y : Int32, ¬ x = y → x.toInt ≠ y.toInt := fun y h q => h (Int32.toInt_inj.mp q)
  have := t 1 h1; have := t 2 h2; have := t 3 h3; have := t 4 h4; have := t 5 h5; have := t 6 h6; have := t 7 h7; have := t 8 h8
  simp at *
  omega
theorem g_sw0_7 {x : Int32} (h0 : ¬ x = 0) (h1 : ¬ x = 1) (h2 : ¬ x = 2) (h3 : ¬ x = 3) (h4 : ¬ x = 4) (h5 : ¬ x = 5) (h6 : ¬ x = 6) (h7 : ¬ x = 7) : x.toInt < 0 ∨ 7 < x.toInt := by
  have t : ∀ y : Int32, ¬ x = y → x.toInt ≠ y.toInt := fun y h q => h (Int32.toInt_inj.mp q)
  have := t 0 h0; have := t 1 h1; have := t 2 h2; have := t 3 h3; have := t 4 h4; have := t 5 h5; have := t 6 h6; have := t 7 h7
  simp at *
  omega
theorem g_rowI : ∀ j, j < 40 → g_isI (3 + j) = true ∧ g_isI (45 + j) = true ∧ g_isI (86 + j) = true ∧ g_isI (141 + j) = true ∧ g_len (3 + j) = 7 ∧ g_len (45 + j) = 60 ∧ g_len (86 + j) = 5 ∧ g_len (141 + j) = 60 := by decide +kernel
theorem g_row3 {N : Nat} {ln : Nat → Nat} {x : Int32} (hN : 183 ≤ N) (h : g_in x 40 = true) : 3 + x.toNatClampNeg < N ∧ g_isI (3 + x.toNatClampNeg) = true ∧ g_ln ln (3 + x.toNatClampNeg) = 7 := by
  have h1 := g_in_lt h
  exact ⟨by omega, (g_rowI _ h1).1, by rw [g_ln_c (by omega)]; exact (g_rowI _ h1).2.2.2.2.1⟩
theorem g_row45 {N : Nat} {ln : Nat → Nat} {x : Int32} (hN : 183 ≤ N) (h : g_in x 40 = true) : 45 + x.toNatClampNeg < N ∧ g_isI (45 + x.toNatClampNeg) = true ∧ g_ln ln (45 + x.toNatClampNeg) = 60 := by
  have h1 := g_in_lt h
  exact ⟨by omega, (g_rowI _ h1).2.1, by rw [g_ln_c (by omega)]; exact (g_rowI _ h1).2.2.2.2.2.1⟩
theorem g_row86 {N : Nat} {ln : Nat → Nat} {x : Int32} (hN : 183 ≤ N) (h : g_in x 40 = true) : 86 + x.toNatClampNeg < N ∧ g_isI (86 + x.toNatClampNeg) = true ∧ g_ln ln (86 + x.toNatClampNeg) = 5 := by
  have h1 := g_in_lt h
  exact ⟨by omega, (g_rowI _ h1).2.2.1, by rw [g_ln_c (by omega)]; exact (g_rowI _ h1).2.2.2.2.2.2.1⟩
theorem g_row141 {N : Nat} {ln : Nat → Nat} {x : Int32} (hN : 183 ≤ N) (h : g_in x 40 = true) : 141 + x.toNatClampNeg < N ∧ g_isI (141 + x.toNatClampNeg) = true ∧ g_ln ln (141 + x.toNatClampNeg) = 60 := by
  have h1 := g_in_lt h
  exact ⟨by omega, (g_rowI _ h1).2.2.2.1, by rw [g_ln_c (by omega)]; exact (g_rowI _ h1).2.2.2.2.2.2.2⟩
/-- the words of Math.min, Math.max -/
def g_siteM (own : String) (ix : Nat) (z : MethodName) (b : ByteArray) : Prop := Cond.methodLink own ix z ∈ gtb ∧ Cond.static z ∈ gtb ∧ Cond.initialized "java/lang/Math" ∈ gtb ∧ Cond.code z b 2 (some .int) ∈ gtb
section GM
variable {p : Program} {l : Launch} {e : Env} {R : Room} {s : State} {m : MethodId} {args : Array Value} {below : List Frame} {meth : Method} {c : Code} {Q : State → Prop} {nL : Nat} {D : va_G} {g : gT} {As : Nat → Prop} {N : Nat} {ad ln : Nat → Nat} {A A' : gM} {loc loc' : List (Nat × gV)} {k n pc : Nat} {st : List gV} {cc : ByteArray} {own : String} {d : Nat}
theorem g_topi {x y : Int32} (h : x = y) (kk : gJ p l e R s m args below meth c Q nL D g As N ad ln A loc k n pc (gi y :: st)) : gJ p l e R s m args below meth c Q nL D g As N ad ln A loc k n pc (gi x :: st) := h ▸ kk
theorem g_topl {x y : Int64} (h : x = y) (kk : gJ p l e R s m args below meth c Q nL D g As N ad ln A loc k n pc (gl y :: st)) : gJ p l e R s m args below meth c Q nL D g As N ad ln A loc k n pc (gl x :: st) := h ▸ kk
theorem g_topd {x y : UInt64} (h : x = y) (kk : gJ p l e R s m args below meth c Q nL D g As N ad ln A loc k n pc (gd y :: st)) : gJ p l e R s m args below meth c Q nL D g As N ad ln A loc k n pc (gd x :: st) := h ▸ kk
theorem g_mmax (C : gC p R s m args meth c cc own nL D g As d) {x y : Int32} {ix : Nat} (hs : g_siteM own ix Lib.Math.max.name Lib.Math.max.code) (hd : 1 ≤ d) (hcat : (st.map g_cat).sum ≤ 8) (hkn : k ≤ R.cells ∧ n ≤ R.slots) (hdg : decode cc pc = .ok (.invokestatic ix, 3)) (kk : gJ p l e R s m args below meth c Q nL D g As N ad ln A loc k n (pc + 3) (gi (if x < y then y else x) :: st)) : gJ p l e R s m args below meth c Q nL D g As N ad ln A loc k n pc (gi y :: gi x :: st) := fun H locs ls hP hD hS hl => va_mmax C.1 C.2.1 (by rw [C.2.2.1]; exact hl.1.symm) C.2.2.2.1 (C.2.2.2.2.1 _ hs.1) (C.2.2.2.2.1 _ hs.2.1) (C.2.2.2.2.1 _ hs.2.2.1) (C.2.2.2.2.1 _ hs.2.2.2) (by have := C.2.2.2.2.2.2.2.2.1; omega) (by have h1 := g_lv (ad := ad) hcat; have := C.2.2.2.2.2.2.2.2.2; omega) hkn.1 hkn.2 hdg (kk H locs ls hP hD hS hl)
theorem g_mmin (C : gC p R s m args meth c cc own nL D g As d) {x y : Int32} {ix : Nat} (hs : g_siteM own ix Lib.Math.min.name Lib.Math.min.code) (hd : 1 ≤ d) (hcat : (st.map g_cat).sum ≤ 8) (hkn : k ≤ R.cells ∧ n ≤ R.slots) (hdg : decode cc pc = .ok (.invokestatic ix, 3)) (kk : gJ p l e R s m args below meth c Q nL D g As N ad ln A loc k n (pc + 3) (gi (if y < x then y else x) :: st)) : gJ p l e R s m args below meth c Q nL D g As N ad ln A loc k n pc (gi y :: gi x :: st) := fun H locs ls hP hD hS hl => va_mmin C.1 C.2.1 (by rw [C.2.2.1]; exact hl.1.symm) C.2.2.2.1 (C.2.2.2.2.1 _ hs.1) (C.2.2.2.2.1 _ hs.2.1) (C.2.2.2.2.1 _ hs.2.2.1) (C.2.2.2.2.1 _ hs.2.2.2) (by have := C.2.2.2.2.2.2.2.2.1; omega) (by have h1 := g_lv (ad := ad) hcat; have := C.2.2.2.2.2.2.2.2.2; omega) hkn.1 hkn.2 hdg (kk H locs ls hP hD hS hl)
end GM
end
section
/-- the array class over rows of ty is there -/
def va_AOA (ty : FieldType) (U : State) : Prop := (Cond.arrayOver (.array ty)).before #[] U = true
theorem va_AOA.use {ty : FieldType} {A : Array Value} {U : State} (h : va_AOA ty U) : (Cond.arrayOver (.array ty)).before A U = true := h
/-! ===== BEGIN new T[n][m]: the outer array a place, the inner ones among the pooled ===== -/
/-- f, but v at every address of l -/
def vr_up {α : Type} (f : Nat → α) (l : List Nat) (v : α) : Nat → α := fun a => if a ∈ l then v else f a
theorem vr_up_in {α : Type} {f : Nat → α} {l : List Nat} {v : α} {a : Nat} (h : a ∈ l) : vr_up f l v a = v := if_pos h
theorem vr_up_ne {α : Type} {f : Nat → α} {l : List Nat} {v : α} {a : Nat} (h : a ∉ l) : vr_up f l v a = f a := if_neg h
theorem vr_rows {L l : List Nat} {f : Nat → va_E} {e : va_E} (h : ∀ a, a ∈ l → a ∉ L) : va_pl L f ++ l.map (fun a => (a, e)) = va_pl (L ++ l) (vr_up f l e) := by
  unfold va_pl
  rw [List.map_append]
  congr 1
  · apply List.map_congr_left
    intro a ha
    rw [vr_up_ne (fun q => h a q ha)]
  · apply List.map_congr_left
    intro a ha
    rw [vr_up_in ha]
theorem vr_lay {X rows : va_W} {x : Nat × va_E} {pl : va_W} {D : va_G} {cl : List vw_C} {H : Heap} (hP : va_P D cl (((X ++ pl) ++ [x]) ++ rows) H) : va_P D cl ((X ++ [x]) ++ (pl ++ rows)) H := by
  rw [List.append_assoc (X ++ pl)] at hP
  have h := va_P.swap hP
  rw [← List.append_assoc X] at h
  have h2 := va_P.swap h
  rw [List.append_assoc (X ++ [x])] at h2
  exact h2
theorem vr_layD {X rows : va_W} {x : Nat × va_E} {pl : va_W} {A : Nat → Prop} (hD : va_D A (((X ++ pl) ++ [x]) ++ rows)) : va_D A ((X ++ [x]) ++ (pl ++ rows)) := by
  rw [List.append_assoc (X ++ pl)] at hD
  have h := va_D.swap hD
  rw [← List.append_assoc X] at h
  have h2 := va_D.swap h
  rw [List.append_assoc (X ++ [x])] at h2
  exact h2
theorem vr_outer (c : ClassId) (N h0 : Nat) : ∀ i : Nat, Jvm.Free.Multi.outerC c N h0 i = arrV c N (fun j => va_rf (if j < i then some (h0 + 1 + j) else none))
  | 0 => by
    show ({ cls := c, slots := Array.replicate N .null, vm := .none } : Cell) = _
    rw [arrV_new]
    refine congrArg (arrV c N) (funext fun j => ?_)
    simp [va_rf]
  | i + 1 => by
    show (Jvm.Free.Multi.outerC c N h0 i).setSlot i (.ref (h0 + 1 + i)) = _
    rw [vr_outer c N h0 i, arrV_store]
    refine congrArg (arrV c N) (funext fun j => ?_)
    by_cases e : j = i
    · subst e
      simp [updV, va_rf]
    · by_cases h : j < i
      · simp [updV, e, h, Nat.lt_succ_of_lt h]
      · simp [updV, e, h, show ¬ j < i + 1 by omega]
section VGM
variable {p : Program} {l : Launch} {e : Env} {R : Room} {s : State} {m : MethodId} {args : Array Value} {below : List Frame} {meth : Method} {c : Code} {H : Heap} {locs : List Loc} {cells slots : Nat} {Q : State → Prop}
variable {cc : ByteArray} {pc : Nat} {ls : Array Slot} {rest : List Value} {D : va_G} {cl : List vw_C} {A : Nat → Prop} {a : Nat} {tys : List (ClassId × FieldType)} {ws : va_W} {H0 : Heap}
theorem va_mna {X : va_W} {L : List Nat} {f : Nat → va_E} {cc : ByteArray} (hexec : p.tables.exec = Jvm.exec) (hb : c.code = cc) {own : String} {index : Nat} {ty : FieldType} {cy : ClassId} (hown : s.vm.findClass own = some m.cls) (hclink : (Cond.classLink own index ("[" ++ (FieldType.array ty).toString)).before args s = true) (hover : va_AOA ty s) (harr : (Cond.arrayClass ty).before args s = true) (hcy : s.vm.findClass (FieldType.array ty).toString = some cy)
    (hK : va_K D cl tys s) (hP : va_P D cl (X ++ va_pl L f) H) (hD : va_D A (X ++ va_pl L f)) (hS : va_S A H0 H locs) (hA : ∀ q, H0.size ≤ q → A q) {n k : Int32} {N' K' : Nat} {z : vp_A} (hn : ¬ n < 0) (hk : ¬ k < 0) (hN : n.toNatClampNeg = N') (hM : k.toNatClampNeg = K')
    (hb1 : N' * 4 ≤ 536870912) (hb2 : K' * componentBytes ty ≤ 536870912) (hb3 : K' ≤ 536870912) (hdf : fits ty (defaultValue ty) = true) (hdd : (defaultValue ty).isDefault = true) (hcells : cells + (1 + N') ≤ R.cells) (hslots : slots + (N' + N' * K') ≤ R.slots) (hz : ∀ c : ClassId, Jvm.Free.Multi.innerC c K' (defaultValue ty) = vp_cell c z) (hdg : decode cc pc = .ok (.multianewarray index 2, 4))
    (kk : ∀ (q : Nat) (r : Nat → Nat) (cA : ClassId) (H1 : Heap), (∀ i j : Nat, i < N' → j < N' → r i = r j → i = j) → (∀ i : Nat, i < N' → r i ∉ L) → va_K D cl (tys ++ [(cA, .array ty)]) s →
      va_P D cl ((X ++ [(q, .inl (cA, N', .inr (.inr (.inr (.inr (fun i => if i < N' then some (r i) else none))))))]) ++ va_pl (L ++ (List.range N').map r) (vr_up f ((List.range N').map r) (.inl (cy, z)))) H1 → va_D A ((X ++ [(q, .inl (cA, N', .inr (.inr (.inr (.inr (fun i => if i < N' then some (r i) else none))))))]) ++ va_pl (L ++ (List.range N').map r) (vr_up f ((List.range N').map r) (.inl (cy, z)))) → va_S A H0 H1 locs →
      W p l e R s m args below meth c H1 locs (cells + 1 + N') (slots + N' + N' * K') Q (F0 m (pc + 4) ls (.ref q :: rest))) : W p l e R s m args below meth c H locs cells slots Q (F0 m pc ls (.int k :: .int n :: rest)) := by
  subst hN
  subst hM
  intro T hT Xs
  obtain ⟨vm₁, cA, comp, -, fA, fC, hO, -, X', step⟩ := Xs.multianewarray2F hexec hown hclink (va_AOA.use hover) harr (g := F0 m pc ls (.int k :: .int n :: rest)) rfl (by rw [hb]; exact hdg) rfl hn hk hb1 hb2 hb3 hdf hdd hcells hslots
  have ec : some cy = some comp := hcy.symm.trans fC
  cases ec
  generalize hF : Jvm.Free.Multi.fill (T.setVm vm₁) cA cy n.toNatClampNeg k.toNatClampNeg (defaultValue ty) n.toNatClampNeg = F at X' step
  have hTh : (T.setVm vm₁).heap = H := hT
  obtain ⟨f1, f2, -, -⟩ := Jvm.Free.Multi.fill_facts (T.setVm vm₁) cA cy n.toNatClampNeg k.toNatClampNeg (defaultValue ty) n.toNatClampNeg
  rw [hF, hTh] at f1 f2
  have hold : ∀ x : Nat, x < H.size → F.heap[x]? = H[x]? := fun x hx => by
    have := Jvm.Free.Multi.fill_old (T.setVm vm₁) cA cy n.toNatClampNeg k.toNatClampNeg (defaultValue ty) (a := x) (by rw [hTh]; exact hx) n.toNatClampNeg
    rw [hF, hTh] at this
    exact this
  have hrow : ∀ j : Nat, j < n.toNatClampNeg → F.heap[H.size + 1 + j]? = some (vp_cell cy z) := fun j hj => by
    have := Jvm.Free.Multi.fill_inner (T.setVm vm₁) cA cy n.toNatClampNeg k.toNatClampNeg (defaultValue ty) n.toNatClampNeg j hj
    rw [hF, hTh, hz] at this
    exact this
  have hout : Jvm.Free.Multi.outerC cA n.toNatClampNeg H.size n.toNatClampNeg = vp_cell cA (n.toNatClampNeg, .inr (.inr (.inr (.inr (fun i => if i < n.toNatClampNeg then some (H.size + 1 + i) else none))))) := by
    rw [vp_cell_q]
    exact vr_outer cA n.toNatClampNeg H.size n.toNatClampNeg
  rw [hout] at f2
  have hlt : ∀ a, a ∈ L → a < H.size := fun a ha => by
    obtain ⟨k9, hk9⟩ := va_pl_get (X := X) (f := f) ha
    exact (hP k9 _ hk9).lt
  have hnl : ∀ i : Nat, i < n.toNatClampNeg → H.size + 1 + i ∉ L := fun i _ h => by
    have := hlt _ h
    omega
  have hnm : ∀ a, a ∈ (List.range n.toNatClampNeg).map (fun i => H.size + 1 + i) → a ∉ L := fun a ha h => by
    obtain ⟨i, -, rfl⟩ := List.mem_map.mp ha
    have := hlt _ h
    omega
  have hP0 : va_P D cl (X ++ va_pl L f) F.heap := hP.kept (fun k9 x hx => hold x.1 ((hP k9 x hx).lt))
  have hP1 : va_P D cl ((X ++ va_pl L f) ++ [(H.size, .inl (cA, n.toNatClampNeg, .inr (.inr (.inr (.inr (fun i => if i < n.toNatClampNeg then some (H.size + 1 + i) else none))))))]) F.heap := hP0.app (fun k9 x hx => by
    have h0 : k9 < 1 := (List.getElem?_eq_some_iff.mp hx).1
    rw [show k9 = 0 by omega] at hx
    cases hx
    exact f2)
  have hP2 : va_P D cl (((X ++ va_pl L f) ++ [(H.size, .inl (cA, n.toNatClampNeg, .inr (.inr (.inr (.inr (fun i => if i < n.toNatClampNeg then some (H.size + 1 + i) else none))))))]) ++ ((List.range n.toNatClampNeg).map (fun i => H.size + 1 + i)).map (fun a => (a, .inl (cy, z)))) F.heap := hP1.app (fun k9 x hx => by
    obtain ⟨a, ha, rfl⟩ := List.mem_map.mp (List.mem_of_getElem? hx)
    obtain ⟨i, hi, rfl⟩ := List.mem_map.mp ha
    exact hrow i (List.mem_range.mp hi))
  have hD2 : va_D A (((X ++ va_pl L f) ++ [(H.size, .inl (cA, n.toNatClampNeg, .inr (.inr (.inr (.inr (fun i => if i < n.toNatClampNeg then some (H.size + 1 + i) else none))))))]) ++ ((List.range n.toNatClampNeg).map (fun i => H.size + 1 + i)).map (fun a => (a, .inl (cy, z)))) := by
    have hD1 := hD.push (e := .inl (cA, n.toNatClampNeg, .inr (.inr (.inr (.inr (fun i => if i < n.toNatClampNeg then some (H.size + 1 + i) else none)))))) hP rfl (hA _ hS.1)
    generalize hW1 : (X ++ va_pl L f) ++ [(H.size, .inl (cA, n.toNatClampNeg, .inr (.inr (.inr (.inr (fun i => if i < n.toNatClampNeg then some (H.size + 1 + i) else none))))))] = W1 at hD1 hP1 ⊢
    have hle : ∀ (k9 : Nat) (x : Nat × va_E), W1[k9]? = some x → x.1 ≤ H.size := fun k9 x hx => by
      rw [← hW1] at hx
      by_cases hl : k9 < (X ++ va_pl L f).length
      · rw [List.getElem?_append_left hl] at hx
        exact Nat.le_of_lt ((hP k9 x hx).lt)
      · rw [List.getElem?_append_right (by omega)] at hx
        have h0 : k9 - (X ++ va_pl L f).length < 1 := (List.getElem?_eq_some_iff.mp hx).1
        rw [show k9 - (X ++ va_pl L f).length = 0 by omega] at hx
        cases hx
        exact Nat.le_refl _
    have hr : ∀ (k9 : Nat) (x : Nat × va_E), (((List.range n.toNatClampNeg).map (fun i => H.size + 1 + i)).map (fun a => ((a, .inl (cy, z)) : Nat × va_E)))[k9]? = some x → x.1 = H.size + 1 + k9 := fun k9 x hx => by
      rw [List.getElem?_map, List.getElem?_map] at hx
      by_cases h9 : k9 < n.toNatClampNeg
      · rw [List.getElem?_range h9] at hx
        cases hx
        rfl
      · have hn0 : (List.range n.toNatClampNeg)[k9]? = none := List.getElem?_eq_none (by rw [List.length_range]; omega)
        rw [hn0] at hx
        cases hx
    refine ⟨fun i j x y hi hj hxy => ?_, fun k9 x hx => ?_⟩
    · by_cases h1 : i < W1.length <;> by_cases h2 : j < W1.length
      · rw [List.getElem?_append_left h1] at hi
        rw [List.getElem?_append_left h2] at hj
        exact hD1.1 i j x y hi hj hxy
      · rw [List.getElem?_append_left h1] at hi
        rw [List.getElem?_append_right (by omega)] at hj
        have := hle _ _ hi
        have := hr _ _ hj
        omega
      · rw [List.getElem?_append_right (by omega)] at hi
        rw [List.getElem?_append_left h2] at hj
        have := hle _ _ hj
        have := hr _ _ hi
        omega
      · rw [List.getElem?_append_right (by omega)] at hi hj
        have := hr _ _ hi
        have := hr _ _ hj
        omega
    · by_cases h1 : k9 < W1.length
      · rw [List.getElem?_append_left h1] at hx
        exact hD1.2 k9 x hx
      · rw [List.getElem?_append_right (by omega)] at hx
        have := hr _ _ hx
        exact hA _ (by have := hS.1; omega)
  have hAr : ArrOfT s cA (.array ty) := fun N9 z9 => by
    obtain ⟨-, k9, hk9, cm9, hkk9⟩ := (hO 0 0 0).1
    exact ⟨(fun q hq => by cases hq), k9, hk9, cm9, hkk9⟩
  have hK2 : va_K D cl (tys ++ [(cA, .array ty)]) s := ⟨hK.1, fun k9 x hx => by
    by_cases hl : k9 < tys.length
    · rw [List.getElem?_append_left hl] at hx
      exact hK.2 k9 x hx
    · rw [List.getElem?_append_right (by omega)] at hx
      have h0 : k9 - tys.length < 1 := (List.getElem?_eq_some_iff.mp hx).1
      rw [show k9 - tys.length = 0 by omega] at hx
      cases hx
      exact ⟨hAr, fA⟩⟩
  obtain ⟨t, a1, b1⟩ := kk H.size (fun i => H.size + 1 + i) cA F.heap (fun i j _ _ h => by have h9 : H.size + 1 + i = H.size + 1 + j := h; omega) hnl hK2 (by rw [← vr_rows hnm]; exact vr_lay hP2) (by rw [← vr_rows hnm]; exact vr_layD hD2) ⟨by rw [f1]; have := hS.1; omega, fun x h1 h2 => (hold x (Nat.lt_of_lt_of_le h1 hS.1)).trans (hS.2.1 x h1 h2), hS.2.2⟩ F rfl X'
  refine ⟨t, step t ?_, b1⟩
  have e : T.heap.size = H.size := by rw [hT]
  rw [e]
  exact a1
end VGM
/-! ===== END ===== -/

/-! ===== BEGIN exceptions that leave a method, and their catching by the caller (launches without stack traces) ===== -/
section VXA
/-! The laws vx_back, vx_callV, vx_callS, vx_callSW, vx_throw0, vx_throwS follow proofs of the library, with one case more: JvmDerived/Free/Laws.lean (Back.of_free), Shelf42/LK1.lean (callV, callS), Shelf/KitTraced.lean (throwNew0V, throwNewS). -/
/-- where a method has thrown q: the class by its name, the cell, what was written, the world -/
def vx_T (XC : String → State → State → Prop) (st : State) (q : Addr) (t : State) (mc ms : Nat) (free : Addr → Prop) : Prop :=
  ∃ (E : String) (ce : Cell) (L : List Loc), XC E st t ∧ t.heap[q]? = some ce ∧ ce.vm = .none ∧ st.vm.findClass E = some ce.cls ∧ st.WarmedH t.vm ∧ st.sameButNew ({ t with vm := st.vm } : State) L mc ms ∧ ∀ z ∈ L, free z.base
def vx_Q (Qc : Array Value → State → Outcome → State → Prop) (XC : String → State → State → Prop) (mc ms : Nat) (free : Addr → Prop) : Array Value → State → Outcome → State → Prop := fun a st o t =>
  (Qc a st o t ∧ ∃ L, FrameEnd st o t L mc ms ∧ ∀ q ∈ L, free q.base) ∨ ∃ q, o = .threw q ∧ vx_T XC st q t mc ms free
/-- a callee that returns or throws -/
def vx_Met (l : Launch) (y : MethodName) (ws : List Cond) (rm : Room) (Pc : Array Value → State → Prop) (Qc : Array Value → State → Outcome → State → Prop) (XC : String → State → State → Prop) (mc ms : Nat) (free : Addr → Prop) : Prop :=
  MetFree l y (headSpec ws rm) Pc (fun _ _ _ _ _ => True) (vx_Q Qc XC mc ms free)
def vx_Post (XC : String → State → State → Prop) (mc ms : Nat) (free : Addr → Prop) : Pt → Array Value → Addr → Pt → Prop := fun A a q B =>
  ∃ (g : JFrame) (mk : MethodId) (t : State) (L : List Loc) (E : String) (ce : Cell), B.U.heap = t.heap ∧ B.U.vm = t.vm ∧ XC E (A.U.calling g mk a) t ∧ t.heap[q]? = some ce ∧ ce.vm = .none ∧ A.U.vm.findClass E = some ce.cls ∧ B.locs = A.locs ++ L ∧ (∀ z ∈ L, free z.base) ∧ B.cells = A.cells + mc ∧ B.slots = A.slots + ms
def vx_Back (l : Launch) (R : Room) (p : Program) (e : Env) (below : List Frame) (s : State) (sargs : Array Value) (y : MethodName) (len W9 : Nat)
    (Pre : Pt → Array Value → Prop) (Post : Pt → Array Value → Option Value → Pt → Prop) (PostX : Pt → Array Value → Addr → Pt → Prop) : Prop :=
  ∀ (m : MethodId) (meth : Method) (c : Code) (A : Pt) (g : JFrame) (ig : Instr) (mk : MethodId) (a : Array Value),
    Stand p l e R s m sargs below meth c A.U A.locs A.cells A.slots → g.method = m → g.locals.size = c.maxLocals → decode c.code g.pc = .ok (ig, len) →
    2 * g.monitorRoom + (g.stack.map fun v => v.category).sum ≤ W9 → A.U.methodNamed? y = some mk → Pre A a →
    (∃ (v : Option Value) (B : Pt), Stand p l e R s m sargs below meth c B.U B.locs B.cells B.slots ∧ Post A a v B ∧
      Steps p.tables e below (doInvoke e (A.U.setTop g) [] mk a).1 (B.U.setTop { g with pc := g.pc + len, stack := v.toList ++ g.stack })) ∨
    (∃ (q : Addr) (B : Pt), Stand p l e R s m sargs below meth c B.U B.locs B.cells B.slots ∧ PostX A a q B ∧
      Steps p.tables e below (doInvoke e (A.U.setTop g) [] mk a).1 ((B.U.setTop g).pushFrame (.throwing q)))
section Payer
variable {l : Launch} {R : Room} {p : Program} {e : Env} {below : List Frame} {s : State} {sargs : Array Value} {y : MethodName} {len W9 : Nat}
theorem vx_back {ws : List Cond} {rm : Room} {Pc : Array Value → State → Prop} {Qc : Array Value → State → Outcome → State → Prop} {XC : String → State → State → Prop} {mc ms : Nat} {free : Addr → Prop} {bytes : ByteArray} {maxL : Nat} {ret : Option FieldType}
    (hM : vx_Met l y ws rm Pc Qc XC mc ms free) (hblind : FrameBlind Pc) (hrc : rm.cells = mc) (hrs : rm.slots = ms)
    (hframes : rm.frames + 1 ≤ R.frames) (hlocals : W9 + (maxL + 11) + rm.locals ≤ R.locals)
    (hws : ∀ w ∈ ws, ∀ a' U, s.WarmedH U.vm → w.before a' U = true) (hcode : Cond.code y bytes maxL ret ∈ ws) (hinit : ∀ a' U, s.WarmedH U.vm → (Cond.initialized y.cls).before a' U = true) :
    vx_Back l R p e below s sargs y len W9 (PreOf R mc ms Pc) (PostOf Qc mc ms free) (vx_Post XC mc ms free) := by
  intro m meth c A g ig mk a X hg hsize hdg hW hn hp
  have h1 : (headSpec ws rm).pre.before a A.U = true := atoms_intro fun w hw => hws w hw _ _ X.warmed
  have h2 : (Cond.code y bytes maxL ret).before a A.U = true := hws _ hcode _ _ X.warmed
  have h3 : (Cond.initialized y.cls).before a A.U = true := hinit _ _ X.warmed
  have h4 : A.cells + (headSpec ws rm).room.cells ≤ R.cells := by rw [show (headSpec ws rm).room.cells = mc from hrc]; exact hp.1
  have h5 : A.slots + (headSpec ws rm).room.slots ≤ R.slots := by rw [show (headSpec ws rm).room.slots = ms from hrs]; exact hp.2.1
  have hPc : Pc a (A.U.calling g mk a) := hblind _ _ _ _ hp.2.2
  obtain ⟨U, Ls, c0, s0⟩ := A
  dsimp only [Pt.U, Pt.locs, Pt.cells, Pt.slots] at h1 h2 h3 h4 h5 X hn hPc ⊢
  obtain ⟨methY, cY, hmY, hcY, -, hlY, -, -, -, -⟩ := Cond.code_spec hn h2
  obtain ⟨kY, hkY, -⟩ := className_of_methodNamed hn
  have hinitY : kY.init = .initialized := Cond.initialized_spec (findClass_of_methodNamed hn) hkY h3
  have h : At U g.method c below := by rw [hg]; exact X.here
  have hlocals9 : W9 + (maxL + 11) + (headSpec ws rm).room.locals ≤ R.locals := hlocals
  have happ : (headSpec ws rm).appliesLoose y e.platform (U.calling g mk a) = true :=
    Spec.appliesLoose_calling (g := g) h hdg hn hkY hinitY
      (X.room_calling (g := g) (R' := (headSpec ws rm).room) hsize hmY hcY hframes (by rw [hlY]; omega) h4 h5) h1
  obtain ⟨mid, hmid⟩ := h.above
  have hfr : (U.setTop g).frames = (.java g :: mid) ++ below := by rw [State.frames_setTop' g h.top, hmid]; rfl
  obtain ⟨o, s₂, hsteps, -, hend, hq⟩ := Steps.callFree hM p X.admits X.cas X.clock (acts := []) hfr happ hPc trivial
  have hq' : vx_Q Qc XC mc ms free a (U.calling g mk a) o s₂ := hq
  rw [State.frames_setTop' g h.top] at hend
  obtain ⟨g₀, hg0⟩ := Option.isSome_iff_exists.mp h.top
  obtain ⟨r, hr⟩ := State.topJava?_eq_some.mp hg0
  have hr' : (({ U with heap := s₂.heap, slotsUsed := s₂.slotsUsed } : State).setVm s₂.vm).frames = .java g₀ :: r := hr
  rcases hq' with ⟨hqc, L, hfe, hL⟩ | ⟨q, rfl, E, ce, L, hx, hce, hcv, hcl, hW₂, hsm, hL⟩
  · obtain ⟨⟨v, rfl⟩, hW₂, e2, q2, q3, q4, q5, q6⟩ := id hfe
    have e3 : s₂ = ({ (U.calling g mk a).setFrames s₂.frames with heap := s₂.heap, slotsUsed := s₂.slotsUsed } : State).setVm s₂.vm := by
      have : s₂ = ({ s₂ with vm := (U.calling g mk a).vm } : State).setVm s₂.vm := rfl
      rw [e2] at this
      exact this
    obtain ⟨c₂, i₂, len₂, hc₂, hd₂, hf₂⟩ := hend
    have hW' : U.WarmedH s₂.vm := hW₂
    have hcc : c₂ = c := by
      have h1 : s₂.code? g.method = U.code? g.method := by
        rw [State.code?_eq, State.code?_eq, hW'.alike.method?]
      exact Option.some.inj (hc₂.symm.trans (h1.trans h.code))
    subst hcc
    have hlen : len₂ = len := by rw [hdg] at hd₂; cases hd₂; rfl
    subst hlen
    have hs₂ : s₂ = (({ U with heap := s₂.heap, slotsUsed := s₂.slotsUsed } : State).setVm s₂.vm).setTop { g with pc := g.pc + len₂, stack := v.toList ++ g.stack } := by
      refine e3.trans ?_
      rw [hf₂, State.calling_eq h.top, State.setFrames_setFrames, State.setTop_of_frames _ hr', hr]
      rfl
    have hsame : U.sameButNew ({ U with heap := s₂.heap, slotsUsed := s₂.slotsUsed } : State) L mc ms := by
      refine ⟨?_, q2, q3, q4, q5, q6⟩
      obtain ⟨t, ht, -⟩ := State.frames_cons hr
      show ({ U with heap := s₂.heap, slotsUsed := s₂.slotsUsed } : State) = { U.setFrames U.frames with heap := s₂.heap, slotsUsed := s₂.slotsUsed }
      rw [State.setFrames_self ht]
    subst hg
    refine Or.inl ⟨v, ⟨(({ U with heap := s₂.heap, slotsUsed := s₂.slotsUsed } : State).setVm s₂.vm), Ls ++ L, c0 + mc, s0 + ms⟩,
      ⟨X.admits, X.cas, X.clock, X.frames, X.room, X.hears, X.method, X.code, (X.here.setHeapUsed s₂.heap s₂.slotsUsed).setVm hW'.alike, X.tail, State.WarmedH.trans X.warmed hW', X.limits, X.bytes, X.same.trans (hsame.setVm s.vm)⟩,
      ⟨g, mk, s₂, L, rfl, rfl, hqc, rfl, hL, rfl, rfl⟩, ?_⟩
    show Steps p.tables e below _ ((({ U with heap := s₂.heap, slotsUsed := s₂.slotsUsed } : State).setVm s₂.vm).setTop { g with pc := g.pc + len₂, stack := v.toList ++ g.stack })
    rw [← hs₂]
    exact hsteps
  · obtain ⟨e2, q2, q3, q4, q5, q6⟩ := id hsm
    have e3 : s₂ = ({ (U.calling g mk a).setFrames s₂.frames with heap := s₂.heap, slotsUsed := s₂.slotsUsed } : State).setVm s₂.vm := by
      have : s₂ = ({ s₂ with vm := (U.calling g mk a).vm } : State).setVm s₂.vm := rfl
      rw [e2] at this
      exact this
    have hf₂ : s₂.frames = .throwing q :: .java g :: U.frames.tail := hend
    have hW' : U.WarmedH s₂.vm := hW₂
    have hs₂ : s₂ = ((({ U with heap := s₂.heap, slotsUsed := s₂.slotsUsed } : State).setVm s₂.vm).setTop g).pushFrame (.throwing q) := by
      refine e3.trans ?_
      rw [hf₂, State.calling_eq h.top, State.setFrames_setFrames, State.pushFrame, State.frames_setTop _ hr', State.setTop_of_frames _ hr', State.setFrames_setFrames, hr]
      rfl
    have hsame : U.sameButNew ({ U with heap := s₂.heap, slotsUsed := s₂.slotsUsed } : State) L mc ms := by
      refine ⟨?_, q2, q3, q4, q5, q6⟩
      obtain ⟨t, ht, -⟩ := State.frames_cons hr
      show ({ U with heap := s₂.heap, slotsUsed := s₂.slotsUsed } : State) = { U.setFrames U.frames with heap := s₂.heap, slotsUsed := s₂.slotsUsed }
      rw [State.setFrames_self ht]
    subst hg
    refine Or.inr ⟨q, ⟨(({ U with heap := s₂.heap, slotsUsed := s₂.slotsUsed } : State).setVm s₂.vm), Ls ++ L, c0 + mc, s0 + ms⟩,
      ⟨X.admits, X.cas, X.clock, X.frames, X.room, X.hears, X.method, X.code, (X.here.setHeapUsed s₂.heap s₂.slotsUsed).setVm hW'.alike, X.tail, State.WarmedH.trans X.warmed hW', X.limits, X.bytes, X.same.trans (hsame.setVm s.vm)⟩,
      ⟨g, mk, s₂, L, E, ce, rfl, rfl, hx, hce, hcv, hcl, rfl, hL, rfl, rfl⟩, ?_⟩
    show Steps p.tables e below _ (((({ U with heap := s₂.heap, slotsUsed := s₂.slotsUsed } : State).setVm s₂.vm).setTop g).pushFrame (.throwing q))
    rw [← hs₂]
    exact hsteps
end Payer
section Calls
variable {p : Program} {l : Launch} {e : Env} {R : Room} {s : State} {m : MethodId} {args : Array Value} {below : List Frame} {meth : Method} {c : Code} {T : State} {locs : List Loc} {cells slots : Nat}
theorem vx_callV (X : Stand p l e R s m args below meth c T locs cells slots) (hexec : p.tables.exec = Jvm.exec) {own C : String} {index : Nat} {y : MethodName} {bytes : ByteArray} {maxL : Nat} {ret : Option FieldType}
    (hown : s.vm.findClass own = some m.cls) (hlink : (Cond.methodLink own index y).before args s = true) (hinst : (Cond.instanceMethod y).before args s = true) (hsel : (Cond.selects C y y).before args s = true)
    (hcode : (Cond.code y bytes maxL ret).before args s = true) (hy : y.cls ≠ "java/lang/invoke/MethodHandle" ∧ y.cls ≠ "java/lang/invoke/VarHandle")
    {W9 : Nat} {Pre : Pt → Array Value → Prop} {Post : Pt → Array Value → Option Value → Pt → Prop} {PostX : Pt → Array Value → Addr → Pt → Prop} (hK : vx_Back l R p e below s args y 3 W9 Pre Post PostX)
    {b : Addr} {cellB : Cell} (hcell : T.heap[b]? = some cellB) (hobj : cellB.vm.isStatics = false) (hcls : s.vm.findClass C = some cellB.cls)
    {g : JFrame} (hg : g.method = m) (hsize : g.locals.size = c.maxLocals) {argsL rest : List Value} (hlen : ∀ sig, parseMethodDescriptor y.desc = some sig → argsL.length = sig.parameters.length)
    (hstack : g.stack = argsL.reverse ++ .ref b :: rest) (hW : 2 * g.monitorRoom + (rest.map fun v => v.category).sum ≤ W9) (hdg : decode c.code g.pc = .ok (.invokevirtual index, 3))
    (hpre : ∀ vm₁, s.WarmedH vm₁ → Pre ⟨T.setVm vm₁, locs, cells, slots⟩ (Value.ref b :: argsL).toArray) :
    (∃ (v : Option Value) (vm₁ : Vm) (B : Pt), s.WarmedH vm₁ ∧ Stand p l e R s m args below meth c B.U B.locs B.cells B.slots ∧ Post ⟨T.setVm vm₁, locs, cells, slots⟩ (Value.ref b :: argsL).toArray v B ∧
      ∀ target, Steps p.tables e below (B.U.setTop { g with pc := g.pc + 3, stack := v.toList ++ rest }) target → Steps p.tables e below (T.setTop g) target) ∨
    (∃ (q : Addr) (vm₁ : Vm) (B : Pt), s.WarmedH vm₁ ∧ Stand p l e R s m args below meth c B.U B.locs B.cells B.slots ∧ PostX ⟨T.setVm vm₁, locs, cells, slots⟩ (Value.ref b :: argsL).toArray q B ∧
      Steps p.tables e below (T.setTop g) ((B.U.setTop { g with stack := rest }).pushFrame (.throwing q))) := by
  obtain ⟨mk, methM, hnamed, hmethM, hstM, habM⟩ := Cond.instanceMethod_spec hinst
  obtain ⟨methM', cM, hmethM', -, -, -, -, -, -, hsigM⟩ := Cond.code_spec hnamed hcode
  cases hmethM.symm.trans hmethM'
  obtain ⟨c2, r2, m2, q1, q2, q3, q4, kP, hkP, hkPi⟩ := Cond.selects_spec hsel
  cases hcls.symm.trans q1
  cases (State.methodFound?_of_named hnamed hy).symm.trans q2
  cases hnamed.symm.trans q3
  have hselP : selectMethod e.platform s.vm cellB.cls mk = .method mk := by rw [Launch.admits_selectMethod X.admits]; exact q4
  obtain ⟨vm₁, X₁, hstep₁⟩ := X.invokevirtual hexec hown hlink hnamed hmethM hstM hkP hkPi hy (a := b) (cell := cellB) hcell
    (fun z h => by rw [h] at hobj; cases hobj) hselP hmethM habM hkP hkPi (g := g) hg (argsL := argsL) (rest := rest) (hlen _ hsigM) hstack hdg
  rcases hK m meth c ⟨T.setVm vm₁, locs, cells, slots⟩ { g with stack := rest } (.invokevirtual index) mk (Value.ref b :: argsL).toArray X₁ hg hsize hdg hW (X₁.named hnamed) (hpre vm₁ X₁.warmed) with ⟨v, B, X', hpost, hsteps⟩ | ⟨q, B, X', hpost, hsteps⟩
  · exact Or.inl ⟨v, vm₁, B, X₁.warmed, X', hpost, fun target h => hstep₁ _ fun acts => by rw [doInvoke_state]; exact hsteps.trans h⟩
  · exact Or.inr ⟨q, vm₁, B, X₁.warmed, X', hpost, hstep₁ _ fun acts => by rw [doInvoke_state]; exact hsteps⟩
theorem vx_callS (X : Stand p l e R s m args below meth c T locs cells slots) (hexec : p.tables.exec = Jvm.exec) {own : String} {index : Nat} {y : MethodName} {bytes : ByteArray} {maxL : Nat} {ret : Option FieldType}
    (hown : s.vm.findClass own = some m.cls) (hlink : (Cond.methodLink own index y).before args s = true) (hstat : (Cond.static y).before args s = true) (hinit : (Cond.initialized y.cls).before args s = true)
    (hcode : (Cond.code y bytes maxL ret).before args s = true) (hy : y.cls ≠ "java/lang/invoke/MethodHandle" ∧ y.cls ≠ "java/lang/invoke/VarHandle")
    {W9 : Nat} {Pre : Pt → Array Value → Prop} {Post : Pt → Array Value → Option Value → Pt → Prop} {PostX : Pt → Array Value → Addr → Pt → Prop} (hK : vx_Back l R p e below s args y 3 W9 Pre Post PostX)
    {g : JFrame} (hg : g.method = m) (hsize : g.locals.size = c.maxLocals) {argsL rest : List Value} (hlen : ∀ sig, parseMethodDescriptor y.desc = some sig → argsL.length = sig.parameters.length)
    (hstack : g.stack = argsL.reverse ++ rest) (hW : 2 * g.monitorRoom + (rest.map fun v => v.category).sum ≤ W9) (hdg : decode c.code g.pc = .ok (.invokestatic index, 3))
    (hpre : ∀ vm₁, s.WarmedH vm₁ → Pre ⟨T.setVm vm₁, locs, cells, slots⟩ argsL.toArray) :
    (∃ (v : Option Value) (vm₁ : Vm) (B : Pt), s.WarmedH vm₁ ∧ Stand p l e R s m args below meth c B.U B.locs B.cells B.slots ∧ Post ⟨T.setVm vm₁, locs, cells, slots⟩ argsL.toArray v B ∧
      ∀ target, Steps p.tables e below (B.U.setTop { g with pc := g.pc + 3, stack := v.toList ++ rest }) target → Steps p.tables e below (T.setTop g) target) ∨
    (∃ (q : Addr) (vm₁ : Vm) (B : Pt), s.WarmedH vm₁ ∧ Stand p l e R s m args below meth c B.U B.locs B.cells B.slots ∧ PostX ⟨T.setVm vm₁, locs, cells, slots⟩ argsL.toArray q B ∧
      Steps p.tables e below (T.setTop g) ((B.U.setTop { g with stack := rest }).pushFrame (.throwing q))) := by
  obtain ⟨mk, hnamed⟩ := Cond.code_named hcode
  obtain ⟨methM, cM, hmethM, -, -, -, -, -, -, hsigM⟩ := Cond.code_spec hnamed hcode
  have hstatic : methM.isStatic = true := Cond.static_spec hnamed hmethM hstat
  obtain ⟨kP, hkP, -⟩ := className_of_methodNamed hnamed
  have hinitP : kP.init = .initialized := Cond.initialized_spec (findClass_of_methodNamed hnamed) hkP hinit
  obtain ⟨vm₁, X₁, hstep₁⟩ := X.invokestatic hexec hown hlink hnamed hmethM hstatic hkP hinitP hy (g := g) hg (argsL := argsL) (rest := rest) (hlen _ hsigM) hstack hdg
  rcases hK m meth c ⟨T.setVm vm₁, locs, cells, slots⟩ { g with stack := rest } (.invokestatic index) mk argsL.toArray X₁ hg hsize hdg hW (X₁.named hnamed) (hpre vm₁ X₁.warmed) with ⟨v, B, X', hpost, hsteps⟩ | ⟨q, B, X', hpost, hsteps⟩
  · exact Or.inl ⟨v, vm₁, B, X₁.warmed, X', hpost, fun target h => hstep₁ _ fun acts => by rw [doInvoke_state]; exact hsteps.trans h⟩
  · exact Or.inr ⟨q, vm₁, B, X₁.warmed, X', hpost, hstep₁ _ fun acts => by rw [doInvoke_state]; exact hsteps⟩
end Calls
theorem vx_cls {s : State} {T : State} {vm₁ : Vm} {E : String} {k : ClassId} (hW : s.WarmedH vm₁) (h : (T.setVm vm₁).vm.findClass E = some k) : s.vm.findClass E = some k := by
  have h1 : vm₁.findClass E = some k := h
  rw [hW.alike.findClass] at h1
  exact h1
/-- the method's frame g, with q thrown over it -/
def vx_W (p : Program) (l : Launch) (e : Env) (R : Room) (s : State) (m : MethodId) (args : Array Value) (below : List Frame) (meth : Method) (c : Code) (H : Heap) (locs : List Loc) (cells slots : Nat) (Q : State → Prop) (g : JFrame) (q : Addr) : Prop :=
  ∀ T : State, T.heap = H → Stand p l e R s m args below meth c T locs cells slots → ∃ t, Steps p.tables e below ((T.setTop g).pushFrame (.throwing q)) t ∧ Q t
def vx_Run (p : Program) (l : Launch) (e : Env) (R : Room) (s : State) (m : MethodId) (args : Array Value) (below : List Frame) (meth : Method) (c : Code) (H : Heap) (locs : List Loc) (cells slots mc ms : Nat) (g : JFrame) (rest : List Value) (Qa : State → Outcome → State → Prop) (XC : String → State → State → Prop) (free : Addr → Prop) : Prop :=
  ∀ T : State, T.heap = H → Stand p l e R s m args below meth c T locs cells slots →
    (∃ (v : Option Value) (st₀ t T' : State) (L : List Loc), st₀.heap = H ∧ Stand p l e R s m args below meth c T' (locs ++ L) (cells + mc) (slots + ms) ∧ (∀ q ∈ L, free q.base) ∧ T'.heap = t.heap ∧ T'.vm = t.vm ∧ Qa st₀ (.returned v) t ∧
      Goes p e below T g T' { g with pc := g.pc + 3, stack := v.toList ++ rest }) ∨
    (∃ (q : Addr) (st₀ t T' : State) (L : List Loc) (E : String) (ce : Cell), st₀.heap = H ∧ Stand p l e R s m args below meth c T' (locs ++ L) (cells + mc) (slots + ms) ∧ (∀ z ∈ L, free z.base) ∧ T'.heap = t.heap ∧ T'.vm = t.vm ∧ XC E st₀ t ∧ t.heap[q]? = some ce ∧ ce.vm = .none ∧ s.vm.findClass E = some ce.cls ∧
      Steps p.tables e below (T.setTop g) ((T'.setTop { g with stack := rest }).pushFrame (.throwing q)))
def vx_X {S : Type} (px : S → Prop) (B : String → S → State → Prop) (A : Nat → Prop) : String → State → State → Prop := fun E st t => ∃ u : S, px u ∧ B E u t ∧ va_F A st t
section Runs
variable {p : Program} {l : Launch} {e : Env} {R : Room} {s : State} {m : MethodId} {args : Array Value} {below : List Frame} {meth : Method} {c : Code} {H : Heap} {locs : List Loc} {cells slots : Nat}
variable {y : MethodName} {bytes cc : ByteArray} {maxL nL mc ms n index : Nat} {ret : Option FieldType} {ws : List Cond} {rm : Room} {Pc : Array Value → State → Prop} {Qc : Array Value → State → Outcome → State → Prop} {XC : String → State → State → Prop} {free : Addr → Prop} {Ts : List Cond} {own C : String} {b : Addr} {As rest : List Value} {g : JFrame}
theorem vx_callBack (cb : CallB R s args own index y bytes maxL ret ws rm mc ms n) (hM : vx_Met l y ws rm Pc Qc XC mc ms free) (hbl : FrameBlind Pc) : vx_Back l R p e below s args y 3 8 (PreOf R mc ms Pc) (PostOf Qc mc ms free) (vx_Post XC mc ms free) := by
  obtain ⟨hrc, hrs, hfr, hlo, hws, hcw, -, hini, -⟩ := cb
  exact vx_back (bytes := bytes) (maxL := maxL) (ret := ret) hM hbl hrc hrs hfr hlo hws hcw (fun a' U hW => word_at hW (Or.inl (by first | rfl | simp [Cond.onTables, Cond.keeps, Cond.steady])) hini)
theorem vx_runV (S : CallFix p m c cc nL s args Ts own) (hM : vx_Met l y ws rm Pc Qc XC mc ms free) (cw : CallW R s args own C index y bytes maxL ret ws rm mc ms n) (hp : PreV s H C b Pc As)
    (hg : g.method = m) (hn : As.length = n) (hsize : g.locals.size = nL) (hstack : g.stack = As.reverse ++ .ref b :: rest) (hW : 2 * g.monitorRoom + (rest.map fun v => v.category).sum ≤ 8) (hdg : decode cc g.pc = .ok (.invokevirtual index, 3)) (hf : cells + mc ≤ R.cells ∧ slots + ms ≤ R.slots) :
    vx_Run p l e R s m args below meth c H locs cells slots mc ms g rest (Qc (Value.ref b :: As).toArray) XC free := by
  have hK : vx_Back l R p e below s args y 3 8 (PreOf R mc ms Pc) (PostOf Qc mc ms free) (vx_Post XC mc ms free) := vx_callBack cw.1 hM hp.1
  obtain ⟨⟨-, -, -, -, -, -, hcode, -, hy, hlen, hl⟩, hin, hse⟩ := cw
  obtain ⟨hx, hb, hml, ho, -⟩ := S
  obtain ⟨-, ⟨cellB, hcB, hoB, hclB⟩, hPc⟩ := hp
  intro T hT X
  rcases vx_callV X hx (C := C) (bytes := bytes) (maxL := maxL) (ret := ret) ho hl hin hse hcode hy hK (by rw [hT]; exact hcB) hoB hclB hg (hsize.trans hml.symm) (argsL := As) (rest := rest) (fun sig h => hn.trans (hlen sig h)) hstack hW (by rw [hb]; exact hdg)
    (fun vm₁ hW₁ => ⟨hf.1, hf.2, hPc (T.setVm vm₁) hT hW₁⟩) with ⟨v, vm₁, ⟨U', l2, c2, s2⟩, hW₁, X', ⟨g', mk, t, L, e1, e2, hq, h1, hL, h2, h3⟩, st⟩ | ⟨q, vm₁, ⟨U', l2, c2, s2⟩, hW₁, X', ⟨g', mk, t, L, E, ce, e1, e2, hq, hce, hcv, hcl, h1, hL, h2, h3⟩, st⟩
  · dsimp only [Pt.U, Pt.locs, Pt.cells, Pt.slots] at X' e1 e2 h1 h2 h3 st
    subst h1; subst h2; subst h3
    exact Or.inl ⟨v, (T.setVm vm₁).calling g' mk (Value.ref b :: As).toArray, t, U', L, hT, X', hL, e1, e2, hq, st⟩
  · dsimp only [Pt.U, Pt.locs, Pt.cells, Pt.slots] at X' e1 e2 h1 h2 h3 st hcl
    subst h1; subst h2; subst h3
    exact Or.inr ⟨q, (T.setVm vm₁).calling g' mk (Value.ref b :: As).toArray, t, U', L, E, ce, hT, X', hL, e1, e2, hq, hce, hcv, vx_cls hW₁ hcl, st⟩
theorem vx_runS (S : CallFix p m c cc nL s args Ts own) (hM : vx_Met l y ws rm Pc Qc XC mc ms free) (cw : CallB R s args own index y bytes maxL ret ws rm mc ms n ∧ (Cond.static y).before args s = true) (hp : PreS s H Pc As)
    (hg : g.method = m) (hn : As.length = n) (hsize : g.locals.size = nL) (hstack : g.stack = As.reverse ++ rest) (hW : 2 * g.monitorRoom + (rest.map fun v => v.category).sum ≤ 8) (hdg : decode cc g.pc = .ok (.invokestatic index, 3)) (hf : cells + mc ≤ R.cells ∧ slots + ms ≤ R.slots) :
    vx_Run p l e R s m args below meth c H locs cells slots mc ms g rest (Qc As.toArray) XC free := by
  have hK : vx_Back l R p e below s args y 3 8 (PreOf R mc ms Pc) (PostOf Qc mc ms free) (vx_Post XC mc ms free) := vx_callBack cw.1 hM hp.1
  obtain ⟨⟨-, -, -, -, -, -, hcode, hini, hy, hlen, hl⟩, hstt⟩ := cw
  obtain ⟨hx, hb, hml, ho, -⟩ := S
  intro T hT X
  rcases vx_callS X hx (bytes := bytes) (maxL := maxL) (ret := ret) ho hl hstt hini hcode hy hK hg (hsize.trans hml.symm) (argsL := As) (rest := rest) (fun sig h => hn.trans (hlen sig h)) hstack hW (by rw [hb]; exact hdg)
    (fun vm₁ hW₁ => ⟨hf.1, hf.2, hp.2 (T.setVm vm₁) hT hW₁⟩) with ⟨v, vm₁, ⟨U', l2, c2, s2⟩, hW₁, X', ⟨g', mk, t, L, e1, e2, hq, h1, hL, h2, h3⟩, st⟩ | ⟨q, vm₁, ⟨U', l2, c2, s2⟩, hW₁, X', ⟨g', mk, t, L, E, ce, e1, e2, hq, hce, hcv, hcl, h1, hL, h2, h3⟩, st⟩
  · dsimp only [Pt.U, Pt.locs, Pt.cells, Pt.slots] at X' e1 e2 h1 h2 h3 st
    subst h1; subst h2; subst h3
    exact Or.inl ⟨v, (T.setVm vm₁).calling g' mk As.toArray, t, U', L, hT, X', hL, e1, e2, hq, st⟩
  · dsimp only [Pt.U, Pt.locs, Pt.cells, Pt.slots] at X' e1 e2 h1 h2 h3 st hcl
    subst h1; subst h2; subst h3
    exact Or.inr ⟨q, (T.setVm vm₁).calling g' mk As.toArray, t, U', L, E, ce, hT, X', hL, e1, e2, hq, hce, hcv, vx_cls hW₁ hcl, st⟩
end Runs
section Rows
variable {p : Program} {l : Launch} {e : Env} {R : Room} {s : State} {m : MethodId} {args : Array Value} {below : List Frame} {meth : Method} {c : Code} {H : Heap} {locs : List Loc} {cells slots : Nat} {Q : State → Prop}
variable {mc ms : Nat} {free : Addr → Prop} {A0 A1 : Nat → Prop} {H0 : Heap} {a : Array Value} {pc : Nat} {ls : Array Slot} {st0 rest : List Value}
theorem vx_keep {st₀ t T' : State} {L : List Loc} (h0 : st₀.heap = H) (e1 : T'.heap = t.heap) (hS : va_S A0 H0 H locs) (hA : ∀ q, q < H.size → A1 q → A0 q) (hf : ∀ q, free q → A0 q) (hL : ∀ q ∈ L, free q.base) (hF : va_F A1 st₀ t) :
    H.size ≤ T'.heap.size ∧ (∀ q : Nat, q < H.size → ¬ A1 q → T'.heap[q]? = H[q]?) ∧ va_S A0 H0 T'.heap (locs ++ L) := by
  obtain ⟨hz, hk⟩ := hF
  rw [h0] at hz hk
  exact ⟨by rw [e1]; exact hz, fun q h1 h2 => by rw [e1]; exact hk q h1 h2,
    ⟨Nat.le_trans hS.1 (by rw [e1]; exact hz), fun q h1 h2 => by rw [e1, hk q (Nat.lt_of_lt_of_le h1 hS.1) (fun z => h2 (hA q (Nat.lt_of_lt_of_le h1 hS.1) z))]; exact hS.2.1 q h1 h2, fun q hq => by
      rcases List.mem_append.mp hq with h | h
      · exact hS.2.2 q h
      · exact hf _ (hL q h)⟩⟩
theorem vx_calli {S SX : Type} {post : Int32 → S → Prop} {px : SX → Prop} {B : S → State → Prop} {BX : String → SX → State → Prop} {AX : Nat → Prop} (hr : vx_Run p l e R s m args below meth c H locs cells slots mc ms (F0 m pc ls st0) rest (va_Qi post B A1 a) (vx_X px BX AX) free) (hS : va_S A0 H0 H locs) (hA : ∀ q, q < H.size → A1 q → A0 q) (hf : ∀ q, free q → A0 q) (hAX : ∀ q, q < H.size → AX q → A0 q)
    (kx : ∀ (E : String) (ce : Cell) (q9 : Addr) (u : SX) (t : State) (H1 : Heap) (locs1 : List Loc), t.heap = H1 → s.vm.Alike t.vm → px u → BX E u t → H.size ≤ H1.size → (∀ q : Nat, q < H.size → ¬ AX q → H1[q]? = H[q]?) → va_S A0 H0 H1 locs1 → H1[q9]? = some ce → ce.vm = .none → s.vm.findClass E = some ce.cls → vx_W p l e R s m args below meth c H1 locs1 (cells + mc) (slots + ms) Q (F0 m pc ls rest) q9)
    (kk : ∀ (r : Int32) (u : S) (t : State) (H1 : Heap) (locs1 : List Loc), t.heap = H1 → s.vm.Alike t.vm → post r u → B u t → H.size ≤ H1.size → (∀ q : Nat, q < H.size → ¬ A1 q → H1[q]? = H[q]?) → va_S A0 H0 H1 locs1 → W p l e R s m args below meth c H1 locs1 (cells + mc) (slots + ms) Q (F0 m (pc + 3) ls (.int r :: rest))) : W p l e R s m args below meth c H locs cells slots Q (F0 m pc ls st0) := by
  intro T hT X
  rcases hr T hT X with ⟨v, st₀, t, T', L, h0, X', hL, e1, e2, ⟨⟨r, u, hv, hp, hb⟩, hF⟩, st⟩ | ⟨q, st₀, t, T', L, E, ce, h0, X', hL, e1, e2, ⟨u, hp, hb, hF⟩, hce, hcv, hcl, st⟩
  · cases hv
    obtain ⟨k1, k2, k3⟩ := vx_keep h0 e1 hS hA hf hL hF
    obtain ⟨t2, a1, b1⟩ := kk r u t T'.heap (locs ++ L) e1.symm (by rw [← e2]; exact X'.warmed.alike) hp hb k1 k2 k3 T' rfl X'
    exact ⟨t2, st t2 a1, b1⟩
  · obtain ⟨k1, k2, k3⟩ := vx_keep h0 e1 hS hAX hf hL hF
    obtain ⟨t2, a1, b1⟩ := kx E ce q u t T'.heap (locs ++ L) e1.symm (by rw [← e2]; exact X'.warmed.alike) hp hb k1 k2 k3 (by rw [e1]; exact hce) hcv hcl T' rfl X'
    exact ⟨t2, st.trans a1, b1⟩
theorem vx_calll {S SX : Type} {post : Int64 → S → Prop} {px : SX → Prop} {B : S → State → Prop} {BX : String → SX → State → Prop} {AX : Nat → Prop} (hr : vx_Run p l e R s m args below meth c H locs cells slots mc ms (F0 m pc ls st0) rest (va_Ql post B A1 a) (vx_X px BX AX) free) (hS : va_S A0 H0 H locs) (hA : ∀ q, q < H.size → A1 q → A0 q) (hf : ∀ q, free q → A0 q) (hAX : ∀ q, q < H.size → AX q → A0 q)
    (kx : ∀ (E : String) (ce : Cell) (q9 : Addr) (u : SX) (t : State) (H1 : Heap) (locs1 : List Loc), t.heap = H1 → s.vm.Alike t.vm → px u → BX E u t → H.size ≤ H1.size → (∀ q : Nat, q < H.size → ¬ AX q → H1[q]? = H[q]?) → va_S A0 H0 H1 locs1 → H1[q9]? = some ce → ce.vm = .none → s.vm.findClass E = some ce.cls → vx_W p l e R s m args below meth c H1 locs1 (cells + mc) (slots + ms) Q (F0 m pc ls rest) q9)
    (kk : ∀ (r : Int64) (u : S) (t : State) (H1 : Heap) (locs1 : List Loc), t.heap = H1 → s.vm.Alike t.vm → post r u → B u t → H.size ≤ H1.size → (∀ q : Nat, q < H.size → ¬ A1 q → H1[q]? = H[q]?) → va_S A0 H0 H1 locs1 → W p l e R s m args below meth c H1 locs1 (cells + mc) (slots + ms) Q (F0 m (pc + 3) ls (.long r :: rest))) : W p l e R s m args below meth c H locs cells slots Q (F0 m pc ls st0) := by
  intro T hT X
  rcases hr T hT X with ⟨v, st₀, t, T', L, h0, X', hL, e1, e2, ⟨⟨r, u, hv, hp, hb⟩, hF⟩, st⟩ | ⟨q, st₀, t, T', L, E, ce, h0, X', hL, e1, e2, ⟨u, hp, hb, hF⟩, hce, hcv, hcl, st⟩
  · cases hv
    obtain ⟨k1, k2, k3⟩ := vx_keep h0 e1 hS hA hf hL hF
    obtain ⟨t2, a1, b1⟩ := kk r u t T'.heap (locs ++ L) e1.symm (by rw [← e2]; exact X'.warmed.alike) hp hb k1 k2 k3 T' rfl X'
    exact ⟨t2, st t2 a1, b1⟩
  · obtain ⟨k1, k2, k3⟩ := vx_keep h0 e1 hS hAX hf hL hF
    obtain ⟨t2, a1, b1⟩ := kx E ce q u t T'.heap (locs ++ L) e1.symm (by rw [← e2]; exact X'.warmed.alike) hp hb k1 k2 k3 (by rw [e1]; exact hce) hcv hcl T' rfl X'
    exact ⟨t2, st.trans a1, b1⟩
theorem vx_callf {S SX : Type} {post : UInt32 → S → Prop} {px : SX → Prop} {B : S → State → Prop} {BX : String → SX → State → Prop} {AX : Nat → Prop} (hr : vx_Run p l e R s m args below meth c H locs cells slots mc ms (F0 m pc ls st0) rest (va_Qf post B A1 a) (vx_X px BX AX) free) (hS : va_S A0 H0 H locs) (hA : ∀ q, q < H.size → A1 q → A0 q) (hf : ∀ q, free q → A0 q) (hAX : ∀ q, q < H.size → AX q → A0 q)
    (kx : ∀ (E : String) (ce : Cell) (q9 : Addr) (u : SX) (t : State) (H1 : Heap) (locs1 : List Loc), t.heap = H1 → s.vm.Alike t.vm → px u → BX E u t → H.size ≤ H1.size → (∀ q : Nat, q < H.size → ¬ AX q → H1[q]? = H[q]?) → va_S A0 H0 H1 locs1 → H1[q9]? = some ce → ce.vm = .none → s.vm.findClass E = some ce.cls → vx_W p l e R s m args below meth c H1 locs1 (cells + mc) (slots + ms) Q (F0 m pc ls rest) q9)
    (kk : ∀ (r : UInt32) (u : S) (t : State) (H1 : Heap) (locs1 : List Loc), t.heap = H1 → s.vm.Alike t.vm → post r u → B u t → H.size ≤ H1.size → (∀ q : Nat, q < H.size → ¬ A1 q → H1[q]? = H[q]?) → va_S A0 H0 H1 locs1 → W p l e R s m args below meth c H1 locs1 (cells + mc) (slots + ms) Q (F0 m (pc + 3) ls (.float r :: rest))) : W p l e R s m args below meth c H locs cells slots Q (F0 m pc ls st0) := by
  intro T hT X
  rcases hr T hT X with ⟨v, st₀, t, T', L, h0, X', hL, e1, e2, ⟨⟨r, u, hv, hp, hb⟩, hF⟩, st⟩ | ⟨q, st₀, t, T', L, E, ce, h0, X', hL, e1, e2, ⟨u, hp, hb, hF⟩, hce, hcv, hcl, st⟩
  · cases hv
    obtain ⟨k1, k2, k3⟩ := vx_keep h0 e1 hS hA hf hL hF
    obtain ⟨t2, a1, b1⟩ := kk r u t T'.heap (locs ++ L) e1.symm (by rw [← e2]; exact X'.warmed.alike) hp hb k1 k2 k3 T' rfl X'
    exact ⟨t2, st t2 a1, b1⟩
  · obtain ⟨k1, k2, k3⟩ := vx_keep h0 e1 hS hAX hf hL hF
    obtain ⟨t2, a1, b1⟩ := kx E ce q u t T'.heap (locs ++ L) e1.symm (by rw [← e2]; exact X'.warmed.alike) hp hb k1 k2 k3 (by rw [e1]; exact hce) hcv hcl T' rfl X'
    exact ⟨t2, st.trans a1, b1⟩
theorem vx_calld {S SX : Type} {post : UInt64 → S → Prop} {px : SX → Prop} {B : S → State → Prop} {BX : String → SX → State → Prop} {AX : Nat → Prop} (hr : vx_Run p l e R s m args below meth c H locs cells slots mc ms (F0 m pc ls st0) rest (va_Qd post B A1 a) (vx_X px BX AX) free) (hS : va_S A0 H0 H locs) (hA : ∀ q, q < H.size → A1 q → A0 q) (hf : ∀ q, free q → A0 q) (hAX : ∀ q, q < H.size → AX q → A0 q)
    (kx : ∀ (E : String) (ce : Cell) (q9 : Addr) (u : SX) (t : State) (H1 : Heap) (locs1 : List Loc), t.heap = H1 → s.vm.Alike t.vm → px u → BX E u t → H.size ≤ H1.size → (∀ q : Nat, q < H.size → ¬ AX q → H1[q]? = H[q]?) → va_S A0 H0 H1 locs1 → H1[q9]? = some ce → ce.vm = .none → s.vm.findClass E = some ce.cls → vx_W p l e R s m args below meth c H1 locs1 (cells + mc) (slots + ms) Q (F0 m pc ls rest) q9)
    (kk : ∀ (r : UInt64) (u : S) (t : State) (H1 : Heap) (locs1 : List Loc), t.heap = H1 → s.vm.Alike t.vm → post r u → B u t → H.size ≤ H1.size → (∀ q : Nat, q < H.size → ¬ A1 q → H1[q]? = H[q]?) → va_S A0 H0 H1 locs1 → W p l e R s m args below meth c H1 locs1 (cells + mc) (slots + ms) Q (F0 m (pc + 3) ls (.double r :: rest))) : W p l e R s m args below meth c H locs cells slots Q (F0 m pc ls st0) := by
  intro T hT X
  rcases hr T hT X with ⟨v, st₀, t, T', L, h0, X', hL, e1, e2, ⟨⟨r, u, hv, hp, hb⟩, hF⟩, st⟩ | ⟨q, st₀, t, T', L, E, ce, h0, X', hL, e1, e2, ⟨u, hp, hb, hF⟩, hce, hcv, hcl, st⟩
  · cases hv
    obtain ⟨k1, k2, k3⟩ := vx_keep h0 e1 hS hA hf hL hF
    obtain ⟨t2, a1, b1⟩ := kk r u t T'.heap (locs ++ L) e1.symm (by rw [← e2]; exact X'.warmed.alike) hp hb k1 k2 k3 T' rfl X'
    exact ⟨t2, st t2 a1, b1⟩
  · obtain ⟨k1, k2, k3⟩ := vx_keep h0 e1 hS hAX hf hL hF
    obtain ⟨t2, a1, b1⟩ := kx E ce q u t T'.heap (locs ++ L) e1.symm (by rw [← e2]; exact X'.warmed.alike) hp hb k1 k2 k3 (by rw [e1]; exact hce) hcv hcl T' rfl X'
    exact ⟨t2, st.trans a1, b1⟩
theorem vx_callv {S SX : Type} {post : S → Prop} {px : SX → Prop} {B : S → State → Prop} {BX : String → SX → State → Prop} {AX : Nat → Prop} (hr : vx_Run p l e R s m args below meth c H locs cells slots mc ms (F0 m pc ls st0) rest (va_Qv post B A1 a) (vx_X px BX AX) free) (hS : va_S A0 H0 H locs) (hA : ∀ q, q < H.size → A1 q → A0 q) (hf : ∀ q, free q → A0 q) (hAX : ∀ q, q < H.size → AX q → A0 q)
    (kx : ∀ (E : String) (ce : Cell) (q9 : Addr) (u : SX) (t : State) (H1 : Heap) (locs1 : List Loc), t.heap = H1 → s.vm.Alike t.vm → px u → BX E u t → H.size ≤ H1.size → (∀ q : Nat, q < H.size → ¬ AX q → H1[q]? = H[q]?) → va_S A0 H0 H1 locs1 → H1[q9]? = some ce → ce.vm = .none → s.vm.findClass E = some ce.cls → vx_W p l e R s m args below meth c H1 locs1 (cells + mc) (slots + ms) Q (F0 m pc ls rest) q9)
    (kk : ∀ (u : S) (t : State) (H1 : Heap) (locs1 : List Loc), t.heap = H1 → s.vm.Alike t.vm → post u → B u t → H.size ≤ H1.size → (∀ q : Nat, q < H.size → ¬ A1 q → H1[q]? = H[q]?) → va_S A0 H0 H1 locs1 → W p l e R s m args below meth c H1 locs1 (cells + mc) (slots + ms) Q (F0 m (pc + 3) ls (rest))) : W p l e R s m args below meth c H locs cells slots Q (F0 m pc ls st0) := by
  intro T hT X
  rcases hr T hT X with ⟨v, st₀, t, T', L, h0, X', hL, e1, e2, ⟨⟨u, hv, hp, hb⟩, hF⟩, st⟩ | ⟨q, st₀, t, T', L, E, ce, h0, X', hL, e1, e2, ⟨u, hp, hb, hF⟩, hce, hcv, hcl, st⟩
  · cases hv
    obtain ⟨k1, k2, k3⟩ := vx_keep h0 e1 hS hA hf hL hF
    obtain ⟨t2, a1, b1⟩ := kk u t T'.heap (locs ++ L) e1.symm (by rw [← e2]; exact X'.warmed.alike) hp hb k1 k2 k3 T' rfl X'
    exact ⟨t2, st t2 a1, b1⟩
  · obtain ⟨k1, k2, k3⟩ := vx_keep h0 e1 hS hAX hf hL hF
    obtain ⟨t2, a1, b1⟩ := kx E ce q u t T'.heap (locs ++ L) e1.symm (by rw [← e2]; exact X'.warmed.alike) hp hb k1 k2 k3 (by rw [e1]; exact hce) hcv hcl T' rfl X'
    exact ⟨t2, st.trans a1, b1⟩
/-- caught by the row x of this method's table; the rows ahead don't take it -/
theorem vx_catch {own name : String} {E : String} {ce : Cell} {q : Addr} (hown : s.vm.findClass own = some m.cls) (pre : List ExceptionTableEntry) (x : ExceptionTableEntry) (suf : List ExceptionTableEntry) (hsplit : c.exceptionTable.toList = pre ++ x :: suf)
    (hpass : ∀ z ∈ pre, covers z pc = false ∨ (z.catchType ≠ 0 ∧ ∃ nm : String, (Cond.classLink own z.catchType nm).before args s = true ∧ va_Nc E nm s)) (hx : covers x pc = true) (h0 : x.catchType ≠ 0)
    (hlink : (Cond.classLink own x.catchType name).before args s = true) (hcast : (Cond.castable E name).before args s = true) (hcell : H[q]? = some ce) (hv : ce.vm = .none) (hcl : s.vm.findClass E = some ce.cls)
    (kk : W p l e R s m args below meth c H locs cells slots Q (F0 m x.handlerPc ls [.ref q])) : vx_W p l e R s m args below meth c H locs cells slots Q (F0 m pc ls rest) q := by
  intro T hT X
  have hpl : e.platform.magicAccessors = ({} : Platform).magicAccessors := by rw [X.admits.platform]
  obtain ⟨c3, c4, hc3, hc4, hasg⟩ := Cond.castable_spec hcast
  cases Option.some.inj (hc3.symm.trans hcl)
  obtain ⟨c5, hc5, hcl5⟩ := Cond.classLink_spec hown hlink e.platform hpl
  cases Option.some.inj (hc4.symm.trans hc5)
  obtain ⟨vm', X', st⟩ := X.thenCaughtThrough q (g := F0 m pc ls rest) rfl (Steps.refl _) (by rw [hT]; exact hcell) (by rw [hv]; rfl) (by obtain ⟨k9, h9, -⟩ := Vm.findClass_spec hcl; exact ⟨k9, h9⟩) pre x suf hsplit
    (fun z hz => by
      rcases hpass z hz with h | ⟨hz0, nm, hl1, hn1⟩
      · exact Or.inl h
      · obtain ⟨c6, hc6, hcl6⟩ := Cond.classLink_spec hown hl1 e.platform hpl
        obtain ⟨a8, b8, h1, h2, h3⟩ := hn1
        cases Option.some.inj (h1.symm.trans hcl)
        cases Option.some.inj (h2.symm.trans hc6)
        exact Or.inr ⟨hz0, _, hcl6, h3⟩) hx (Or.inr ⟨h0, c4, hcl5, hasg⟩)
  obtain ⟨t, a1, b1⟩ := kk (T.setVm vm') hT X'
  exact ⟨t, st.trans a1, b1⟩
end Rows
section Ends
variable {p : Program} {l : Launch} {e : Env} {R : Room} {s : State} {m : MethodId} {args : Array Value} {below : List Frame} {meth : Method} {c : Code} {H : Heap} {locs : List Loc} {cells slots : Nat} {Q : State → Prop}
variable {mc ms : Nat} {free : Addr → Prop} {A0 A1 : Nat → Prop} {H0 : Heap} {a : Array Value} {ls : Array Slot} {st0 rest : List Value}
variable {Qc : Array Value → State → Outcome → State → Prop} {XC : String → State → State → Prop}
/-- what a body that may throw owes at its end -/
def vx_MQ (below : List Frame) (Qc : Array Value → State → Outcome → State → Prop) (XC : String → State → State → Prop) (a : Array Value) (s : State) (mc ms : Nat) (free : Addr → Prop) : State → Prop := fun t =>
  ∃ o, t.status = .running ∧ Ended t below o ∧ vx_Q Qc XC mc ms free a s o t
theorem vx_ret {g : JFrame} {mc ms : Nat} (k : W p l e R s m args below meth c H locs cells slots (MQ below Qc args s mc ms free) g) : W p l e R s m args below meth c H locs cells slots (vx_MQ below Qc XC args s mc ms free) g := by
  intro T hT X
  obtain ⟨t, a1, o, b1, b2, b3, b4⟩ := k T hT X
  exact ⟨t, a1, o, b1, b2, Or.inl ⟨b3, b4⟩⟩
/-- not caught here: it goes on to the caller -/
theorem vx_widen {g : JFrame} {q : Addr} {k n : Nat} (h1 : cells ≤ k) (h2 : slots ≤ n) (kk : vx_W p l e R s m args below meth c H locs k n Q g q) : vx_W p l e R s m args below meth c H locs cells slots Q g q := fun T hT X => kk T hT (stand_widen X h1 h2)
theorem vx_out {pc : Nat} {E : String} {ce : Cell} {q : Addr} {mc ms : Nat} (hout : ∀ x ∈ c.exceptionTable.toList, covers x pc = false) (hlocks : meth.locks = false) (hcell : H[q]? = some ce) (hv : ce.vm = .none) (hcl : s.vm.findClass E = some ce.cls)
    (hx : ∀ t : State, t.heap = H → s.vm.Alike t.vm → XC E s t) (hf : ∀ z ∈ locs, free z.base) (hc : cells ≤ mc) (hs : slots ≤ ms) :
    vx_W p l e R s m args below meth c H locs cells slots (vx_MQ below Qc XC args s mc ms free) (F0 m pc ls rest) q := by
  intro T hT X
  obtain ⟨st1, hrun, hend, hW, hsm⟩ := X.leaveThrown q (g := F0 m pc ls rest) rfl rfl rfl hout hlocks
  have hcell9 : (T.setFrames (.throwing q :: below)).heap[q]? = some ce := by
    show T.heap[q]? = some ce
    rw [hT]; exact hcell
  exact ⟨_, st1, .threw q, hrun, hend, Or.inr ⟨q, rfl, E, ce, locs, hx _ hT hW.alike, hcell9, hv, hcl, hW, hsm.mono hc hs, hf⟩⟩
theorem vx_frame {U : State} {k n : Nat} (h : s.sameButNew ({ U with vm := s.vm } : State) locs k n) : s.heap.size ≤ U.heap.size ∧ ∀ q : Nat, q < s.heap.size → (∀ z ∈ locs, z.base ≠ q) → U.heap[q]? = s.heap[q]? := by
  obtain ⟨-, h2, -, -, -, h6⟩ := h
  refine ⟨h2, fun q hq hz => ?_⟩
  obtain ⟨c9, e1, e2, e3, e4⟩ := h6 q _ (Array.getElem?_eq_getElem hq)
  have hs : c9.slots = (s.heap[q]).slots := Array.ext_getElem? fun i => e4 i fun hm => hz _ hm rfl
  have h9 : c9 = s.heap[q] := by
    rw [hs] at e2
    exact e2
  have e5 : U.heap[q]? = some c9 := e1
  rw [e5, h9, Array.getElem?_eq_getElem hq]
/-- the words of a throw but the four that speak of the heap -/
def vx_no (w : Cond) : Bool := decide (w ≠ .isRef (.static Bundle.tN "UNASSIGNED_STACK" Bundle.steD)) && decide (w ≠ .isRef (.static Bundle.tN "SUPPRESSED_SENTINEL" Bundle.listD)) && decide (w ≠ .laysStatic Bundle.tN "UNASSIGNED_STACK" Bundle.steD) && decide (w ≠ .laysStatic Bundle.tN "SUPPRESSED_SENTINEL" Bundle.listD)
def vx_at0 (own : String) (ic : Nat) (X : String) (names : List String) : List Cond := (Bundle.ownAtoms0 own ic X names).filter vx_no
def vx_atS (own : String) (ic : Nat) (X : String) (names : List String) : List Cond := (Bundle.ownAtoms own ic X names).filter vx_no
/-- a word that the tables alone decide, or a good one -/
def vx_ot (w : Cond) : Bool := w.onTables || goodWord w
theorem vx_ot_at {args a' : Array Value} {s U : State} {w : Cond} (hW : s.WarmedH U.vm) (hvm : s.vm = U.vm) (hg : vx_ot w = true) (h : w.before args s = true) : w.before a' U = true := by
  simp only [vx_ot, Bool.or_eq_true] at hg
  rcases hg with hg | hg
  · exact va_tabs hg hvm h
  · exact word_at hW (good_of_word hg) h
/-- a list's words: the good ones out of the method's own list, the others by premises of their own -/
theorem vx_hat {args : Array Value} {s : State} {L B : List Cond} (h1 : ∀ w ∈ L.filter goodWord, w.before args s = true) (h2 : ∀ w ∈ L.filter (fun w => !goodWord w), w ∈ B) (h3 : ∀ w ∈ B, w.before args s = true) : ∀ w ∈ L, w.before args s = true := by
  intro w hw
  by_cases g : goodWord w = true
  · exact h1 w (List.mem_filter.mpr ⟨hw, g⟩)
  · refine h3 w (h2 w (List.mem_filter.mpr ⟨hw, ?_⟩))
    show (!goodWord w) = true
    cases hgw : goodWord w
    · rfl
    · exact absurd hgw g
theorem vx_c {args : Array Value} {s : State} {w : Cond} {B : List Cond} (h : w.before args s = true) (t : ∀ w ∈ B, w.before args s = true) : ∀ w' ∈ w :: B, w'.before args s = true := fun w' h' => (List.mem_cons.mp h').elim (fun e => by rw [e]; exact h) (t w')
theorem vx_n {args : Array Value} {s : State} : ∀ w ∈ ([] : List Cond), w.before args s = true := fun _ h => nomatch h
theorem vx_own {args : Array Value} {s : State} {L : List Cond} (h1 : ∀ w ∈ L.filter vx_no, w.before args s = true)
    (hU : (Cond.isRef (.static Bundle.tN "UNASSIGNED_STACK" Bundle.steD)).before args s = true) (hN : (Cond.isRef (.static Bundle.tN "SUPPRESSED_SENTINEL" Bundle.listD)).before args s = true)
    (lU : (Cond.laysStatic Bundle.tN "UNASSIGNED_STACK" Bundle.steD).before args s = true) (lN : (Cond.laysStatic Bundle.tN "SUPPRESSED_SENTINEL" Bundle.listD).before args s = true) : ∀ w ∈ L, w.before args s = true := by
  intro w hw
  by_cases e1 : w = .isRef (.static Bundle.tN "UNASSIGNED_STACK" Bundle.steD)
  · rw [e1]; exact hU
  · by_cases e2 : w = .isRef (.static Bundle.tN "SUPPRESSED_SENTINEL" Bundle.listD)
    · rw [e2]; exact hN
    · by_cases e3 : w = .laysStatic Bundle.tN "UNASSIGNED_STACK" Bundle.steD
      · rw [e3]; exact lU
      · by_cases e4 : w = .laysStatic Bundle.tN "SUPPRESSED_SENTINEL" Bundle.listD
        · rw [e4]; exact lN
        · exact h1 w (List.mem_filter.mpr ⟨hw, by unfold vx_no; rw [decide_eq_true e1, decide_eq_true e2, decide_eq_true e3, decide_eq_true e4]; rfl⟩)
/-- where a static field lies, its class's statics cell in H -/
def vx_L (C n d : String) (A : Nat → Prop) (U : State) (H : Heap) : Prop := ∃ (c : ClassId) (k : Class) (i : Nat) (f : Field) (a : Nat) (cell : Cell), U.vm.findClass C = some c ∧ U.fieldFound? C n d = some (c, k, i, f) ∧ f.isStatic = true ∧ k.statics = some a ∧ H[a]? = some cell ∧ cell.vm.isStatics = true ∧ cell.cls = c ∧ f.slot < cell.slots.size ∧ k.staticTypes[f.slot]? = some f.type ∧ ¬ A a
theorem vx_L.moved {C n d : String} {A : Nat → Prop} {u U : State} {H : Heap} (hvm : u.vm.Alike U.vm) (h : vx_L C n d A u H) : vx_L C n d A U H := by
  obtain ⟨c, k, i, f, a, cell, h1, h2, h3, h4, h5, h6, h7, h8, h9, h10⟩ := h
  obtain ⟨k', hi', he⟩ := State.fieldFound?_setVm hvm h2
  exact ⟨c, k', i, f, a, cell, by rw [hvm.findClass]; exact h1, hi', h3, by rw [he]; exact h4, h5, h6, h7, h8, by rw [he]; exact h9, h10⟩
theorem vx_L.kept {C n d : String} {A : Nat → Prop} {U : State} {H H1 : Heap} (h : vx_L C n d A U H) (hq : ∀ a : Nat, a < H.size → ¬ A a → H1[a]? = H[a]?) : vx_L C n d A U H1 := by
  obtain ⟨c, k, i, f, a, cell, h1, h2, h3, h4, h5, h6, h7, h8, h9, h10⟩ := h
  exact ⟨c, k, i, f, a, cell, h1, h2, h3, h4, by rw [hq a (Array.getElem?_eq_some_iff.mp h5).1 h10]; exact h5, h6, h7, h8, h9, h10⟩
theorem vx_L.narrow {C n d : String} {A B : Nat → Prop} {U : State} {H : Heap} (h : vx_L C n d A U H) (hAB : ∀ q, B q → A q) : vx_L C n d B U H := by
  obtain ⟨c, k, i, f, a, cell, h1, h2, h3, h4, h5, h6, h7, h8, h9, h10⟩ := h
  exact ⟨c, k, i, f, a, cell, h1, h2, h3, h4, h5, h6, h7, h8, h9, fun z => h10 (hAB _ z)⟩
theorem vx_L.word {C n d : String} {A : Nat → Prop} {s : State} {args : Array Value} (h : vx_L C n d A s s.heap) : (Cond.laysStatic C n d).before args s = true := by
  obtain ⟨c, k, i, f, a, cell, h1, h2, h3, h4, h5, h6, h7, h8, h9, -⟩ := h
  show (Cond.laysStatic C n d).holds args s none s [] = true
  exact Cond.laysStatic_of h1 h2 h3 h4 h5 h6 h7 h8 h9
/-- .. and what it holds: null or some reference -/
def vx_Zq (C n d : String) (A : Nat → Prop) (U : State) (H : Heap) : Prop := va_Zq C n d A U H ∧ vx_L C n d A U H
theorem vx_Zq.moved {C n d : String} {A : Nat → Prop} {u U : State} {H : Heap} (hvm : u.vm.Alike U.vm) (h : vx_Zq C n d A u H) : vx_Zq C n d A U H := ⟨va_Zq.moved hvm h.1, vx_L.moved hvm h.2⟩
theorem vx_Zq.kept {C n d : String} {A : Nat → Prop} {U : State} {H H1 : Heap} (h : vx_Zq C n d A U H) (hq : ∀ a : Nat, a < H.size → ¬ A a → H1[a]? = H[a]?) : vx_Zq C n d A U H1 := ⟨va_Zq.kept h.1 hq, vx_L.kept h.2 hq⟩
theorem vx_Zq.narrow {C n d : String} {A B : Nat → Prop} {U : State} {H : Heap} (h : vx_Zq C n d A U H) (hAB : ∀ q, B q → A q) : vx_Zq C n d B U H := ⟨va_Zq.narrow h.1 hAB, vx_L.narrow h.2 hAB⟩
theorem vx_Zqof {args : Array Value} {s : State} {C n d : String} {A : Nat → Prop} (hl : (Cond.laysStatic C n d).before args s = true) (hini : (Cond.initialized C).before args s = true) (h : (Cond.isRef (.static C n d)).before args s = true) (hA : ∀ a : Nat, a < s.heap.size → ¬ A a) : vx_Zq C n d A s s.heap := by
  refine ⟨va_Zqof hl hini h hA, ?_⟩
  obtain ⟨c, k, i, f, a, cell, h1, h2, h3, h4, h5, h6, h7, h8, h9⟩ := Cond.laysStatic_spec hl
  exact ⟨c, k, i, f, a, cell, h1, h2, h3, h4, h5, h6, h7, h8, h9, hA a (Array.getElem?_eq_some_iff.mp h5).1⟩
theorem vx_isRef {C n d : String} {v : Value} {A : Nat → Prop} {s : State} {args : Array Value} (h : va_Z C n d v A s s.heap) (hv : v.isRef = true) : (Cond.isRef (.static C n d)).before args s = true := by
  obtain ⟨cf, kf, fi, f, a, cell, h1, h2, h3, h4, h5, h6, h7, -⟩ := h
  have he : (Term.static C n d).eval args s none [] s = some v := by
    simp [Term.eval, State.fieldNamed?, h1, h2, h4, h5, h6, h7]
  simp only [Cond.before, Cond.holds, Cond.value, he]
  cases v <;> simp_all [Value.isRef]
theorem vx_isRefq {C n d : String} {A : Nat → Prop} {s : State} {args : Array Value} (h : va_Zq C n d A s s.heap) : (Cond.isRef (.static C n d)).before args s = true := by
  rcases h with h | ⟨t, h⟩
  · exact vx_isRef h rfl
  · exact vx_isRef h rfl
/-- the same frame, seen from here: as if the method were called anew in this heap -/
theorem vx_rebase {T : State} (X : Stand p l e R s m args below meth c T locs cells slots) {R' : Room} (hf : R'.frames ≤ R.frames) (hl : R'.locals ≤ R.locals) (hc : cells + R'.cells ≤ R.cells) (hs : slots + R'.slots ≤ R.slots) :
    Stand p l e R' ((T.setVm s.vm).setFrames (.invoking m args :: below)) m args below meth c T [] 0 0 := by
  have htop : (T.setVm s.vm).topJava?.isSome := X.here.top
  have hF : ((T.setVm s.vm).setFrames (.invoking m args :: below)).frames = .invoking m args :: below := State.frames_setFrames _ (State.cur_lt_of_top htop)
  obtain ⟨g₀, hg0⟩ := Option.isSome_iff_exists.mp htop
  obtain ⟨r, hr⟩ := State.topJava?_eq_some.mp hg0
  have hl9 : e.platform.stackLimits (T.setVm s.vm).me = e.platform.stackLimits s.me := X.limits
  have hb9 : (T.setVm s.vm).me.stackBytes = s.me.stackBytes := X.bytes
  refine ⟨X.admits, X.cas, X.clock, hF, ?_, X.hears, X.method, X.code, X.here, X.tail, X.warmed, ?_, ?_, ?_⟩
  · have h := X.room
    have hU : ((T.setVm s.vm).setFrames (.invoking m args :: below)).localsInUse = s.localsInUse := by
      rw [State.localsInUse_invoking hF (meth := meth) (c := c) X.method X.code, State.localsInUse_invoking X.frames X.method X.code]
    simp only [State.hasRoom, Bool.and_eq_true, decide_eq_true_eq] at h ⊢
    obtain ⟨⟨⟨⟨h1, h2, h3, h4, h5, h6⟩, h7⟩, h8⟩, h9⟩ := h
    rw [X.frames, List.length_cons] at h2 h3
    have q1 := X.heapSize
    have q2 := X.used
    simp only [hF, hU, List.length_cons, State.stackLimits_setFrames, State.stackBytes_setFrames, hl9, hb9]
    refine ⟨⟨⟨⟨by omega, by omega, by omega, by omega, by omega, h6⟩, ?_⟩, ?_⟩, X.book⟩
    · show T.heap.size + R'.cells ≤ e.platform.maxCells
      omega
    · show T.slotsUsed + R'.slots ≤ e.platform.maxSlots
      omega
  · rw [State.stackLimits_setFrames]; rfl
  · rw [State.stackBytes_setFrames]; rfl
  · refine ⟨?_, Nat.le_refl _, Nat.le_refl _, ?_, ?_, fun a c9 h9 => ⟨c9, h9, rfl, rfl, fun _ _ => rfl⟩⟩
    · obtain ⟨t, ht, -⟩ := State.frames_cons hr
      show T.setVm s.vm = { ((T.setVm s.vm).setFrames (.invoking m args :: below)).setFrames (T.setVm s.vm).frames with heap := T.heap, slotsUsed := T.slotsUsed }
      rw [State.setFrames_setFrames, State.setFrames_self ht]
      rfl
    · show T.slotsUsed = T.slotsUsed + ((T.heap.toList.drop T.heap.size).map (·.slots.size)).sum
      rw [List.drop_eq_nil_of_le (Nat.le_of_eq Array.length_toList)]
      rfl
    · show ((T.heap.toList.drop T.heap.size).map (·.slots.size)).sum ≤ 0
      rw [List.drop_eq_nil_of_le (Nat.le_of_eq Array.length_toList)]
      exact Nat.le_refl _
/-- 'throw new E()': new; dup; invokespecial; athrow -/
theorem vx_throw0 {cc : ByteArray} {pc : Nat} (hexec : p.tables.exec = Jvm.exec) (hb : c.code = cc) (hl : l.stackTraces = false) {own cls : String} {names : List String} {ik ic mc ms : Nat} {A : Nat → Prop}
    (hown : s.vm.findClass own = some m.cls) (hcls : Bundle.fit cls = true) (hnames : ∀ n ∈ names, Bundle.fit n = true)
    (hk : (Cond.classLink own ik cls).before args s = true) (hini : (Cond.initialized cls).before args s = true) (hat : ∀ w ∈ vx_at0 own ic cls names, w.before args s = true)
    (hgood : ∀ w ∈ Cond.classLink own ik cls :: Cond.initialized cls :: vx_at0 own ic cls names, vx_ot w = true)
    (hU : vx_Zq Bundle.tN "UNASSIGNED_STACK" Bundle.steD A s s.heap) (hN : vx_Zq Bundle.tN "SUPPRESSED_SENTINEL" Bundle.listD A s s.heap) (hS : va_S A s.heap H locs) (hsize : ls.size = c.maxLocals)
    (d0 : decode cc pc = .ok (.new ik, 3)) (d3 : decode cc (pc + 3) = .ok (.dup, 1)) (d4 : decode cc (pc + 4) = .ok (.invokespecial ic, 3)) (d7 : decode cc (pc + 7) = .ok (.athrow, 1))
    (hout : ∀ x ∈ c.exceptionTable.toList, covers x (pc + 7) = false)
    (hRframes : names.length + 3 < R.frames) (hRlocals : (rest.map fun v => v.category).sum + (13 * (names.length + 1) + 42) ≤ R.locals) (hRcells : cells + 1 ≤ R.cells) (hRslots : slots + 6 ≤ R.slots) (hlocks : meth.locks = false)
    (hx : ∀ t : State, s.vm.Alike t.vm → H.size ≤ t.heap.size → (∀ q : Nat, q < H.size → t.heap[q]? = H[q]?) → XC cls s t)
    (hf : ∀ z ∈ locs, free z.base) (hc : cells + 1 ≤ mc) (hs : slots + 6 ≤ ms) :
    W p l e R s m args below meth c H locs cells slots (vx_MQ below Qc XC args s mc ms free) (F0 m pc ls rest) := by
  intro T hT X
  have htr : e.platform.stackTraces = false := (show e.platform.stackTraces = l.stackTraces by rw [X.admits.platform]).trans hl
  have Y := vx_rebase X (R' := { frames := R.frames, locals := R.locals, cells := 1, slots := 6 }) (Nat.le_refl _) (Nat.le_refl _) hRcells hRslots
  obtain ⟨s', hA⟩ : ∃ z, z = (T.setVm s.vm).setFrames (.invoking m args :: below) := ⟨_, rfl⟩
  rw [← hA] at Y
  have hvm : s'.vm = s.vm := by rw [hA]; rfl
  have hhp : s'.heap = H := by rw [hA]; exact hT
  have hW0 : s.WarmedH s'.vm := by rw [hvm]; exact State.WarmedH.refl s
  have hat' : ∀ w ∈ vx_at0 own ic cls names, w.before args s' = true := fun w hw => vx_ot_at hW0 hvm.symm (hgood w (List.mem_cons_of_mem _ (List.mem_cons_of_mem _ hw))) (hat w hw)
  have hk' : (Cond.classLink own ik cls).before args s' = true := vx_ot_at hW0 hvm.symm (hgood _ List.mem_cons_self) hk
  have hini' : (Cond.initialized cls).before args s' = true := vx_ot_at hW0 hvm.symm (hgood _ (List.mem_cons_of_mem _ List.mem_cons_self)) hini
  have hU' : vx_Zq Bundle.tN "UNASSIGNED_STACK" Bundle.steD A s' s'.heap := by rw [hhp]; exact vx_Zq.moved hW0.alike (hU.kept hS.2.1)
  have hN' : vx_Zq Bundle.tN "SUPPRESSED_SENTINEL" Bundle.listD A s' s'.heap := by rw [hhp]; exact vx_Zq.moved hW0.alike (hN.kept hS.2.1)
  have h : ∀ w ∈ Bundle.ownAtoms0 own ic cls names, w.before args s' = true := vx_own hat' (vx_isRefq hU'.1) (vx_isRefq hN'.1) hU'.2.word hN'.2.word
  have hown' : s'.vm.findClass own = some m.cls := by rw [hvm]; exact hown
  have hins : (Cond.instantiable cls 6).before args s' = true := h _ (by simp [Bundle.ownAtoms0])
  obtain ⟨vm₁, cX, kX, hfX, hkX, -, -, X₁, st1⟩ := Y.newCold hexec (own := own) (C := cls) (index := ik) (n := 6) hown' hk' hins hini'
    (g := F0 m pc ls rest) rfl (by rw [hb]; exact d0) (Nat.le_refl _) (Nat.le_refl _)
  generalize hT1 : (T.setVm vm₁).pushCell { cls := cX, slots := kX.instanceTypes.map defaultValue, vm := .none } = T1 at X₁ st1
  have hcat : (Value.ref T.heap.size).category = 1 := rfl
  have hcellA : T1.heap[T.heap.size]? = some (freshCell cX kX) := by rw [← hT1]; exact State.heap_pushCell_size _ _
  have d3' : decode c.code (pc + 3) = .ok (.dup, 1) := by rw [hb]; exact d3
  obtain ⟨U, hsteps, hrun, hend, hW, hsame, ce, hce, hO⟩ := X₁.ctorThrow0 hexec htr (own := own) (cls := cls) (names := names) (ic := ic) hown' hcls hnames h (fun x hx => nomatch hx) hfX hkX hcellA (by rw [hhp, hT]; exact Nat.le_refl _)
    (g := { method := m, pc := pc + 4, locals := ls, stack := .ref T.heap.size :: .ref T.heap.size :: rest, locked := none }) rfl hsize rfl rfl (rest := rest) rfl
    (by rw [hb]; exact d4) (by rw [hb]; exact d7) hout hRframes (by simp only [List.map_cons, List.sum_cons, hcat]; omega) hlocks
  obtain ⟨f1, f2⟩ := vx_frame hsame
  rw [hhp] at f1 f2
  have hWs : s.WarmedH U.vm := State.WarmedH.trans hW0 hW
  have hcl : s.vm.findClass cls = some ce.cls := by
    have h9 := hO.cls
    rw [hvm] at h9
    exact h9
  have hall : s.sameButNew ({ U with vm := s.vm } : State) locs mc ms := by
    subst hA
    obtain ⟨e1, e2⟩ := hsame
    rw [State.setFrames_setFrames] at e1
    have h2 : (T.setVm s.vm).sameButNew ({ U with vm := s.vm } : State) [] (0 + 1) (0 + 6) := ⟨e1, e2⟩
    have h3 := X.same.trans h2
    rw [List.append_nil] at h3
    exact h3.mono hc hs
  refine ⟨U, ?_, .threw T.heap.size, hrun, hend, Or.inr ⟨T.heap.size, rfl, cls, ce, locs, hx U hWs.alike f1 (fun q hq => f2 q hq (fun z hz => nomatch hz)), hce, hO.vm, hcl, hWs, hall, hf⟩⟩
  refine st1 _ ?_
  show Steps p.tables e below (T1.setTop { method := m, pc := pc + 3, locals := ls, stack := .ref T.heap.size :: rest, locked := none }) _
  jvm_step X₁.here [X₁.here.top, hexec, d3', Value.category]
  exact hsteps
/-- 'throw new E("text")': new; dup; ldc; invokespecial; athrow -/
theorem vx_throwS {cc : ByteArray} {pc : Nat} (hexec : p.tables.exec = Jvm.exec) (hb : c.code = cc) (hl : l.stackTraces = false) {own cls text : String} {names : List String} {ik is ic mc ms sa : Nat} {A : Nat → Prop}
    (hown : s.vm.findClass own = some m.cls) (hcls : Bundle.fit cls = true) (hnames : ∀ n ∈ names, Bundle.fit n = true)
    (hk : (Cond.classLink own ik cls).before args s = true) (hini : (Cond.initialized cls).before args s = true) (hstr : vk_R own is text sa s) (hat : ∀ w ∈ vx_atS own ic cls names, w.before args s = true)
    (hgood : ∀ w ∈ Cond.classLink own ik cls :: Cond.initialized cls :: vx_atS own ic cls names, vx_ot w = true)
    (hU : vx_Zq Bundle.tN "UNASSIGNED_STACK" Bundle.steD A s s.heap) (hN : vx_Zq Bundle.tN "SUPPRESSED_SENTINEL" Bundle.listD A s s.heap) (hS : va_S A s.heap H locs) (hsize : ls.size = c.maxLocals)
    (d0 : decode cc pc = .ok (.new ik, 3)) (d3 : decode cc (pc + 3) = .ok (.dup, 1)) (d4 : decode cc (pc + 4) = .ok (.ldc is, 2)) (d6 : decode cc (pc + 6) = .ok (.invokespecial ic, 3)) (d9 : decode cc (pc + 9) = .ok (.athrow, 1))
    (hout : ∀ x ∈ c.exceptionTable.toList, covers x (pc + 9) = false)
    (hRframes : names.length + 3 < R.frames) (hRlocals : (rest.map fun v => v.category).sum + (13 * (names.length + 1) + 43) ≤ R.locals) (hRcells : cells + 1 ≤ R.cells) (hRslots : slots + 6 ≤ R.slots) (hlocks : meth.locks = false)
    (hx : ∀ t : State, s.vm.Alike t.vm → H.size ≤ t.heap.size → (∀ q : Nat, q < H.size → t.heap[q]? = H[q]?) → XC cls s t)
    (hf : ∀ z ∈ locs, free z.base) (hc : cells + 1 ≤ mc) (hs : slots + 6 ≤ ms) :
    W p l e R s m args below meth c H locs cells slots (vx_MQ below Qc XC args s mc ms free) (F0 m pc ls rest) := by
  intro T hT X
  have htr : e.platform.stackTraces = false := (show e.platform.stackTraces = l.stackTraces by rw [X.admits.platform]).trans hl
  have Y := vx_rebase X (R' := { frames := R.frames, locals := R.locals, cells := 1, slots := 6 }) (Nat.le_refl _) (Nat.le_refl _) hRcells hRslots
  obtain ⟨s', hA⟩ : ∃ z, z = (T.setVm s.vm).setFrames (.invoking m args :: below) := ⟨_, rfl⟩
  rw [← hA] at Y
  have hvm : s'.vm = s.vm := by rw [hA]; rfl
  have hhp : s'.heap = H := by rw [hA]; exact hT
  have hW0 : s.WarmedH s'.vm := by rw [hvm]; exact State.WarmedH.refl s
  have hat' : ∀ w ∈ vx_atS own ic cls names, w.before args s' = true := fun w hw => vx_ot_at hW0 hvm.symm (hgood w (List.mem_cons_of_mem _ (List.mem_cons_of_mem _ hw))) (hat w hw)
  have hk' : (Cond.classLink own ik cls).before args s' = true := vx_ot_at hW0 hvm.symm (hgood _ List.mem_cons_self) hk
  have hini' : (Cond.initialized cls).before args s' = true := vx_ot_at hW0 hvm.symm (hgood _ (List.mem_cons_of_mem _ List.mem_cons_self)) hini
  have hU' : vx_Zq Bundle.tN "UNASSIGNED_STACK" Bundle.steD A s' s'.heap := by rw [hhp]; exact vx_Zq.moved hW0.alike (hU.kept hS.2.1)
  have hN' : vx_Zq Bundle.tN "SUPPRESSED_SENTINEL" Bundle.listD A s' s'.heap := by rw [hhp]; exact vx_Zq.moved hW0.alike (hN.kept hS.2.1)
  have h : ∀ w ∈ Bundle.ownAtoms own ic cls names, w.before args s' = true := vx_own hat' (vx_isRefq hU'.1) (vx_isRefq hN'.1) hU'.2.word hN'.2.word
  have hown' : s'.vm.findClass own = some m.cls := by rw [hvm]; exact hown
  have hins : (Cond.instantiable cls 6).before args s' = true := h _ (by simp [Bundle.ownAtoms])
  obtain ⟨vm₁, cX, kX, hfX, hkX, -, -, X₁, st1⟩ := Y.newCold hexec (own := own) (C := cls) (index := ik) (n := 6) hown' hk' hins hini'
    (g := F0 m pc ls rest) rfl (by rw [hb]; exact d0) (Nat.le_refl _) (Nat.le_refl _)
  generalize hT1 : (T.setVm vm₁).pushCell { cls := cX, slots := kX.instanceTypes.map defaultValue, vm := .none } = T1 at X₁ st1
  have hcat : (Value.ref T.heap.size).category = 1 := rfl
  have hcellA : T1.heap[T.heap.size]? = some (freshCell cX kX) := by rw [← hT1]; exact State.heap_pushCell_size _ _
  have d3' : decode c.code (pc + 3) = .ok (.dup, 1) := by rw [hb]; exact d3
  have d4' : decode c.code (pc + 4) = .ok (.ldc is, 2) := by rw [hb]; exact d4
  have hstr' : vk_R own is text sa s' := vk_R.warm hW0 hstr
  obtain ⟨U, hsteps, hrun, hend, hW, hsame, ce, hce, hO⟩ := X₁.ctorThrowS hexec htr (own := own) (cls := cls) (names := names) (ic := ic) hown' hcls hnames h (fun x hx => nomatch hx) hfX hkX hcellA (by rw [hhp, hT]; exact Nat.le_refl _) (msg := .ref sa) rfl
    (g := { method := m, pc := pc + 6, locals := ls, stack := .ref sa :: .ref T.heap.size :: .ref T.heap.size :: rest, locked := none }) rfl hsize rfl rfl (rest := rest) rfl
    (by rw [hb]; exact d6) (by rw [hb]; exact d9) hout hRframes (by simp only [List.map_cons, List.sum_cons, hcat]; omega) hlocks
  obtain ⟨f1, f2⟩ := vx_frame hsame
  rw [hhp] at f1 f2
  have hWs : s.WarmedH U.vm := State.WarmedH.trans hW0 hW
  have hcl : s.vm.findClass cls = some ce.cls := by
    have h9 := hO.cls
    rw [hvm] at h9
    exact h9
  have hall : s.sameButNew ({ U with vm := s.vm } : State) locs mc ms := by
    subst hA
    obtain ⟨e1, e2⟩ := hsame
    rw [State.setFrames_setFrames] at e1
    have h2 : (T.setVm s.vm).sameButNew ({ U with vm := s.vm } : State) [] (0 + 1) (0 + 6) := ⟨e1, e2⟩
    have h3 := X.same.trans h2
    rw [List.append_nil] at h3
    exact h3.mono hc hs
  refine ⟨U, ?_, .threw T.heap.size, hrun, hend, Or.inr ⟨T.heap.size, rfl, cls, ce, locs, hx U hWs.alike f1 (fun q hq => f2 q hq (fun z hz => nomatch hz)), hce, hO.vm, hcl, hWs, hall, hf⟩⟩
  refine st1 _ ?_
  show Steps p.tables e below (T1.setTop { method := m, pc := pc + 3, locals := ls, stack := .ref T.heap.size :: rest, locked := none }) _
  jvm_step X₁.here [X₁.here.top, hexec, d3', Value.category]
  exact X₁.ldcString hexec (own := own) (text := text) (index := is) (a := sa) hown' hstr'.1 hstr'.2
    (g := { method := m, pc := pc + 4, locals := ls, stack := .ref T.heap.size :: .ref T.heap.size :: rest, locked := none }) rfl d4' _ hsteps
/-- 'throw new E("text")', the text by a wide index -/
theorem vx_throwSW {cc : ByteArray} {pc : Nat} (hexec : p.tables.exec = Jvm.exec) (hb : c.code = cc) (hl : l.stackTraces = false) {own cls text : String} {names : List String} {ik is ic mc ms sa : Nat} {A : Nat → Prop}
    (hown : s.vm.findClass own = some m.cls) (hcls : Bundle.fit cls = true) (hnames : ∀ n ∈ names, Bundle.fit n = true)
    (hk : (Cond.classLink own ik cls).before args s = true) (hini : (Cond.initialized cls).before args s = true) (hstr : vk_R own is text sa s) (hat : ∀ w ∈ vx_atS own ic cls names, w.before args s = true)
    (hgood : ∀ w ∈ Cond.classLink own ik cls :: Cond.initialized cls :: vx_atS own ic cls names, vx_ot w = true)
    (hU : vx_Zq Bundle.tN "UNASSIGNED_STACK" Bundle.steD A s s.heap) (hN : vx_Zq Bundle.tN "SUPPRESSED_SENTINEL" Bundle.listD A s s.heap) (hS : va_S A s.heap H locs) (hsize : ls.size = c.maxLocals)
    (d0 : decode cc pc = .ok (.new ik, 3)) (d3 : decode cc (pc + 3) = .ok (.dup, 1)) (d4 : decode cc (pc + 4) = .ok (.ldc_w is, 3)) (d7 : decode cc (pc + 7) = .ok (.invokespecial ic, 3)) (d10 : decode cc (pc + 10) = .ok (.athrow, 1))
    (hout : ∀ x ∈ c.exceptionTable.toList, covers x (pc + 10) = false)
    (hRframes : names.length + 3 < R.frames) (hRlocals : (rest.map fun v => v.category).sum + (13 * (names.length + 1) + 43) ≤ R.locals) (hRcells : cells + 1 ≤ R.cells) (hRslots : slots + 6 ≤ R.slots) (hlocks : meth.locks = false)
    (hx : ∀ t : State, s.vm.Alike t.vm → H.size ≤ t.heap.size → (∀ q : Nat, q < H.size → t.heap[q]? = H[q]?) → XC cls s t)
    (hf : ∀ z ∈ locs, free z.base) (hc : cells + 1 ≤ mc) (hs : slots + 6 ≤ ms) :
    W p l e R s m args below meth c H locs cells slots (vx_MQ below Qc XC args s mc ms free) (F0 m pc ls rest) := by
  intro T hT X
  have htr : e.platform.stackTraces = false := (show e.platform.stackTraces = l.stackTraces by rw [X.admits.platform]).trans hl
  have Y := vx_rebase X (R' := { frames := R.frames, locals := R.locals, cells := 1, slots := 6 }) (Nat.le_refl _) (Nat.le_refl _) hRcells hRslots
  obtain ⟨s', hA⟩ : ∃ z, z = (T.setVm s.vm).setFrames (.invoking m args :: below) := ⟨_, rfl⟩
  rw [← hA] at Y
  have hvm : s'.vm = s.vm := by rw [hA]; rfl
  have hhp : s'.heap = H := by rw [hA]; exact hT
  have hW0 : s.WarmedH s'.vm := by rw [hvm]; exact State.WarmedH.refl s
  have hat' : ∀ w ∈ vx_atS own ic cls names, w.before args s' = true := fun w hw => vx_ot_at hW0 hvm.symm (hgood w (List.mem_cons_of_mem _ (List.mem_cons_of_mem _ hw))) (hat w hw)
  have hk' : (Cond.classLink own ik cls).before args s' = true := vx_ot_at hW0 hvm.symm (hgood _ List.mem_cons_self) hk
  have hini' : (Cond.initialized cls).before args s' = true := vx_ot_at hW0 hvm.symm (hgood _ (List.mem_cons_of_mem _ List.mem_cons_self)) hini
  have hU' : vx_Zq Bundle.tN "UNASSIGNED_STACK" Bundle.steD A s' s'.heap := by rw [hhp]; exact vx_Zq.moved hW0.alike (hU.kept hS.2.1)
  have hN' : vx_Zq Bundle.tN "SUPPRESSED_SENTINEL" Bundle.listD A s' s'.heap := by rw [hhp]; exact vx_Zq.moved hW0.alike (hN.kept hS.2.1)
  have h : ∀ w ∈ Bundle.ownAtoms own ic cls names, w.before args s' = true := vx_own hat' (vx_isRefq hU'.1) (vx_isRefq hN'.1) hU'.2.word hN'.2.word
  have hown' : s'.vm.findClass own = some m.cls := by rw [hvm]; exact hown
  have hins : (Cond.instantiable cls 6).before args s' = true := h _ (by simp [Bundle.ownAtoms])
  obtain ⟨vm₁, cX, kX, hfX, hkX, -, -, X₁, st1⟩ := Y.newCold hexec (own := own) (C := cls) (index := ik) (n := 6) hown' hk' hins hini'
    (g := F0 m pc ls rest) rfl (by rw [hb]; exact d0) (Nat.le_refl _) (Nat.le_refl _)
  generalize hT1 : (T.setVm vm₁).pushCell { cls := cX, slots := kX.instanceTypes.map defaultValue, vm := .none } = T1 at X₁ st1
  have hcat : (Value.ref T.heap.size).category = 1 := rfl
  have hcellA : T1.heap[T.heap.size]? = some (freshCell cX kX) := by rw [← hT1]; exact State.heap_pushCell_size _ _
  have d3' : decode c.code (pc + 3) = .ok (.dup, 1) := by rw [hb]; exact d3
  have d4' : decode c.code (pc + 4) = .ok (.ldc_w is, 3) := by rw [hb]; exact d4
  have hstr' : vk_R own is text sa s' := vk_R.warm hW0 hstr
  obtain ⟨U, hsteps, hrun, hend, hW, hsame, ce, hce, hO⟩ := X₁.ctorThrowS hexec htr (own := own) (cls := cls) (names := names) (ic := ic) hown' hcls hnames h (fun x hx => nomatch hx) hfX hkX hcellA (by rw [hhp, hT]; exact Nat.le_refl _) (msg := .ref sa) rfl
    (g := { method := m, pc := pc + 7, locals := ls, stack := .ref sa :: .ref T.heap.size :: .ref T.heap.size :: rest, locked := none }) rfl hsize rfl rfl (rest := rest) rfl
    (by rw [hb]; exact d7) (by rw [hb]; exact d10) hout hRframes (by simp only [List.map_cons, List.sum_cons, hcat]; omega) hlocks
  obtain ⟨f1, f2⟩ := vx_frame hsame
  rw [hhp] at f1 f2
  have hWs : s.WarmedH U.vm := State.WarmedH.trans hW0 hW
  have hcl : s.vm.findClass cls = some ce.cls := by
    have h9 := hO.cls
    rw [hvm] at h9
    exact h9
  have hall : s.sameButNew ({ U with vm := s.vm } : State) locs mc ms := by
    subst hA
    obtain ⟨e1, e2⟩ := hsame
    rw [State.setFrames_setFrames] at e1
    have h2 : (T.setVm s.vm).sameButNew ({ U with vm := s.vm } : State) [] (0 + 1) (0 + 6) := ⟨e1, e2⟩
    have h3 := X.same.trans h2
    rw [List.append_nil] at h3
    exact h3.mono hc hs
  refine ⟨U, ?_, .threw T.heap.size, hrun, hend, Or.inr ⟨T.heap.size, rfl, cls, ce, locs, hx U hWs.alike f1 (fun q hq => f2 q hq (fun z hz => nomatch hz)), hce, hO.vm, hcl, hWs, hall, hf⟩⟩
  refine st1 _ ?_
  show Steps p.tables e below (T1.setTop { method := m, pc := pc + 3, locals := ls, stack := .ref T.heap.size :: rest, locked := none }) _
  jvm_step X₁.here [X₁.here.top, hexec, d3', Value.category]
  exact X₁.ldcStringW hexec (own := own) (text := text) (index := is) (a := sa) hown' hstr'.1 hstr'.2
    (g := { method := m, pc := pc + 4, locals := ls, stack := .ref T.heap.size :: .ref T.heap.size :: rest, locked := none }) rfl d4' _ hsteps
end Ends
section Bodies
variable {l : Launch}
theorem vx_ofW {y : MethodName} {ws ws' : List Cond} {rm : Room} {Pc : Array Value → State → Prop} {Qc : Array Value → State → Outcome → State → Prop} {XC : String → State → State → Prop} {mc ms : Nat} {free : Addr → Prop} {cc : ByteArray} {maxL : Nat} {ret : Option FieldType}
    (hy : plainName y.cls = true) (hw : ws = Cond.code y cc maxL ret :: ws')
    (body : ∀ p e s m args below meth c s₁, BodyLoose p l y (headSpec ws rm) cc maxL ret e s m args below meth c s₁ → c.maxLocals = maxL → (∀ x ∈ c.exceptionTable.toList, False) → Pc args s →
      W p l e (headSpec ws rm).room s m args below meth c s.heap [] 0 0 (vx_MQ below Qc XC args s mc ms free) (entryFrame m args maxL)) : vx_Met l y ws rm Pc Qc XC mc ms free := by
  refine MetFree.of_bodyS (code := cc) (maxLocals := maxL) (ret := ret) hy ?_ ?_
  · intro args s m h hn
    obtain ⟨meth, c, h1, h2, h3, h4, h5, h6, -, -⟩ := Cond.code_spec hn (atoms_spec (ws := ws) h _ (by rw [hw]; exact List.mem_cons_self))
    exact ⟨meth, c, h1, h2, h3, h4, h5, h6⟩
  · intro p e s m args below meth c s₁ B hml hP _
    have hh0 : s₁.heap = s.heap := by rw [B.state]; rfl
    have ht : ∀ x ∈ c.exceptionTable.toList, False := by
      obtain ⟨meth9, c9, h1, h2, -, -, -, -, h7, -⟩ := Cond.code_spec B.named (atoms_spec (ws := ws) B.pre _ (by rw [hw]; exact List.mem_cons_self))
      cases Option.some.inj (h1.symm.trans B.method)
      cases Option.some.inj (h2.symm.trans (Stand.of_body B).code)
      intro x hx
      rw [Array.isEmpty_iff.mp h7] at hx
      cases hx
    obtain ⟨t, a1, o, b1, b2, b3⟩ := body p e s m args below meth c s₁ B hml ht hP s₁ hh0 (Stand.of_body B)
    exact ⟨t, o, a1, b1, b2, b3⟩
/-- the table of a body with handlers -/
theorem vx_table {p : Program} {x y : MethodName} {S : Spec} {cc bytes : ByteArray} {maxL maxL' : Nat} {ret ret' : Option FieldType} {e : Env} {s s₁ : State} {m : MethodId} {args : Array Value} {below : List Frame} {meth : Method} {c : Code} {hh : List (Nat × Nat × Nat × Nat)}
    (B : BodyLoose p l y S cc maxL ret e s m args below meth c s₁) (h : (Cond.codeWith y bytes maxL' ret' hh).before args s = true) : c.exceptionTable.toList = tableOf hh := by
  obtain ⟨m9, meth9, c9, hn9, h1, h2, -, -, h6, -⟩ := Cond.codeWith_spec h
  cases Option.some.inj (hn9.symm.trans B.named)
  cases Option.some.inj (h1.symm.trans B.method)
  cases Option.some.inj (h2.symm.trans (Stand.of_body B).code)
  rw [← h6, table_eq]
end Bodies
end VXA
/-! ===== END ===== -/
/-! ===== BEGIN a static call of a method with an exception table ===== -/
section VXS
variable {p : Program} {l : Launch} {e : Env} {R : Room} {s : State} {m : MethodId} {args : Array Value} {below : List Frame} {meth : Method} {c : Code} {T : State} {H : Heap} {locs : List Loc} {cells slots : Nat}
abbrev vx_CSW (R : Room) (s : State) (args : Array Value) (own : String) (index : Nat) (y : MethodName) (bytes : ByteArray) (maxL : Nat) (ret : Option FieldType) (hh : List (Nat × Nat × Nat × Nat)) (ws : List Cond) (rm : Room) (mc ms n : Nat) : Prop :=
  (rm.cells = mc ∧ rm.slots = ms ∧ rm.frames + 1 ≤ R.frames ∧ 8 + (maxL + 11) + rm.locals ≤ R.locals ∧ (∀ w ∈ ws, ∀ (a' : Array Value) (U : State), s.WarmedH U.vm → w.before a' U = true) ∧ Cond.codeWith y bytes maxL ret hh ∈ ws) ∧
  (Cond.codeWith y bytes maxL ret hh).before args s = true ∧ (Cond.initialized y.cls).before args s = true ∧ (y.cls ≠ "java/lang/invoke/MethodHandle" ∧ y.cls ≠ "java/lang/invoke/VarHandle") ∧
  (∀ sig, parseMethodDescriptor y.desc = some sig → n = sig.parameters.length) ∧ (Cond.methodLink own index y).before args s = true ∧ (Cond.static y).before args s = true
theorem vx_cwSW {own : String} {index maxL mc ms : Nat} {y : MethodName} {bytes : ByteArray} {ret : Option FieldType} {hh : List (Nat × Nat × Nat × Nat)} {Ts ws ws' : List Cond} {rm : Room} (n : Nat) (ht : ∀ w ∈ Ts, w.before args s = true) (hT : GoodIn Ts (va_wsS own index y ws)) (hw : ws = Cond.codeWith y bytes maxL ret hh :: ws') (hrc : rm.cells = mc) (hrs : rm.slots = ms)
    (hd : y.cls ≠ "java/lang/invoke/MethodHandle" ∧ y.cls ≠ "java/lang/invoke/VarHandle" ∧ (parseMethodDescriptor y.desc).map (fun d => d.parameters.length) = some n) (hR : rm.frames + 1 ≤ R.frames ∧ 8 + (maxL + 11) + rm.locals ≤ R.locals) :
    vx_CSW R s args own index y bytes maxL ret hh ws rm mc ms n := by
  have ok : ∀ w ∈ va_wsS own index y ws, w.before args s = true := fun w h => ht w (hT w h).1
  have hG : GoodIn Ts ws := fun w h => hT w (by unfold va_wsS; exact List.mem_append_right _ h)
  have hc : Cond.codeWith y bytes maxL ret hh ∈ ws := by rw [hw]; exact List.mem_cons_self
  refine ⟨⟨hrc, hrs, hR.1, hR.2, pay_in ht hG, hc⟩, ht _ (hG _ hc).1, ok _ (by simp [va_wsS]), ⟨hd.1, hd.2.1⟩, fun sig h => ?_, ok _ (by simp [va_wsS]), ok _ (by simp [va_wsS])⟩
  have h2 := hd.2.2
  rw [h] at h2
  exact (Option.some.inj h2).symm
theorem vx_callSW (X : Stand p l e R s m args below meth c T locs cells slots) (hexec : p.tables.exec = Jvm.exec) {own : String} {index : Nat} {y : MethodName} {bytes : ByteArray} {maxL : Nat} {ret : Option FieldType} {hh : List (Nat × Nat × Nat × Nat)}
    (hown : s.vm.findClass own = some m.cls) (hlink : (Cond.methodLink own index y).before args s = true) (hstat : (Cond.static y).before args s = true) (hinit : (Cond.initialized y.cls).before args s = true)
    (hcode : (Cond.codeWith y bytes maxL ret hh).before args s = true) (hy : y.cls ≠ "java/lang/invoke/MethodHandle" ∧ y.cls ≠ "java/lang/invoke/VarHandle")
    {W9 : Nat} {Pre : Pt → Array Value → Prop} {Post : Pt → Array Value → Option Value → Pt → Prop} (hK : Back l R p e below s args y 3 W9 Pre Post)
    {g : JFrame} (hg : g.method = m) (hsize : g.locals.size = c.maxLocals) {argsL rest : List Value} (hlen : ∀ sig, parseMethodDescriptor y.desc = some sig → argsL.length = sig.parameters.length)
    (hstack : g.stack = argsL.reverse ++ rest) (hW : 2 * g.monitorRoom + (rest.map fun v => v.category).sum ≤ W9) (hdg : decode c.code g.pc = .ok (.invokestatic index, 3))
    (hpre : ∀ vm₁, s.WarmedH vm₁ → Pre ⟨T.setVm vm₁, locs, cells, slots⟩ argsL.toArray) :
    ∃ (v : Option Value) (vm₁ : Vm) (B : Pt), s.WarmedH vm₁ ∧ Stand p l e R s m args below meth c B.U B.locs B.cells B.slots ∧ Post ⟨T.setVm vm₁, locs, cells, slots⟩ argsL.toArray v B ∧
      ∀ target, Steps p.tables e below (B.U.setTop { g with pc := g.pc + 3, stack := v.toList ++ rest }) target → Steps p.tables e below (T.setTop g) target := by
  obtain ⟨mk, methM, cM, hnamed, hmethM, -, -, -, -, -, -, hsigM⟩ := Cond.codeWith_spec hcode
  have hstatic : methM.isStatic = true := Cond.static_spec hnamed hmethM hstat
  obtain ⟨kP, hkP, -⟩ := className_of_methodNamed hnamed
  have hinitP : kP.init = .initialized := Cond.initialized_spec (findClass_of_methodNamed hnamed) hkP hinit
  obtain ⟨vm₁, X₁, hstep₁⟩ := X.invokestatic hexec hown hlink hnamed hmethM hstatic hkP hinitP hy (g := g) hg (argsL := argsL) (rest := rest) (hlen _ hsigM) hstack hdg
  obtain ⟨v, B, X', hpost, hsteps⟩ := hK m meth c ⟨T.setVm vm₁, locs, cells, slots⟩ { g with stack := rest } (.invokestatic index) mk argsL.toArray X₁ hg hsize hdg hW (X₁.named hnamed) (hpre vm₁ X₁.warmed)
  exact ⟨v, vm₁, B, X₁.warmed, X', hpost, fun target h => hstep₁ _ fun acts => by rw [doInvoke_state]; exact hsteps.trans h⟩
theorem vx_runSW {y : MethodName} {bytes cc : ByteArray} {maxL nL mc ms n index : Nat} {ret : Option FieldType} {hh : List (Nat × Nat × Nat × Nat)} {ws : List Cond} {rm : Room} {Pc : Array Value → State → Prop} {Qc : Array Value → State → Outcome → State → Prop} {free : Addr → Prop} {Ts : List Cond} {own : String} {As rest : List Value} {g : JFrame}
    (S : CallFix p m c cc nL s args Ts own) (hM : Met l y ws rm Pc Qc mc ms free) (cw : vx_CSW R s args own index y bytes maxL ret hh ws rm mc ms n) (hp : PreS s H Pc As)
    (hg : g.method = m) (hn : As.length = n) (hsize : g.locals.size = nL) (hstack : g.stack = As.reverse ++ rest) (hW : 2 * g.monitorRoom + (rest.map fun v => v.category).sum ≤ 8) (hdg : decode cc g.pc = .ok (.invokestatic index, 3)) (hf : cells + mc ≤ R.cells ∧ slots + ms ≤ R.slots) :
    va_Run p l e R s m args below meth c H locs cells slots mc ms g rest (Qc As.toArray) (free) := by
  obtain ⟨⟨hrc, hrs, hfr, hlo, hws, hcw⟩, hcode, hini, hy, hlen, hl, hstt⟩ := cw
  have hK : Back l R p e below s args y 3 8 (PreOf R mc ms Pc) (PostOf Qc mc ms free) := va_backW (hh := hh) (bytes := bytes) (maxL := maxL) (ret := ret) hM hp.1 hrc hrs hfr hlo hws hcw (fun a' U hW => word_at hW (Or.inl (by first | rfl | simp [Cond.onTables, Cond.keeps, Cond.steady])) hini)
  obtain ⟨hx, hb, hml, ho, -⟩ := S
  intro T hT X
  obtain ⟨v, vm₁, ⟨U', l2, c2, s2⟩, hW₁, X', ⟨g', mk, t, L, e1, e2, hq, h1, hL, h2, h3⟩, st⟩ := vx_callSW X hx (hh := hh) (bytes := bytes) (maxL := maxL) (ret := ret) ho hl hstt hini hcode hy hK hg (hsize.trans hml.symm) (argsL := As) (rest := rest) (fun sig h => hn.trans (hlen sig h)) hstack hW (by rw [hb]; exact hdg)
    (fun vm₁ hW₁ => ⟨hf.1, hf.2, hp.2 (T.setVm vm₁) hT hW₁⟩)
  dsimp only [Pt.U, Pt.locs, Pt.cells, Pt.slots] at X' e1 e2 h1 h2 h3 st
  subst h1; subst h2; subst h3
  exact ⟨v, (T.setVm vm₁).calling g' mk As.toArray, t, U', L, hT, X', hL, e1, e2, hq, st⟩
/-- not caught here, past rows that name other classes: it goes on to the caller -/
theorem vx_outP {p : Program} {l : Launch} {e : Env} {R : Room} {s : State} {m : MethodId} {args : Array Value} {below : List Frame} {meth : Method} {c : Code} {H : Heap} {locs : List Loc} {cells slots : Nat} {free : Addr → Prop} {ls : Array Slot} {rest : List Value} {Qc : Array Value → State → Outcome → State → Prop} {XC : String → State → State → Prop}
    {pc : Nat} {own E : String} {ce : Cell} {q : Addr} {mc ms : Nat} (hown : s.vm.findClass own = some m.cls) (hlocks : meth.locks = false)
    (hpass : ∀ z ∈ c.exceptionTable.toList, covers z pc = false ∨ (z.catchType ≠ 0 ∧ ∃ nm : String, (Cond.classLink own z.catchType nm).before args s = true ∧ va_Nc E nm s)) (hcell : H[q]? = some ce) (hv : ce.vm = .none) (hcl : s.vm.findClass E = some ce.cls)
    (hx : ∀ t : State, t.heap = H → s.vm.Alike t.vm → XC E s t) (hf : ∀ z ∈ locs, free z.base) (hc : cells ≤ mc) (hs : slots ≤ ms) :
    vx_W p l e R s m args below meth c H locs cells slots (vx_MQ below Qc XC args s mc ms free) (F0 m pc ls rest) q := by
  intro T hT X
  have hpl : e.platform.magicAccessors = ({} : Platform).magicAccessors := by rw [X.admits.platform]
  obtain ⟨vm', hW', X', st⟩ := X.outThrough hlocks q (g := F0 m pc ls rest) rfl rfl rfl (cell := ce) (by rw [hT]; exact hcell) (by rw [hv]; rfl)
    (by obtain ⟨k9, h9, -⟩ := Vm.findClass_spec hcl; exact ⟨k9, h9⟩) (fun z hz => by
      rcases hpass z hz with h | ⟨hz0, nm, hl1, hn1⟩
      · exact Or.inl h
      · obtain ⟨c6, hc6, hcl6⟩ := Cond.classLink_spec hown hl1 e.platform hpl
        obtain ⟨a8, b8, h1, h2, h3⟩ := hn1
        cases Option.some.inj (h1.symm.trans hcl)
        cases Option.some.inj (h2.symm.trans hc6)
        exact Or.inr ⟨hz0, _, hcl6, h3⟩)
  obtain ⟨g₀, hfr⟩ := X'.frames_eq
  have hcell9 : ((T.setVm vm').setFrames (.throwing q :: below)).heap[q]? = some ce := by
    show T.heap[q]? = some ce
    rw [hT]; exact hcell
  have hend : Ended ((T.setVm vm').setFrames (.throwing q :: below)) below (.threw q) := State.frames_setFrames _ (State.cur_lt_of_frames hfr)
  refine ⟨(T.setVm vm').setFrames (.throwing q :: below), ?_, .threw q, X'.here.running, hend, Or.inr ⟨q, rfl, E, ce, locs, hx _ hT (X'.ends _).1.alike, hcell9, hv, hcl, (X'.ends _).1, (X'.ends _).2.mono hc hs, hf⟩⟩
  rw [X.pushThrowing_eq]
  exact st
/-- a thing of a world lies in the heap -/
theorem vx_lt {D : va_G} {cl : List vw_C} {ws : va_W} {H1 : Heap} (h : va_P D cl ws H1) {k : Nat} {q : Nat × va_E} (hk : ws[k]? = some q) : q.1 < H1.size := (h k q hk).lt
end VXS
/-! ===== END ===== -/
/-! ===== BEGIN methods with a table of their own: called by a name, returning or throwing ===== -/
section VXH
/-! vx_backW, vx_callVX, vx_callSX, vx_callVW, vx_runVW, vx_runVX, vx_runSX, vx_ofWH follow the same proofs as their sisters above (Free/Laws.lean, Shelf42/LK1.lean); vx_outP calls Shelf42/NT130.lean (outThrough). -/
section
variable {l : Launch} {R : Room} {p : Program} {e : Env} {below : List Frame} {s : State} {sargs : Array Value} {y : MethodName} {len W9 : Nat}
theorem vx_backW {ws : List Cond} {rm : Room} {Pc : Array Value → State → Prop} {Qc : Array Value → State → Outcome → State → Prop} {XC : String → State → State → Prop} {mc ms : Nat} {free : Addr → Prop} {bytes : ByteArray} {maxL : Nat} {ret : Option FieldType} {hh : List (Nat × Nat × Nat × Nat)}
    (hM : vx_Met l y ws rm Pc Qc XC mc ms free) (hblind : FrameBlind Pc) (hrc : rm.cells = mc) (hrs : rm.slots = ms)
    (hframes : rm.frames + 1 ≤ R.frames) (hlocals : W9 + (maxL + 11) + rm.locals ≤ R.locals)
    (hws : ∀ w ∈ ws, ∀ a' U, s.WarmedH U.vm → w.before a' U = true) (hcode : Cond.codeWith y bytes maxL ret hh ∈ ws) (hinit : ∀ a' U, s.WarmedH U.vm → (Cond.initialized y.cls).before a' U = true) :
    vx_Back l R p e below s sargs y len W9 (PreOf R mc ms Pc) (PostOf Qc mc ms free) (vx_Post XC mc ms free) := by
  intro m meth c A g ig mk a X hg hsize hdg hW hn hp
  have h1 : (headSpec ws rm).pre.before a A.U = true := atoms_intro fun w hw => hws w hw _ _ X.warmed
  have h2 : (Cond.codeWith y bytes maxL ret hh).before a A.U = true := hws _ hcode _ _ X.warmed
  have h3 : (Cond.initialized y.cls).before a A.U = true := hinit _ _ X.warmed
  have h4 : A.cells + (headSpec ws rm).room.cells ≤ R.cells := by rw [show (headSpec ws rm).room.cells = mc from hrc]; exact hp.1
  have h5 : A.slots + (headSpec ws rm).room.slots ≤ R.slots := by rw [show (headSpec ws rm).room.slots = ms from hrs]; exact hp.2.1
  have hPc : Pc a (A.U.calling g mk a) := hblind _ _ _ _ hp.2.2
  obtain ⟨U, Ls, c0, s0⟩ := A
  dsimp only [Pt.U, Pt.locs, Pt.cells, Pt.slots] at h1 h2 h3 h4 h5 X hn hPc ⊢
  obtain ⟨m9, methY, cY, hn9, hmY, hcY, -, hlY, -⟩ := Cond.codeWith_spec h2
  cases Option.some.inj (hn9.symm.trans hn)
  obtain ⟨kY, hkY, -⟩ := className_of_methodNamed hn
  have hinitY : kY.init = .initialized := Cond.initialized_spec (findClass_of_methodNamed hn) hkY h3
  have h : At U g.method c below := by rw [hg]; exact X.here
  have hlocals9 : W9 + (maxL + 11) + (headSpec ws rm).room.locals ≤ R.locals := hlocals
  have happ : (headSpec ws rm).appliesLoose y e.platform (U.calling g mk a) = true :=
    Spec.appliesLoose_calling (g := g) h hdg hn hkY hinitY
      (X.room_calling (g := g) (R' := (headSpec ws rm).room) hsize hmY hcY hframes (by rw [hlY]; omega) h4 h5) h1
  obtain ⟨mid, hmid⟩ := h.above
  have hfr : (U.setTop g).frames = (.java g :: mid) ++ below := by rw [State.frames_setTop' g h.top, hmid]; rfl
  obtain ⟨o, s₂, hsteps, -, hend, hq⟩ := Steps.callFree hM p X.admits X.cas X.clock (acts := []) hfr happ hPc trivial
  have hq' : vx_Q Qc XC mc ms free a (U.calling g mk a) o s₂ := hq
  rw [State.frames_setTop' g h.top] at hend
  obtain ⟨g₀, hg0⟩ := Option.isSome_iff_exists.mp h.top
  obtain ⟨r, hr⟩ := State.topJava?_eq_some.mp hg0
  have hr' : (({ U with heap := s₂.heap, slotsUsed := s₂.slotsUsed } : State).setVm s₂.vm).frames = .java g₀ :: r := hr
  rcases hq' with ⟨hqc, L, hfe, hL⟩ | ⟨q, rfl, E, ce, L, hx, hce, hcv, hcl, hW₂, hsm, hL⟩
  · obtain ⟨⟨v, rfl⟩, hW₂, e2, q2, q3, q4, q5, q6⟩ := id hfe
    have e3 : s₂ = ({ (U.calling g mk a).setFrames s₂.frames with heap := s₂.heap, slotsUsed := s₂.slotsUsed } : State).setVm s₂.vm := by
      have : s₂ = ({ s₂ with vm := (U.calling g mk a).vm } : State).setVm s₂.vm := rfl
      rw [e2] at this
      exact this
    obtain ⟨c₂, i₂, len₂, hc₂, hd₂, hf₂⟩ := hend
    have hW' : U.WarmedH s₂.vm := hW₂
    have hcc : c₂ = c := by
      have h1 : s₂.code? g.method = U.code? g.method := by
        rw [State.code?_eq, State.code?_eq, hW'.alike.method?]
      exact Option.some.inj (hc₂.symm.trans (h1.trans h.code))
    subst hcc
    have hlen : len₂ = len := by rw [hdg] at hd₂; cases hd₂; rfl
    subst hlen
    have hs₂ : s₂ = (({ U with heap := s₂.heap, slotsUsed := s₂.slotsUsed } : State).setVm s₂.vm).setTop { g with pc := g.pc + len₂, stack := v.toList ++ g.stack } := by
      refine e3.trans ?_
      rw [hf₂, State.calling_eq h.top, State.setFrames_setFrames, State.setTop_of_frames _ hr', hr]
      rfl
    have hsame : U.sameButNew ({ U with heap := s₂.heap, slotsUsed := s₂.slotsUsed } : State) L mc ms := by
      refine ⟨?_, q2, q3, q4, q5, q6⟩
      obtain ⟨t, ht, -⟩ := State.frames_cons hr
      show ({ U with heap := s₂.heap, slotsUsed := s₂.slotsUsed } : State) = { U.setFrames U.frames with heap := s₂.heap, slotsUsed := s₂.slotsUsed }
      rw [State.setFrames_self ht]
    subst hg
    refine Or.inl ⟨v, ⟨(({ U with heap := s₂.heap, slotsUsed := s₂.slotsUsed } : State).setVm s₂.vm), Ls ++ L, c0 + mc, s0 + ms⟩,
      ⟨X.admits, X.cas, X.clock, X.frames, X.room, X.hears, X.method, X.code, (X.here.setHeapUsed s₂.heap s₂.slotsUsed).setVm hW'.alike, X.tail, State.WarmedH.trans X.warmed hW', X.limits, X.bytes, X.same.trans (hsame.setVm s.vm)⟩,
      ⟨g, mk, s₂, L, rfl, rfl, hqc, rfl, hL, rfl, rfl⟩, ?_⟩
    show Steps p.tables e below _ ((({ U with heap := s₂.heap, slotsUsed := s₂.slotsUsed } : State).setVm s₂.vm).setTop { g with pc := g.pc + len₂, stack := v.toList ++ g.stack })
    rw [← hs₂]
    exact hsteps
  · obtain ⟨e2, q2, q3, q4, q5, q6⟩ := id hsm
    have e3 : s₂ = ({ (U.calling g mk a).setFrames s₂.frames with heap := s₂.heap, slotsUsed := s₂.slotsUsed } : State).setVm s₂.vm := by
      have : s₂ = ({ s₂ with vm := (U.calling g mk a).vm } : State).setVm s₂.vm := rfl
      rw [e2] at this
      exact this
    have hf₂ : s₂.frames = .throwing q :: .java g :: U.frames.tail := hend
    have hW' : U.WarmedH s₂.vm := hW₂
    have hs₂ : s₂ = ((({ U with heap := s₂.heap, slotsUsed := s₂.slotsUsed } : State).setVm s₂.vm).setTop g).pushFrame (.throwing q) := by
      refine e3.trans ?_
      rw [hf₂, State.calling_eq h.top, State.setFrames_setFrames, State.pushFrame, State.frames_setTop _ hr', State.setTop_of_frames _ hr', State.setFrames_setFrames, hr]
      rfl
    have hsame : U.sameButNew ({ U with heap := s₂.heap, slotsUsed := s₂.slotsUsed } : State) L mc ms := by
      refine ⟨?_, q2, q3, q4, q5, q6⟩
      obtain ⟨t, ht, -⟩ := State.frames_cons hr
      show ({ U with heap := s₂.heap, slotsUsed := s₂.slotsUsed } : State) = { U.setFrames U.frames with heap := s₂.heap, slotsUsed := s₂.slotsUsed }
      rw [State.setFrames_self ht]
    subst hg
    refine Or.inr ⟨q, ⟨(({ U with heap := s₂.heap, slotsUsed := s₂.slotsUsed } : State).setVm s₂.vm), Ls ++ L, c0 + mc, s0 + ms⟩,
      ⟨X.admits, X.cas, X.clock, X.frames, X.room, X.hears, X.method, X.code, (X.here.setHeapUsed s₂.heap s₂.slotsUsed).setVm hW'.alike, X.tail, State.WarmedH.trans X.warmed hW', X.limits, X.bytes, X.same.trans (hsame.setVm s.vm)⟩,
      ⟨g, mk, s₂, L, E, ce, rfl, rfl, hx, hce, hcv, hcl, rfl, hL, rfl, rfl⟩, ?_⟩
    show Steps p.tables e below _ (((({ U with heap := s₂.heap, slotsUsed := s₂.slotsUsed } : State).setVm s₂.vm).setTop g).pushFrame (.throwing q))
    rw [← hs₂]
    exact hsteps
end
variable {p : Program} {l : Launch} {e : Env} {R : Room} {s : State} {m : MethodId} {args : Array Value} {below : List Frame} {meth : Method} {c : Code} {T : State} {H : Heap} {locs : List Loc} {cells slots : Nat}
theorem vx_callVX (X : Stand p l e R s m args below meth c T locs cells slots) (hexec : p.tables.exec = Jvm.exec) {own C : String} {index : Nat} {y : MethodName} {bytes : ByteArray} {maxL : Nat} {ret : Option FieldType} {hh : List (Nat × Nat × Nat × Nat)}
    (hown : s.vm.findClass own = some m.cls) (hlink : (Cond.methodLink own index y).before args s = true) (hinst : (Cond.instanceMethod y).before args s = true) (hsel : (Cond.selects C y y).before args s = true)
    (hcode : (Cond.codeWith y bytes maxL ret hh).before args s = true) (hy : y.cls ≠ "java/lang/invoke/MethodHandle" ∧ y.cls ≠ "java/lang/invoke/VarHandle")
    {W9 : Nat} {Pre : Pt → Array Value → Prop} {Post : Pt → Array Value → Option Value → Pt → Prop} {PostX : Pt → Array Value → Addr → Pt → Prop} (hK : vx_Back l R p e below s args y 3 W9 Pre Post PostX)
    {b : Addr} {cellB : Cell} (hcell : T.heap[b]? = some cellB) (hobj : cellB.vm.isStatics = false) (hcls : s.vm.findClass C = some cellB.cls)
    {g : JFrame} (hg : g.method = m) (hsize : g.locals.size = c.maxLocals) {argsL rest : List Value} (hlen : ∀ sig, parseMethodDescriptor y.desc = some sig → argsL.length = sig.parameters.length)
    (hstack : g.stack = argsL.reverse ++ .ref b :: rest) (hW : 2 * g.monitorRoom + (rest.map fun v => v.category).sum ≤ W9) (hdg : decode c.code g.pc = .ok (.invokevirtual index, 3))
    (hpre : ∀ vm₁, s.WarmedH vm₁ → Pre ⟨T.setVm vm₁, locs, cells, slots⟩ (Value.ref b :: argsL).toArray) :
    (∃ (v : Option Value) (vm₁ : Vm) (B : Pt), s.WarmedH vm₁ ∧ Stand p l e R s m args below meth c B.U B.locs B.cells B.slots ∧ Post ⟨T.setVm vm₁, locs, cells, slots⟩ (Value.ref b :: argsL).toArray v B ∧
      ∀ target, Steps p.tables e below (B.U.setTop { g with pc := g.pc + 3, stack := v.toList ++ rest }) target → Steps p.tables e below (T.setTop g) target) ∨
    (∃ (q : Addr) (vm₁ : Vm) (B : Pt), s.WarmedH vm₁ ∧ Stand p l e R s m args below meth c B.U B.locs B.cells B.slots ∧ PostX ⟨T.setVm vm₁, locs, cells, slots⟩ (Value.ref b :: argsL).toArray q B ∧
      Steps p.tables e below (T.setTop g) ((B.U.setTop { g with stack := rest }).pushFrame (.throwing q))) := by
  obtain ⟨mk, methM, hnamed, hmethM, hstM, habM⟩ := Cond.instanceMethod_spec hinst
  obtain ⟨m8, methM', cM, hn8, hmethM', -, -, -, -, -, -, hsigM⟩ := Cond.codeWith_spec hcode
  cases Option.some.inj (hn8.symm.trans hnamed)
  cases hmethM.symm.trans hmethM'
  obtain ⟨c2, r2, m2, q1, q2, q3, q4, kP, hkP, hkPi⟩ := Cond.selects_spec hsel
  cases hcls.symm.trans q1
  cases (State.methodFound?_of_named hnamed hy).symm.trans q2
  cases hnamed.symm.trans q3
  have hselP : selectMethod e.platform s.vm cellB.cls mk = .method mk := by rw [Launch.admits_selectMethod X.admits]; exact q4
  obtain ⟨vm₁, X₁, hstep₁⟩ := X.invokevirtual hexec hown hlink hnamed hmethM hstM hkP hkPi hy (a := b) (cell := cellB) hcell
    (fun z h => by rw [h] at hobj; cases hobj) hselP hmethM habM hkP hkPi (g := g) hg (argsL := argsL) (rest := rest) (hlen _ hsigM) hstack hdg
  rcases hK m meth c ⟨T.setVm vm₁, locs, cells, slots⟩ { g with stack := rest } (.invokevirtual index) mk (Value.ref b :: argsL).toArray X₁ hg hsize hdg hW (X₁.named hnamed) (hpre vm₁ X₁.warmed) with ⟨v, B, X', hpost, hsteps⟩ | ⟨q, B, X', hpost, hsteps⟩
  · exact Or.inl ⟨v, vm₁, B, X₁.warmed, X', hpost, fun target h => hstep₁ _ fun acts => by rw [doInvoke_state]; exact hsteps.trans h⟩
  · exact Or.inr ⟨q, vm₁, B, X₁.warmed, X', hpost, hstep₁ _ fun acts => by rw [doInvoke_state]; exact hsteps⟩
theorem vx_callSX (X : Stand p l e R s m args below meth c T locs cells slots) (hexec : p.tables.exec = Jvm.exec) {own : String} {index : Nat} {y : MethodName} {bytes : ByteArray} {maxL : Nat} {ret : Option FieldType} {hh : List (Nat × Nat × Nat × Nat)}
    (hown : s.vm.findClass own = some m.cls) (hlink : (Cond.methodLink own index y).before args s = true) (hstat : (Cond.static y).before args s = true) (hinit : (Cond.initialized y.cls).before args s = true)
    (hcode : (Cond.codeWith y bytes maxL ret hh).before args s = true) (hy : y.cls ≠ "java/lang/invoke/MethodHandle" ∧ y.cls ≠ "java/lang/invoke/VarHandle")
    {W9 : Nat} {Pre : Pt → Array Value → Prop} {Post : Pt → Array Value → Option Value → Pt → Prop} {PostX : Pt → Array Value → Addr → Pt → Prop} (hK : vx_Back l R p e below s args y 3 W9 Pre Post PostX)
    {g : JFrame} (hg : g.method = m) (hsize : g.locals.size = c.maxLocals) {argsL rest : List Value} (hlen : ∀ sig, parseMethodDescriptor y.desc = some sig → argsL.length = sig.parameters.length)
    (hstack : g.stack = argsL.reverse ++ rest) (hW : 2 * g.monitorRoom + (rest.map fun v => v.category).sum ≤ W9) (hdg : decode c.code g.pc = .ok (.invokestatic index, 3))
    (hpre : ∀ vm₁, s.WarmedH vm₁ → Pre ⟨T.setVm vm₁, locs, cells, slots⟩ argsL.toArray) :
    (∃ (v : Option Value) (vm₁ : Vm) (B : Pt), s.WarmedH vm₁ ∧ Stand p l e R s m args below meth c B.U B.locs B.cells B.slots ∧ Post ⟨T.setVm vm₁, locs, cells, slots⟩ argsL.toArray v B ∧
      ∀ target, Steps p.tables e below (B.U.setTop { g with pc := g.pc + 3, stack := v.toList ++ rest }) target → Steps p.tables e below (T.setTop g) target) ∨
    (∃ (q : Addr) (vm₁ : Vm) (B : Pt), s.WarmedH vm₁ ∧ Stand p l e R s m args below meth c B.U B.locs B.cells B.slots ∧ PostX ⟨T.setVm vm₁, locs, cells, slots⟩ argsL.toArray q B ∧
      Steps p.tables e below (T.setTop g) ((B.U.setTop { g with stack := rest }).pushFrame (.throwing q))) := by
  obtain ⟨mk, methM, cM, hnamed, hmethM, -, -, -, -, -, -, hsigM⟩ := Cond.codeWith_spec hcode
  have hstatic : methM.isStatic = true := Cond.static_spec hnamed hmethM hstat
  obtain ⟨kP, hkP, -⟩ := className_of_methodNamed hnamed
  have hinitP : kP.init = .initialized := Cond.initialized_spec (findClass_of_methodNamed hnamed) hkP hinit
  obtain ⟨vm₁, X₁, hstep₁⟩ := X.invokestatic hexec hown hlink hnamed hmethM hstatic hkP hinitP hy (g := g) hg (argsL := argsL) (rest := rest) (hlen _ hsigM) hstack hdg
  rcases hK m meth c ⟨T.setVm vm₁, locs, cells, slots⟩ { g with stack := rest } (.invokestatic index) mk argsL.toArray X₁ hg hsize hdg hW (X₁.named hnamed) (hpre vm₁ X₁.warmed) with ⟨v, B, X', hpost, hsteps⟩ | ⟨q, B, X', hpost, hsteps⟩
  · exact Or.inl ⟨v, vm₁, B, X₁.warmed, X', hpost, fun target h => hstep₁ _ fun acts => by rw [doInvoke_state]; exact hsteps.trans h⟩
  · exact Or.inr ⟨q, vm₁, B, X₁.warmed, X', hpost, hstep₁ _ fun acts => by rw [doInvoke_state]; exact hsteps⟩
theorem vx_callVW (X : Stand p l e R s m args below meth c T locs cells slots) (hexec : p.tables.exec = Jvm.exec) {own C : String} {index : Nat} {y : MethodName} {bytes : ByteArray} {maxL : Nat} {ret : Option FieldType} {hh : List (Nat × Nat × Nat × Nat)}
    (hown : s.vm.findClass own = some m.cls) (hlink : (Cond.methodLink own index y).before args s = true) (hinst : (Cond.instanceMethod y).before args s = true) (hsel : (Cond.selects C y y).before args s = true)
    (hcode : (Cond.codeWith y bytes maxL ret hh).before args s = true) (hy : y.cls ≠ "java/lang/invoke/MethodHandle" ∧ y.cls ≠ "java/lang/invoke/VarHandle")
    {W9 : Nat} {Pre : Pt → Array Value → Prop} {Post : Pt → Array Value → Option Value → Pt → Prop} (hK : Back l R p e below s args y 3 W9 Pre Post)
    {b : Addr} {cellB : Cell} (hcell : T.heap[b]? = some cellB) (hobj : cellB.vm.isStatics = false) (hcls : s.vm.findClass C = some cellB.cls)
    {g : JFrame} (hg : g.method = m) (hsize : g.locals.size = c.maxLocals) {argsL rest : List Value} (hlen : ∀ sig, parseMethodDescriptor y.desc = some sig → argsL.length = sig.parameters.length)
    (hstack : g.stack = argsL.reverse ++ .ref b :: rest) (hW : 2 * g.monitorRoom + (rest.map fun v => v.category).sum ≤ W9) (hdg : decode c.code g.pc = .ok (.invokevirtual index, 3))
    (hpre : ∀ vm₁, s.WarmedH vm₁ → Pre ⟨T.setVm vm₁, locs, cells, slots⟩ (Value.ref b :: argsL).toArray) :
    ∃ (v : Option Value) (vm₁ : Vm) (B : Pt), s.WarmedH vm₁ ∧ Stand p l e R s m args below meth c B.U B.locs B.cells B.slots ∧ Post ⟨T.setVm vm₁, locs, cells, slots⟩ (Value.ref b :: argsL).toArray v B ∧
      ∀ target, Steps p.tables e below (B.U.setTop { g with pc := g.pc + 3, stack := v.toList ++ rest }) target → Steps p.tables e below (T.setTop g) target := by
  obtain ⟨mk, methM, hnamed, hmethM, hstM, habM⟩ := Cond.instanceMethod_spec hinst
  obtain ⟨m8, methM', cM, hn8, hmethM', -, -, -, -, -, -, hsigM⟩ := Cond.codeWith_spec hcode
  cases Option.some.inj (hn8.symm.trans hnamed)
  cases hmethM.symm.trans hmethM'
  obtain ⟨c2, r2, m2, q1, q2, q3, q4, kP, hkP, hkPi⟩ := Cond.selects_spec hsel
  cases hcls.symm.trans q1
  cases (State.methodFound?_of_named hnamed hy).symm.trans q2
  cases hnamed.symm.trans q3
  have hselP : selectMethod e.platform s.vm cellB.cls mk = .method mk := by rw [Launch.admits_selectMethod X.admits]; exact q4
  obtain ⟨vm₁, X₁, hstep₁⟩ := X.invokevirtual hexec hown hlink hnamed hmethM hstM hkP hkPi hy (a := b) (cell := cellB) hcell
    (fun z h => by rw [h] at hobj; cases hobj) hselP hmethM habM hkP hkPi (g := g) hg (argsL := argsL) (rest := rest) (hlen _ hsigM) hstack hdg
  obtain ⟨v, B, X', hpost, hsteps⟩ := hK m meth c ⟨T.setVm vm₁, locs, cells, slots⟩ { g with stack := rest } (.invokevirtual index) mk (Value.ref b :: argsL).toArray X₁ hg hsize hdg hW (X₁.named hnamed) (hpre vm₁ X₁.warmed)
  exact ⟨v, vm₁, B, X₁.warmed, X', hpost, fun target h => hstep₁ _ fun acts => by rw [doInvoke_state]; exact hsteps.trans h⟩
abbrev vx_CVW (R : Room) (s : State) (args : Array Value) (own C : String) (index : Nat) (y : MethodName) (bytes : ByteArray) (maxL : Nat) (ret : Option FieldType) (hh : List (Nat × Nat × Nat × Nat)) (ws : List Cond) (rm : Room) (mc ms n : Nat) : Prop :=
  (rm.cells = mc ∧ rm.slots = ms ∧ rm.frames + 1 ≤ R.frames ∧ 8 + (maxL + 11) + rm.locals ≤ R.locals ∧ (∀ w ∈ ws, ∀ (a' : Array Value) (U : State), s.WarmedH U.vm → w.before a' U = true) ∧ Cond.codeWith y bytes maxL ret hh ∈ ws) ∧
  (Cond.codeWith y bytes maxL ret hh).before args s = true ∧ (Cond.initialized y.cls).before args s = true ∧ (y.cls ≠ "java/lang/invoke/MethodHandle" ∧ y.cls ≠ "java/lang/invoke/VarHandle") ∧
  (∀ sig, parseMethodDescriptor y.desc = some sig → n = sig.parameters.length) ∧ (Cond.methodLink own index y).before args s = true ∧ (Cond.instanceMethod y).before args s = true ∧ (Cond.selects C y y).before args s = true
theorem vx_cwVW {own C : String} {index maxL mc ms : Nat} {y : MethodName} {bytes : ByteArray} {ret : Option FieldType} {hh : List (Nat × Nat × Nat × Nat)} {Ts ws ws' : List Cond} {rm : Room} (n : Nat) (ht : ∀ w ∈ Ts, w.before args s = true) (hT : GoodIn Ts (wsV own index C y ws)) (hw : ws = Cond.codeWith y bytes maxL ret hh :: ws') (hrc : rm.cells = mc) (hrs : rm.slots = ms)
    (hd : y.cls = C ∧ y.cls ≠ "java/lang/invoke/MethodHandle" ∧ y.cls ≠ "java/lang/invoke/VarHandle" ∧ (parseMethodDescriptor y.desc).map (fun d => d.parameters.length) = some n) (hR : rm.frames + 1 ≤ R.frames ∧ 8 + (maxL + 11) + rm.locals ≤ R.locals) :
    vx_CVW R s args own C index y bytes maxL ret hh ws rm mc ms n := by
  obtain ⟨hC, hd⟩ := hd
  subst hC
  have ok : ∀ w ∈ wsV own index y.cls y ws, w.before args s = true := fun w h => ht w (hT w h).1
  have hG : GoodIn Ts ws := fun w h => hT w (by unfold wsV; exact List.mem_append_right _ h)
  have hc : Cond.codeWith y bytes maxL ret hh ∈ ws := by rw [hw]; exact List.mem_cons_self
  refine ⟨⟨hrc, hrs, hR.1, hR.2, pay_in ht hG, hc⟩, ht _ (hG _ hc).1, ok _ (by simp [wsV]), ⟨hd.1, hd.2.1⟩, fun sig h => ?_, ok _ (by simp [wsV]), ok _ (by simp [wsV]), ok _ (by simp [wsV])⟩
  have h2 := hd.2.2
  rw [h] at h2
  exact (Option.some.inj h2).symm
theorem vx_runVW {y : MethodName} {bytes cc : ByteArray} {maxL nL mc ms n index : Nat} {ret : Option FieldType} {hh : List (Nat × Nat × Nat × Nat)} {ws : List Cond} {rm : Room} {Pc : Array Value → State → Prop} {Qc : Array Value → State → Outcome → State → Prop} {free : Addr → Prop} {Ts : List Cond} {own C : String} {b : Addr} {As rest : List Value} {g : JFrame}
    (S : CallFix p m c cc nL s args Ts own) (hM : Met l y ws rm Pc Qc mc ms free) (cw : vx_CVW R s args own C index y bytes maxL ret hh ws rm mc ms n) (hp : PreV s H C b Pc As)
    (hg : g.method = m) (hn : As.length = n) (hsize : g.locals.size = nL) (hstack : g.stack = As.reverse ++ .ref b :: rest) (hW : 2 * g.monitorRoom + (rest.map fun v => v.category).sum ≤ 8) (hdg : decode cc g.pc = .ok (.invokevirtual index, 3)) (hf : cells + mc ≤ R.cells ∧ slots + ms ≤ R.slots) :
    va_Run p l e R s m args below meth c H locs cells slots mc ms g rest (Qc (Value.ref b :: As).toArray) free := by
  obtain ⟨⟨hrc, hrs, hfr, hlo, hws, hcw⟩, hcode, hini, hy, hlen, hl, hin, hse⟩ := cw
  have hK : Back l R p e below s args y 3 8 (PreOf R mc ms Pc) (PostOf Qc mc ms free) := va_backW (hh := hh) (bytes := bytes) (maxL := maxL) (ret := ret) hM hp.1 hrc hrs hfr hlo hws hcw (fun a' U hW => word_at hW (Or.inl (by first | rfl | simp [Cond.onTables, Cond.keeps, Cond.steady])) hini)
  obtain ⟨hx, hb, hml, ho, -⟩ := S
  obtain ⟨-, ⟨cellB, hcB, hoB, hclB⟩, hPc⟩ := hp
  intro T hT X
  obtain ⟨v, vm₁, ⟨U', l2, c2, s2⟩, hW₁, X', ⟨g', mk, t, L, e1, e2, hq, h1, hL, h2, h3⟩, st⟩ := vx_callVW X hx (C := C) (hh := hh) (bytes := bytes) (maxL := maxL) (ret := ret) ho hl hin hse hcode hy hK (by rw [hT]; exact hcB) hoB hclB hg (hsize.trans hml.symm) (argsL := As) (rest := rest) (fun sig h => hn.trans (hlen sig h)) hstack hW (by rw [hb]; exact hdg)
    (fun vm₁ hW₁ => ⟨hf.1, hf.2, hPc (T.setVm vm₁) hT hW₁⟩)
  dsimp only [Pt.U, Pt.locs, Pt.cells, Pt.slots] at X' e1 e2 h1 h2 h3 st
  subst h1; subst h2; subst h3
  exact ⟨v, (T.setVm vm₁).calling g' mk (Value.ref b :: As).toArray, t, U', L, hT, X', hL, e1, e2, hq, st⟩
section
variable {y : MethodName} {bytes cc : ByteArray} {maxL nL mc ms n index : Nat} {ret : Option FieldType} {ws : List Cond} {rm : Room} {Pc : Array Value → State → Prop} {Qc : Array Value → State → Outcome → State → Prop} {XC : String → State → State → Prop} {free : Addr → Prop} {Ts : List Cond} {own C : String} {b : Addr} {As rest : List Value} {g : JFrame}
theorem vx_runVX {hh : List (Nat × Nat × Nat × Nat)} (S : CallFix p m c cc nL s args Ts own) (hM : vx_Met l y ws rm Pc Qc XC mc ms free) (cw : vx_CVW R s args own C index y bytes maxL ret hh ws rm mc ms n) (hp : PreV s H C b Pc As)
    (hg : g.method = m) (hn : As.length = n) (hsize : g.locals.size = nL) (hstack : g.stack = As.reverse ++ .ref b :: rest) (hW : 2 * g.monitorRoom + (rest.map fun v => v.category).sum ≤ 8) (hdg : decode cc g.pc = .ok (.invokevirtual index, 3)) (hf : cells + mc ≤ R.cells ∧ slots + ms ≤ R.slots) :
    vx_Run p l e R s m args below meth c H locs cells slots mc ms g rest (Qc (Value.ref b :: As).toArray) XC free := by
  obtain ⟨⟨hrc, hrs, hfr, hlo, hws, hcw⟩, hcode, hini, hy, hlen, hl, hin, hse⟩ := cw
  have hK : vx_Back l R p e below s args y 3 8 (PreOf R mc ms Pc) (PostOf Qc mc ms free) (vx_Post XC mc ms free) := vx_backW (hh := hh) (bytes := bytes) (maxL := maxL) (ret := ret) hM hp.1 hrc hrs hfr hlo hws hcw (fun a' U hW => word_at hW (Or.inl (by first | rfl | simp [Cond.onTables, Cond.keeps, Cond.steady])) hini)
  obtain ⟨hx, hb, hml, ho, -⟩ := S
  obtain ⟨-, ⟨cellB, hcB, hoB, hclB⟩, hPc⟩ := hp
  intro T hT X
  rcases vx_callVX X hx (C := C) (hh := hh) (bytes := bytes) (maxL := maxL) (ret := ret) ho hl hin hse hcode hy hK (by rw [hT]; exact hcB) hoB hclB hg (hsize.trans hml.symm) (argsL := As) (rest := rest) (fun sig h => hn.trans (hlen sig h)) hstack hW (by rw [hb]; exact hdg)
    (fun vm₁ hW₁ => ⟨hf.1, hf.2, hPc (T.setVm vm₁) hT hW₁⟩) with ⟨v, vm₁, ⟨U', l2, c2, s2⟩, hW₁, X', ⟨g', mk, t, L, e1, e2, hq, h1, hL, h2, h3⟩, st⟩ | ⟨q, vm₁, ⟨U', l2, c2, s2⟩, hW₁, X', ⟨g', mk, t, L, E, ce, e1, e2, hq, hce, hcv, hcl, h1, hL, h2, h3⟩, st⟩
  · dsimp only [Pt.U, Pt.locs, Pt.cells, Pt.slots] at X' e1 e2 h1 h2 h3 st
    subst h1; subst h2; subst h3
    exact Or.inl ⟨v, (T.setVm vm₁).calling g' mk (Value.ref b :: As).toArray, t, U', L, hT, X', hL, e1, e2, hq, st⟩
  · dsimp only [Pt.U, Pt.locs, Pt.cells, Pt.slots] at X' e1 e2 h1 h2 h3 st hcl
    subst h1; subst h2; subst h3
    exact Or.inr ⟨q, (T.setVm vm₁).calling g' mk (Value.ref b :: As).toArray, t, U', L, E, ce, hT, X', hL, e1, e2, hq, hce, hcv, vx_cls hW₁ hcl, st⟩
theorem vx_runSX {hh : List (Nat × Nat × Nat × Nat)} (S : CallFix p m c cc nL s args Ts own) (hM : vx_Met l y ws rm Pc Qc XC mc ms free) (cw : vx_CSW R s args own index y bytes maxL ret hh ws rm mc ms n) (hp : PreS s H Pc As)
    (hg : g.method = m) (hn : As.length = n) (hsize : g.locals.size = nL) (hstack : g.stack = As.reverse ++ rest) (hW : 2 * g.monitorRoom + (rest.map fun v => v.category).sum ≤ 8) (hdg : decode cc g.pc = .ok (.invokestatic index, 3)) (hf : cells + mc ≤ R.cells ∧ slots + ms ≤ R.slots) :
    vx_Run p l e R s m args below meth c H locs cells slots mc ms g rest (Qc As.toArray) XC free := by
  obtain ⟨⟨hrc, hrs, hfr, hlo, hws, hcw⟩, hcode, hini, hy, hlen, hl, hstt⟩ := cw
  have hK : vx_Back l R p e below s args y 3 8 (PreOf R mc ms Pc) (PostOf Qc mc ms free) (vx_Post XC mc ms free) := vx_backW (hh := hh) (bytes := bytes) (maxL := maxL) (ret := ret) hM hp.1 hrc hrs hfr hlo hws hcw (fun a' U hW => word_at hW (Or.inl (by first | rfl | simp [Cond.onTables, Cond.keeps, Cond.steady])) hini)
  obtain ⟨hx, hb, hml, ho, -⟩ := S
  intro T hT X
  rcases vx_callSX X hx (hh := hh) (bytes := bytes) (maxL := maxL) (ret := ret) ho hl hstt hini hcode hy hK hg (hsize.trans hml.symm) (argsL := As) (rest := rest) (fun sig h => hn.trans (hlen sig h)) hstack hW (by rw [hb]; exact hdg)
    (fun vm₁ hW₁ => ⟨hf.1, hf.2, hp.2 (T.setVm vm₁) hT hW₁⟩) with ⟨v, vm₁, ⟨U', l2, c2, s2⟩, hW₁, X', ⟨g', mk, t, L, e1, e2, hq, h1, hL, h2, h3⟩, st⟩ | ⟨q, vm₁, ⟨U', l2, c2, s2⟩, hW₁, X', ⟨g', mk, t, L, E, ce, e1, e2, hq, hce, hcv, hcl, h1, hL, h2, h3⟩, st⟩
  · dsimp only [Pt.U, Pt.locs, Pt.cells, Pt.slots] at X' e1 e2 h1 h2 h3 st
    subst h1; subst h2; subst h3
    exact Or.inl ⟨v, (T.setVm vm₁).calling g' mk As.toArray, t, U', L, hT, X', hL, e1, e2, hq, st⟩
  · dsimp only [Pt.U, Pt.locs, Pt.cells, Pt.slots] at X' e1 e2 h1 h2 h3 st hcl
    subst h1; subst h2; subst h3
    exact Or.inr ⟨q, (T.setVm vm₁).calling g' mk As.toArray, t, U', L, E, ce, hT, X', hL, e1, e2, hq, hce, hcv, vx_cls hW₁ hcl, st⟩
end
end VXH
theorem vx_ofWH {l : Launch} {y : MethodName} {ws ws' : List Cond} {rm : Room} {Pc : Array Value → State → Prop} {Qc : Array Value → State → Outcome → State → Prop} {XC : String → State → State → Prop} {mc ms : Nat} {free : Addr → Prop} {cc : ByteArray} {maxL : Nat} {ret : Option FieldType} {hh : List (Nat × Nat × Nat × Nat)}
    (hy : plainName y.cls = true) (hw : ws = Cond.codeWith y cc maxL ret hh :: ws')
    (body : ∀ p e s m args below meth c s₁, BodyLoose p l y (headSpec ws rm) cc maxL ret e s m args below meth c s₁ → c.maxLocals = maxL → Pc args s →
      W p l e (headSpec ws rm).room s m args below meth c s.heap [] 0 0 (vx_MQ below Qc XC args s mc ms free) (entryFrame m args maxL)) : vx_Met l y ws rm Pc Qc XC mc ms free := by
  refine MetFree.of_bodyS (code := cc) (maxLocals := maxL) (ret := ret) hy ?_ ?_
  · intro args s m h hn
    obtain ⟨m9, meth, c, hn9, h1, h2, h3, h4, -, h5, h6, -⟩ := Cond.codeWith_spec (atoms_spec (ws := ws) h _ (by rw [hw]; exact List.mem_cons_self))
    cases hn.symm.trans hn9
    exact ⟨meth, c, h1, h2, h3, h4, h5, h6⟩
  · intro p e s m args below meth c s₁ B hml hP _
    have hh0 : s₁.heap = s.heap := by rw [B.state]; rfl
    obtain ⟨t, a1, o, b1, b2, b3⟩ := body p e s m args below meth c s₁ B hml hP s₁ hh0 (Stand.of_body B)
    exact ⟨t, o, a1, b1, b2, b3⟩
/-! ===== END ===== -/
end
section
/-! CONTRACTS of methods that may throw: the answer is .inl r, or .inr k for the exception number k -/
def g_xn : Nat → String
  | 0 => "java/lang/IndexOutOfBoundsException"
  | 1 => "java/lang/IllegalArgumentException"
  | _ => "java/lang/IllegalStateException"
/-- the words that a throw needs and that are no tables' words: they are handed on from call to call -/
def gxw : List Cond := [.declares (Bundle.init0 "java/lang/RuntimeException"), .declares (Bundle.init0 "java/lang/Exception"), .declares (Bundle.init0 "java/lang/Throwable"), .castable (g_xn 0) (g_xn 0), .castable (g_xn 1) (g_xn 1), .castable (g_xn 2) (g_xn 2)]
def gX (U : State) : Prop := ∀ w ∈ gxw, va_Nw w U
theorem gX_tab : ∀ w ∈ gxw, w.onTables = true := by decide +kernel
theorem gX.same {u U : State} (h : gX u) (hv : u.vm = U.vm) : gX U := fun w hw => va_Nw.same (gX_tab w hw) hv (h w hw)
theorem gX.warm {u U : State} (h : gX u) (hW : u.WarmedH U.vm) : gX U := by
  have h := h
  unfold gX gxw at h ⊢
  simp only [List.forall_mem_cons, List.not_mem_nil, false_implies, implies_true, and_true] at h ⊢
  obtain ⟨h1, h2, h3, h4, h5, h6⟩ := h
  exact ⟨va_Nw.warmD hW h1, va_Nw.warmD hW h2, va_Nw.warmD hW h3, va_Nw.warmC hW h4, va_Nw.warmC hW h5, va_Nw.warmC hW h6⟩
/-- the two statics of Throwable, outside A -/
def gZ (A : Nat → Prop) (U : State) (H : Heap) : Prop := vx_Zq Bundle.tN "UNASSIGNED_STACK" Bundle.steD A U H ∧ vx_Zq Bundle.tN "SUPPRESSED_SENTINEL" Bundle.listD A U H
def g_rmx (d k n : Nat) : Room := { frames := d, cells := k, slots := n, locals := 40 * d }
def g_preX (D : va_G) (g : gT) (N : Nat) (ad ln : Nat → Nat) (A : gM) (sz : Nat) (av : List gV) : Array Value → State → Prop :=
  va_Pc (av.map (g_v ad)) (fun U => U.heap.size = sz ∧ va_P D vwCl (gw g ad ln A N) U.heap ∧ va_K D vwCl (g_tys g) U ∧ va_D (fun _ => True) (gw g ad ln A N) ∧ gX U ∧ gZ (va_A (gw g ad ln A N) sz) U U.heap)
theorem g_blindX {D : va_G} {g : gT} {N : Nat} {ad ln : Nat → Nat} {A : gM} {sz : Nat} {av : List gV} : FrameBlind (g_preX D g N ad ln A sz av) := fun a U q mk h => by
  obtain ⟨q0, q1, qP, qK, qD, qX, qZ1, qZ2⟩ := h
  exact ⟨q0, q1, qP, va_K.moved (u := U) (U := U.calling q mk a) (Vm.Alike.refl U.vm) qK, qD, qX.same rfl, vx_Zq.moved (u := U) (U := U.calling q mk a) (Vm.Alike.refl U.vm) qZ1, vx_Zq.moved (u := U) (U := U.calling q mk a) (Vm.Alike.refl U.vm) qZ2⟩
def g_XC (D : va_G) (g : gT) (N : Nat) (ad ln : Nat → Nat) (A : gM) (sz : Nat) (A' : gM) (res : Int32 ⊕ Nat) : String → State → State → Prop :=
  vx_X (S := Unit) (fun _ => True) (fun E _ t => ∃ k, res = .inr k ∧ E = g_xn k ∧ g_B D g N ad ln A A' sz t) (va_A (gw g ad ln A N) sz)
def g_QXi (D : va_G) (g : gT) (N : Nat) (ad ln : Nat → Nat) (A : gM) (sz : Nat) (A' : gM) (res : Int32 ⊕ Nat) : Array Value → State → Outcome → State → Prop :=
  va_Qi (S := Unit) (fun x _ => res = .inl x) (fun _ t => g_B D g N ad ln A A' sz t) (va_A (gw g ad ln A N) sz)
def g_QXv (D : va_G) (g : gT) (N : Nat) (ad ln : Nat → Nat) (A : gM) (sz : Nat) (A' : gM) (res : Int32 ⊕ Nat) : Array Value → State → Outcome → State → Prop :=
  va_Qv (S := Unit) (fun _ => res = .inl 0) (fun _ t => g_B D g N ad ln A A' sz t) (va_A (gw g ad ln A N) sz)
def gXi (l : Launch) (y : MethodName) (b : ByteArray) (nl : Nat) (rt : Option FieldType) (d cc : Nat) (D : va_G) (g : gT) (N : Nat) (ad ln : Nat → Nat) (A : gM) (av : List gV) (A' : gM) (res : Int32 ⊕ Nat) : Prop :=
  ∀ sz, vx_Met l y (g_ws y b nl rt) (g_rmx d cc (6 * cc)) (g_preX D g N ad ln A sz av) (g_QXi D g N ad ln A sz A' res) (g_XC D g N ad ln A sz A' res) cc (6 * cc) (va_A (gw g ad ln A N) sz)
def gXv (l : Launch) (y : MethodName) (b : ByteArray) (nl : Nat) (rt : Option FieldType) (d cc : Nat) (D : va_G) (g : gT) (N : Nat) (ad ln : Nat → Nat) (A : gM) (av : List gV) (A' : gM) (res : Int32 ⊕ Nat) : Prop :=
  ∀ sz, vx_Met l y (g_ws y b nl rt) (g_rmx d cc (6 * cc)) (g_preX D g N ad ln A sz av) (g_QXv D g N ad ln A sz A' res) (g_XC D g N ad ln A sz A' res) cc (6 * cc) (va_A (gw g ad ln A N) sz)
/-- the result of a call that may throw goes on only where it answers -/
def g_tr {β : Type} (q : gM × (Int32 ⊕ Nat)) (f : Int32 → Option (gM × (β ⊕ Nat))) : Option (gM × (β ⊕ Nat)) := match q.2 with
  | .inl r => f r
  | .inr k => some (q.1, .inr k)
theorem g_trx {β : Type} {q : gM × (Int32 ⊕ Nat)} {f : Int32 → Option (gM × (β ⊕ Nat))} {A' : gM} {res : β ⊕ Nat} {k : Nat} (h : g_tr q f = some (A', res)) (hk : q.2 = .inr k) : q.1 = A' ∧ res = .inr k := by
  unfold g_tr at h
  rw [hk] at h
  have := Option.some.inj h
  exact ⟨(Prod.mk.inj this).1, (Prod.mk.inj this).2.symm⟩
theorem g_trr {β : Type} {q : gM × (Int32 ⊕ Nat)} {f : Int32 → Option (gM × (β ⊕ Nat))} {x : gM × (β ⊕ Nat)} {r : Int32} (h : g_tr q f = some x) (hk : q.2 = .inl r) : f r = some x := by
  unfold g_tr at h
  rw [hk] at h
  exact h
section GX
variable {p : Program} {l : Launch} {e : Env} {R : Room} {s : State} {m : MethodId} {args : Array Value} {below : List Frame} {meth : Method} {c : Code} {Q : State → Prop} {nL : Nat} {D : va_G} {g : gT} {As : Nat → Prop} {N : Nat} {ad ln : Nat → Nat} {A A' A1 A0 : gM} {loc loc' : List (Nat × gV)} {k n pc : Nat} {st : List gV} {cc : ByteArray} {own : String} {d mc : Nat}
/-- what stays besides, in a method that may throw -/
def gCX (l : Launch) (s : State) (c : Code) (As : Nat → Prop) : Prop := l.stackTraces = false ∧ gX s ∧ gZ As s s.heap ∧ ∀ x ∈ c.exceptionTable.toList, False
theorem g_widen {k2 n2 : Nat} (h1 : k ≤ k2) (h2 : n ≤ n2) (kk : gJ p l e R s m args below meth c Q nL D g As N ad ln A loc k2 n2 pc st) : gJ p l e R s m args below meth c Q nL D g As N ad ln A loc k n pc st := fun H locs ls hP hD hS hl => W.widen (k := k2) (n := n2) h1 h2 (kk H locs ls hP hD hS hl)
theorem g_zNow {H : Heap} {locs : List Loc} {U : State} (hC : gZ As s s.heap) (hA : ∀ q : Nat, s.heap.size ≤ q → As q) (hD : va_D As (gw g ad ln A N)) (hS : va_S As s.heap H locs) (hW : s.vm.Alike U.vm) : gZ (va_A (gw g ad ln A N) H.size) U H := by
  have hF := g_frees hD hS hA
  exact ⟨((hC.1.kept (fun a h1 h2 => hS.2.1 a h1 h2)).narrow hF).moved hW, ((hC.2.kept (fun a h1 h2 => hS.2.1 a h1 h2)).narrow hF).moved hW⟩
/-- where a method that may throw must come -/
def gEXi (below : List Frame) (D : va_G) (g : gT) (N : Nat) (ad ln : Nat → Nat) (A A' : gM) (res : Int32 ⊕ Nat) (mc : Nat) (args : Array Value) (s : State) : State → Prop := vx_MQ below (g_QXi D g N ad ln A s.heap.size A' res) (g_XC D g N ad ln A s.heap.size A' res) args s mc (6 * mc) (va_A (gw g ad ln A N) s.heap.size)
theorem g_metXi {y : MethodName} {b : ByteArray} {nl : Nat} {rt : Option FieldType} {av : List gV} {res : Int32 ⊕ Nat} (hl : l.stackTraces = false) (hpl : plainName y.cls = true) (hlen : (av.map g_cat).foldr (fun c n => (if c = 2 then 2 else 1) + n) 0 ≤ nl)
    (body : ∀ (p : Program) (e : Env) (s : State) (m : MethodId) (args : Array Value) (below : List Frame) (meth : Method) (c : Code), gC p (g_rmx d mc (6 * mc)) s m args meth c b y.cls nl D g (va_A (gw g ad ln A N) s.heap.size) d → gCX l s c (va_A (gw g ad ln A N) s.heap.size) → meth.sig.returnType = rt → gJ p l e (g_rmx d mc (6 * mc)) s m args below meth c (gEXi below D g N ad ln A A' res mc args s) nl D g (va_A (gw g ad ln A N) s.heap.size) N ad ln A (g_args 0 av) 0 0 0 []) : gXi l y b nl rt d mc D g N ad ln A av A' res := by
  intro sz
  refine vx_ofW (cc := b) (maxL := nl) (ret := rt) hpl rfl ?_
  intro p e s m args below meth c s₁ B hml hex hv
  obtain ⟨rfl, hsz, hP, hK, hD0, hX, hZ⟩ := hv
  subst hsz
  have hts := atoms_spec (ws := g_ws y b nl rt) B.pre
  have hown : s.vm.findClass y.cls = some m.cls := findClass_of_methodNamed B.named
  have hl2 := lv_entry (av.map (g_v ad)) (n := nl) (by rw [g_sl_len]; exact hlen)
  rw [lg_entry_eq]
  rw [g_args_map] at hl2
  exact body p e s m _ below meth c ⟨B.exec, B.bytes, hml, hown, fun w hw => hts w (List.mem_cons_of_mem _ hw), hK, fun q h => Or.inr h, B.notSynchronized, Nat.le_refl _, Nat.le_refl _⟩ ⟨hl, hX, hZ, hex⟩ B.returns s.heap [] _ hP hD0.self va_S.rf hl2
/-- where a method that may throw must come -/
def gEXv (below : List Frame) (D : va_G) (g : gT) (N : Nat) (ad ln : Nat → Nat) (A A' : gM) (res : Int32 ⊕ Nat) (mc : Nat) (args : Array Value) (s : State) : State → Prop := vx_MQ below (g_QXv D g N ad ln A s.heap.size A' res) (g_XC D g N ad ln A s.heap.size A' res) args s mc (6 * mc) (va_A (gw g ad ln A N) s.heap.size)
theorem g_metXv {y : MethodName} {b : ByteArray} {nl : Nat} {rt : Option FieldType} {av : List gV} {res : Int32 ⊕ Nat} (hl : l.stackTraces = false) (hpl : plainName y.cls = true) (hlen : (av.map g_cat).foldr (fun c n => (if c = 2 then 2 else 1) + n) 0 ≤ nl)
    (body : ∀ (p : Program) (e : Env) (s : State) (m : MethodId) (args : Array Value) (below : List Frame) (meth : Method) (c : Code), gC p (g_rmx d mc (6 * mc)) s m args meth c b y.cls nl D g (va_A (gw g ad ln A N) s.heap.size) d → gCX l s c (va_A (gw g ad ln A N) s.heap.size) → meth.sig.returnType = rt → gJ p l e (g_rmx d mc (6 * mc)) s m args below meth c (gEXv below D g N ad ln A A' res mc args s) nl D g (va_A (gw g ad ln A N) s.heap.size) N ad ln A (g_args 0 av) 0 0 0 []) : gXv l y b nl rt d mc D g N ad ln A av A' res := by
  intro sz
  refine vx_ofW (cc := b) (maxL := nl) (ret := rt) hpl rfl ?_
  intro p e s m args below meth c s₁ B hml hex hv
  obtain ⟨rfl, hsz, hP, hK, hD0, hX, hZ⟩ := hv
  subst hsz
  have hts := atoms_spec (ws := g_ws y b nl rt) B.pre
  have hown : s.vm.findClass y.cls = some m.cls := findClass_of_methodNamed B.named
  have hl2 := lv_entry (av.map (g_v ad)) (n := nl) (by rw [g_sl_len]; exact hlen)
  rw [lg_entry_eq]
  rw [g_args_map] at hl2
  exact body p e s m _ below meth c ⟨B.exec, B.bytes, hml, hown, fun w hw => hts w (List.mem_cons_of_mem _ hw), hK, fun q h => Or.inr h, B.notSynchronized, Nat.le_refl _, Nat.le_refl _⟩ ⟨hl, hX, hZ, hex⟩ B.returns s.heap [] _ hP hD0.self va_S.rf hl2
theorem g_retXi (C : gC p R s m args meth c cc own nL D g (va_A (gw g ad ln A N) s.heap.size) d) {r : Int32} {res : Int32 ⊕ Nat} (hres : res = .inl r) (hk : k ≤ mc) (hn : n ≤ 6 * mc) (hr : meth.sig.returnType = some .int) (hdg : decode cc pc = .ok (.ireturn, 1)) : gJ p l e R s m args below meth c (gEXi below D g N ad ln A A' res mc args s) nL D g (va_A (gw g ad ln A N) s.heap.size) N ad ln A' loc k n pc [gi r] := fun H locs ls hP hD hS hl => W.widen (k := mc) (n := 6 * mc) hk hn (vx_ret (W.iret (v := r) C.1 C.2.1 hr (fun t ht hW => ⟨⟨r, (), rfl, hres, by rw [ht]; exact hP, va_K.moved hW.alike C.2.2.2.2.2.1, hD⟩, hS.F ht⟩) hS.2.2 hdg C.2.2.2.2.2.2.2.1))
theorem g_retXv (C : gC p R s m args meth c cc own nL D g (va_A (gw g ad ln A N) s.heap.size) d) {res : Int32 ⊕ Nat} (hres : res = .inl 0) (hk : k ≤ mc) (hn : n ≤ 6 * mc) (hr : meth.sig.returnType = none) (hdg : decode cc pc = .ok (.return_, 1)) : gJ p l e R s m args below meth c (gEXv below D g N ad ln A A' res mc args s) nL D g (va_A (gw g ad ln A N) s.heap.size) N ad ln A' loc k n pc [] := fun H locs ls hP hD hS hl => W.widen (k := mc) (n := 6 * mc) hk hn (vx_ret (W.vret C.1 C.2.1 hr (fun t ht hW => ⟨⟨(), rfl, hres, by rw [ht]; exact hP, va_K.moved hW.alike C.2.2.2.2.2.1, hD⟩, hS.F ht⟩) hS.2.2 hdg C.2.2.2.2.2.2.2.1))
theorem g_retXz (C : gC p R s m args meth c cc own nL D g (va_A (gw g ad ln A N) s.heap.size) d) {r : Int32} {res : Int32 ⊕ Nat} (hres : res = .inl r) (hk : k ≤ mc) (hn : n ≤ 6 * mc) (hr : meth.sig.returnType = some .boolean) (hz : r = 0 ∨ r = 1) (hdg : decode cc pc = .ok (.ireturn, 1)) : gJ p l e R s m args below meth c (gEXi below D g N ad ln A A' res mc args s) nL D g (va_A (gw g ad ln A N) s.heap.size) N ad ln A' loc k n pc [gi r] := fun H locs ls hP hD hS hl => W.widen (k := mc) (n := 6 * mc) hk hn (vx_ret (W.zret (v := r) C.1 C.2.1 hr (by rcases hz with rfl | rfl <;> rfl) (fun t ht hW => ⟨⟨r, (), rfl, hres, by rw [ht]; exact hP, va_K.moved hW.alike C.2.2.2.2.2.1, hD⟩, hS.F ht⟩) hS.2.2 hdg C.2.2.2.2.2.2.2.1))
theorem g_calliXi (C : gC p R s m args meth c cc own nL D g (va_A (gw g ad ln A0 N) s.heap.size) d) (CX : gCX l s c (va_A (gw g ad ln A0 N) s.heap.size)) (i : Nat) (as : List gV) {st0 : List gV} {Cn : String} {ci ix np mL d' c1 : Nat} {z : MethodName} {b : ByteArray} {rt : Option FieldType} {fs : List Value} {T : u_T} {Nn : Nat} {res1 res : Int32 ⊕ Nat} (hM : gXi l z b mL rt d' c1 D g N ad ln A (gr i :: as) A1 res1) (hs : g_site own Cn ix z b mL rt np) (hd : d' + 1 ≤ d) (hi : i < N) (he : g_ce g ad (g_ln ln i) (A i) i = .inr (ci, fs)) (hc : vwCl[ci]? = some (Cn, T, Nn)) (hn : as.length = np) (hst : st0 = as.reverse ++ gr i :: st) (hcat : (st.map g_cat).sum ≤ 8) (hk1 : k + c1 ≤ R.cells ∧ n + 6 * c1 ≤ R.slots) (hkm : k + c1 ≤ mc ∧ n + 6 * c1 ≤ 6 * mc) (hdg : decode cc pc = .ok (.invokevirtual ix, 3)) (hx : ∀ k, res1 = .inr k → A1 = A' ∧ res = .inr k) (kk : ∀ r : Int32, res1 = .inl r → gJ p l e R s m args below meth c (gEXi below D g N ad ln A0 A' res mc args s) nL D g (va_A (gw g ad ln A0 N) s.heap.size) N ad ln A1 loc (k + c1) (n + 6 * c1) (pc + 3) (gi r :: st)) : gJ p l e R s m args below meth c (gEXi below D g N ad ln A0 A' res mc args s) nL D g (va_A (gw g ad ln A0 N) s.heap.size) N ad ln A loc k n pc st0 := by
  intro H locs ls hP hD hS hl
  have hF := g_frees hD hS C.2.2.2.2.2.2.1
  refine vx_calli (vx_runV (C := Cn) (b := ad i) (As := as.map (g_v ad)) (rest := st.map (g_v ad)) ⟨C.1, C.2.1, C.2.2.1, C.2.2.2.1, C.2.2.2.2.1⟩ (hM H.size) (cwV np C.2.2.2.2.1 (g_goodV hs) rfl rfl rfl hs.2.2.2.2.2.1 (g_room C.2.2.2.2.2.2.2.2 hd hs.2.2.2.2.2.2)) ⟨g_blindX, va_recv C.2.2.2.2.2.1 hP (q0 := i) hc (by rw [gw_at hi, he]), fun U hU hW => ⟨rfl, by rw [hU], by rw [hU]; exact hP, va_K.moved hW.alike C.2.2.2.2.2.1, hD.weaken (fun _ _ _ _ => trivial), CX.2.1.warm hW, by rw [hU]; exact g_zNow CX.2.2.1 C.2.2.2.2.2.2.1 hD hS hW.alike⟩⟩ rfl (by rw [List.length_map]; exact hn) hl.1 (by show st0.map (g_v ad) = _; rw [hst]; simp [g_v]) (g_lv hcat) hdg ⟨hk1.1, hk1.2⟩) hS (fun q _ h => hF q h) hF (fun q _ h => hF q h) (fun E ce q9 u t H1 locs1 ht hvm hw hB hz1 hk1 hS hce hcv hcl => ?_) (fun r u t H1 locs1 ht hvm hw hB hz1 hk1 hS => ?_)
  · obtain ⟨j, hj, rfl, hP1, hK1, hD1⟩ := hB
    obtain ⟨rfl, hres⟩ := hx j hj
    rw [ht] at hP1
    refine vx_out (E := g_xn j) (fun x hx => absurd (CX.2.2.2 x hx) id) C.2.2.2.2.2.2.2.1 hce hcv hcl (fun t2 ht2 hW2 => ⟨(), trivial, ⟨j, hres, rfl, by rw [ht2]; exact hP1, va_K.moved hW2 C.2.2.2.2.2.1, hD1.weaken (fun _ _ _ h => hF _ h)⟩, hS.F ht2⟩) hS.2.2 hkm.1 hkm.2
  · obtain ⟨hP1, hK1, hD1⟩ := hB
    rw [ht] at hP1
    exact kk r hw H1 locs1 ls hP1 (hD1.weaken (fun _ _ _ h => hF _ h)) hS hl
theorem g_calliXv (C : gC p R s m args meth c cc own nL D g (va_A (gw g ad ln A0 N) s.heap.size) d) (CX : gCX l s c (va_A (gw g ad ln A0 N) s.heap.size)) (i : Nat) (as : List gV) {st0 : List gV} {Cn : String} {ci ix np mL d' c1 : Nat} {z : MethodName} {b : ByteArray} {rt : Option FieldType} {fs : List Value} {T : u_T} {Nn : Nat} {res1 res : Int32 ⊕ Nat} (hM : gXi l z b mL rt d' c1 D g N ad ln A (gr i :: as) A1 res1) (hs : g_site own Cn ix z b mL rt np) (hd : d' + 1 ≤ d) (hi : i < N) (he : g_ce g ad (g_ln ln i) (A i) i = .inr (ci, fs)) (hc : vwCl[ci]? = some (Cn, T, Nn)) (hn : as.length = np) (hst : st0 = as.reverse ++ gr i :: st) (hcat : (st.map g_cat).sum ≤ 8) (hk1 : k + c1 ≤ R.cells ∧ n + 6 * c1 ≤ R.slots) (hkm : k + c1 ≤ mc ∧ n + 6 * c1 ≤ 6 * mc) (hdg : decode cc pc = .ok (.invokevirtual ix, 3)) (hx : ∀ k, res1 = .inr k → A1 = A' ∧ res = .inr k) (kk : ∀ r : Int32, res1 = .inl r → gJ p l e R s m args below meth c (gEXv below D g N ad ln A0 A' res mc args s) nL D g (va_A (gw g ad ln A0 N) s.heap.size) N ad ln A1 loc (k + c1) (n + 6 * c1) (pc + 3) (gi r :: st)) : gJ p l e R s m args below meth c (gEXv below D g N ad ln A0 A' res mc args s) nL D g (va_A (gw g ad ln A0 N) s.heap.size) N ad ln A loc k n pc st0 := by
  intro H locs ls hP hD hS hl
  have hF := g_frees hD hS C.2.2.2.2.2.2.1
  refine vx_calli (vx_runV (C := Cn) (b := ad i) (As := as.map (g_v ad)) (rest := st.map (g_v ad)) ⟨C.1, C.2.1, C.2.2.1, C.2.2.2.1, C.2.2.2.2.1⟩ (hM H.size) (cwV np C.2.2.2.2.1 (g_goodV hs) rfl rfl rfl hs.2.2.2.2.2.1 (g_room C.2.2.2.2.2.2.2.2 hd hs.2.2.2.2.2.2)) ⟨g_blindX, va_recv C.2.2.2.2.2.1 hP (q0 := i) hc (by rw [gw_at hi, he]), fun U hU hW => ⟨rfl, by rw [hU], by rw [hU]; exact hP, va_K.moved hW.alike C.2.2.2.2.2.1, hD.weaken (fun _ _ _ _ => trivial), CX.2.1.warm hW, by rw [hU]; exact g_zNow CX.2.2.1 C.2.2.2.2.2.2.1 hD hS hW.alike⟩⟩ rfl (by rw [List.length_map]; exact hn) hl.1 (by show st0.map (g_v ad) = _; rw [hst]; simp [g_v]) (g_lv hcat) hdg ⟨hk1.1, hk1.2⟩) hS (fun q _ h => hF q h) hF (fun q _ h => hF q h) (fun E ce q9 u t H1 locs1 ht hvm hw hB hz1 hk1 hS hce hcv hcl => ?_) (fun r u t H1 locs1 ht hvm hw hB hz1 hk1 hS => ?_)
  · obtain ⟨j, hj, rfl, hP1, hK1, hD1⟩ := hB
    obtain ⟨rfl, hres⟩ := hx j hj
    rw [ht] at hP1
    refine vx_out (E := g_xn j) (fun x hx => absurd (CX.2.2.2 x hx) id) C.2.2.2.2.2.2.2.1 hce hcv hcl (fun t2 ht2 hW2 => ⟨(), trivial, ⟨j, hres, rfl, by rw [ht2]; exact hP1, va_K.moved hW2 C.2.2.2.2.2.1, hD1.weaken (fun _ _ _ h => hF _ h)⟩, hS.F ht2⟩) hS.2.2 hkm.1 hkm.2
  · obtain ⟨hP1, hK1, hD1⟩ := hB
    rw [ht] at hP1
    exact kk r hw H1 locs1 ls hP1 (hD1.weaken (fun _ _ _ h => hF _ h)) hS hl
theorem g_callvXi (C : gC p R s m args meth c cc own nL D g (va_A (gw g ad ln A0 N) s.heap.size) d) (CX : gCX l s c (va_A (gw g ad ln A0 N) s.heap.size)) (i : Nat) (as : List gV) {st0 : List gV} {Cn : String} {ci ix np mL d' c1 : Nat} {z : MethodName} {b : ByteArray} {rt : Option FieldType} {fs : List Value} {T : u_T} {Nn : Nat} {res1 res : Int32 ⊕ Nat} (hM : gXv l z b mL rt d' c1 D g N ad ln A (gr i :: as) A1 res1) (hs : g_site own Cn ix z b mL rt np) (hd : d' + 1 ≤ d) (hi : i < N) (he : g_ce g ad (g_ln ln i) (A i) i = .inr (ci, fs)) (hc : vwCl[ci]? = some (Cn, T, Nn)) (hn : as.length = np) (hst : st0 = as.reverse ++ gr i :: st) (hcat : (st.map g_cat).sum ≤ 8) (hk1 : k + c1 ≤ R.cells ∧ n + 6 * c1 ≤ R.slots) (hkm : k + c1 ≤ mc ∧ n + 6 * c1 ≤ 6 * mc) (hdg : decode cc pc = .ok (.invokevirtual ix, 3)) (hx : ∀ k, res1 = .inr k → A1 = A' ∧ res = .inr k) (kk : ∀ r : Int32, res1 = .inl r → gJ p l e R s m args below meth c (gEXi below D g N ad ln A0 A' res mc args s) nL D g (va_A (gw g ad ln A0 N) s.heap.size) N ad ln A1 loc (k + c1) (n + 6 * c1) (pc + 3) (st)) : gJ p l e R s m args below meth c (gEXi below D g N ad ln A0 A' res mc args s) nL D g (va_A (gw g ad ln A0 N) s.heap.size) N ad ln A loc k n pc st0 := by
  intro H locs ls hP hD hS hl
  have hF := g_frees hD hS C.2.2.2.2.2.2.1
  refine vx_callv (vx_runV (C := Cn) (b := ad i) (As := as.map (g_v ad)) (rest := st.map (g_v ad)) ⟨C.1, C.2.1, C.2.2.1, C.2.2.2.1, C.2.2.2.2.1⟩ (hM H.size) (cwV np C.2.2.2.2.1 (g_goodV hs) rfl rfl rfl hs.2.2.2.2.2.1 (g_room C.2.2.2.2.2.2.2.2 hd hs.2.2.2.2.2.2)) ⟨g_blindX, va_recv C.2.2.2.2.2.1 hP (q0 := i) hc (by rw [gw_at hi, he]), fun U hU hW => ⟨rfl, by rw [hU], by rw [hU]; exact hP, va_K.moved hW.alike C.2.2.2.2.2.1, hD.weaken (fun _ _ _ _ => trivial), CX.2.1.warm hW, by rw [hU]; exact g_zNow CX.2.2.1 C.2.2.2.2.2.2.1 hD hS hW.alike⟩⟩ rfl (by rw [List.length_map]; exact hn) hl.1 (by show st0.map (g_v ad) = _; rw [hst]; simp [g_v]) (g_lv hcat) hdg ⟨hk1.1, hk1.2⟩) hS (fun q _ h => hF q h) hF (fun q _ h => hF q h) (fun E ce q9 u t H1 locs1 ht hvm hw hB hz1 hk1 hS hce hcv hcl => ?_) (fun u t H1 locs1 ht hvm hw hB hz1 hk1 hS => ?_)
  · obtain ⟨j, hj, rfl, hP1, hK1, hD1⟩ := hB
    obtain ⟨rfl, hres⟩ := hx j hj
    rw [ht] at hP1
    refine vx_out (E := g_xn j) (fun x hx => absurd (CX.2.2.2 x hx) id) C.2.2.2.2.2.2.2.1 hce hcv hcl (fun t2 ht2 hW2 => ⟨(), trivial, ⟨j, hres, rfl, by rw [ht2]; exact hP1, va_K.moved hW2 C.2.2.2.2.2.1, hD1.weaken (fun _ _ _ h => hF _ h)⟩, hS.F ht2⟩) hS.2.2 hkm.1 hkm.2
  · obtain ⟨hP1, hK1, hD1⟩ := hB
    rw [ht] at hP1
    exact kk 0 hw H1 locs1 ls hP1 (hD1.weaken (fun _ _ _ h => hF _ h)) hS hl
theorem g_callvXv (C : gC p R s m args meth c cc own nL D g (va_A (gw g ad ln A0 N) s.heap.size) d) (CX : gCX l s c (va_A (gw g ad ln A0 N) s.heap.size)) (i : Nat) (as : List gV) {st0 : List gV} {Cn : String} {ci ix np mL d' c1 : Nat} {z : MethodName} {b : ByteArray} {rt : Option FieldType} {fs : List Value} {T : u_T} {Nn : Nat} {res1 res : Int32 ⊕ Nat} (hM : gXv l z b mL rt d' c1 D g N ad ln A (gr i :: as) A1 res1) (hs : g_site own Cn ix z b mL rt np) (hd : d' + 1 ≤ d) (hi : i < N) (he : g_ce g ad (g_ln ln i) (A i) i = .inr (ci, fs)) (hc : vwCl[ci]? = some (Cn, T, Nn)) (hn : as.length = np) (hst : st0 = as.reverse ++ gr i :: st) (hcat : (st.map g_cat).sum ≤ 8) (hk1 : k + c1 ≤ R.cells ∧ n + 6 * c1 ≤ R.slots) (hkm : k + c1 ≤ mc ∧ n + 6 * c1 ≤ 6 * mc) (hdg : decode cc pc = .ok (.invokevirtual ix, 3)) (hx : ∀ k, res1 = .inr k → A1 = A' ∧ res = .inr k) (kk : ∀ r : Int32, res1 = .inl r → gJ p l e R s m args below meth c (gEXv below D g N ad ln A0 A' res mc args s) nL D g (va_A (gw g ad ln A0 N) s.heap.size) N ad ln A1 loc (k + c1) (n + 6 * c1) (pc + 3) (st)) : gJ p l e R s m args below meth c (gEXv below D g N ad ln A0 A' res mc args s) nL D g (va_A (gw g ad ln A0 N) s.heap.size) N ad ln A loc k n pc st0 := by
  intro H locs ls hP hD hS hl
  have hF := g_frees hD hS C.2.2.2.2.2.2.1
  refine vx_callv (vx_runV (C := Cn) (b := ad i) (As := as.map (g_v ad)) (rest := st.map (g_v ad)) ⟨C.1, C.2.1, C.2.2.1, C.2.2.2.1, C.2.2.2.2.1⟩ (hM H.size) (cwV np C.2.2.2.2.1 (g_goodV hs) rfl rfl rfl hs.2.2.2.2.2.1 (g_room C.2.2.2.2.2.2.2.2 hd hs.2.2.2.2.2.2)) ⟨g_blindX, va_recv C.2.2.2.2.2.1 hP (q0 := i) hc (by rw [gw_at hi, he]), fun U hU hW => ⟨rfl, by rw [hU], by rw [hU]; exact hP, va_K.moved hW.alike C.2.2.2.2.2.1, hD.weaken (fun _ _ _ _ => trivial), CX.2.1.warm hW, by rw [hU]; exact g_zNow CX.2.2.1 C.2.2.2.2.2.2.1 hD hS hW.alike⟩⟩ rfl (by rw [List.length_map]; exact hn) hl.1 (by show st0.map (g_v ad) = _; rw [hst]; simp [g_v]) (g_lv hcat) hdg ⟨hk1.1, hk1.2⟩) hS (fun q _ h => hF q h) hF (fun q _ h => hF q h) (fun E ce q9 u t H1 locs1 ht hvm hw hB hz1 hk1 hS hce hcv hcl => ?_) (fun u t H1 locs1 ht hvm hw hB hz1 hk1 hS => ?_)
  · obtain ⟨j, hj, rfl, hP1, hK1, hD1⟩ := hB
    obtain ⟨rfl, hres⟩ := hx j hj
    rw [ht] at hP1
    refine vx_out (E := g_xn j) (fun x hx => absurd (CX.2.2.2 x hx) id) C.2.2.2.2.2.2.2.1 hce hcv hcl (fun t2 ht2 hW2 => ⟨(), trivial, ⟨j, hres, rfl, by rw [ht2]; exact hP1, va_K.moved hW2 C.2.2.2.2.2.1, hD1.weaken (fun _ _ _ h => hF _ h)⟩, hS.F ht2⟩) hS.2.2 hkm.1 hkm.2
  · obtain ⟨hP1, hK1, hD1⟩ := hB
    rw [ht] at hP1
    exact kk 0 hw H1 locs1 ls hP1 (hD1.weaken (fun _ _ _ h => hF _ h)) hS hl
theorem g_throwi (C : gC p R s m args meth c cc own nL D g (va_A (gw g ad ln A0 N) s.heap.size) d) (CX : gCX l s c (va_A (gw g ad ln A0 N) s.heap.size)) {ik ic : Nat} {res : Int32 ⊕ Nat} (j : Nat) (hj : j < 3) (hk : Cond.classLink own ik (g_xn j) ∈ gtb) (hini : Cond.initialized (g_xn j) ∈ gtb) (hgd : ∀ w ∈ (vx_at0 own ic (g_xn j) ["java/lang/RuntimeException", "java/lang/Exception"]).filter goodWord, w ∈ gtb) (hng : ∀ w ∈ (vx_at0 own ic (g_xn j) ["java/lang/RuntimeException", "java/lang/Exception"]).filter (fun w => !goodWord w), w ∈ gxw) (hot : ∀ w ∈ Cond.classLink own ik (g_xn j) :: Cond.initialized (g_xn j) :: vx_at0 own ic (g_xn j) ["java/lang/RuntimeException", "java/lang/Exception"], vx_ot w = true) (hres : res = .inr j) (hd : 6 ≤ d) (hcat : (st.map g_cat).sum ≤ 8) (hkr : k + 1 ≤ R.cells ∧ n + 6 ≤ R.slots) (hkm : k + 1 ≤ mc ∧ n + 6 ≤ 6 * mc)
    (d0 : decode cc pc = .ok (.new ik, 3)) (d3 : decode cc (pc + 3) = .ok (.dup, 1)) (d4 : decode cc (pc + 4) = .ok (.invokespecial ic, 3)) (d7 : decode cc (pc + 7) = .ok (.athrow, 1)) : gJ p l e R s m args below meth c (gEXi below D g N ad ln A0 A res mc args s) nL D g (va_A (gw g ad ln A0 N) s.heap.size) N ad ln A loc k n pc st := by
  intro H locs ls hP hD hS hl
  have hfit : Bundle.fit (g_xn j) = true := by
    match j, hj with
    | 0, _ => decide +kernel
    | 1, _ => decide +kernel
    | 2, _ => decide +kernel
  refine vx_throw0 (A := va_A (gw g ad ln A0 N) s.heap.size) (names := ["java/lang/RuntimeException", "java/lang/Exception"]) C.1 C.2.1 CX.1 C.2.2.2.1 hfit (by decide +kernel) (C.2.2.2.2.1 _ hk) (C.2.2.2.2.1 _ hini) (vx_hat (B := gxw) (fun w hw => C.2.2.2.2.1 w (hgd w hw)) hng (fun w hw => va_Nw.use (gX_tab w hw) (CX.2.1 w hw))) hot CX.2.2.1.1 CX.2.2.1.2 hS (by rw [C.2.2.1]; exact hl.1) d0 d3 d4 d7 (fun x hx => absurd (CX.2.2.2 x hx) id) (by have := C.2.2.2.2.2.2.2.2.1; simp; omega) (by have h1 := g_lv (ad := ad) hcat; have := C.2.2.2.2.2.2.2.2.2; simp at h1 ⊢; omega) hkr.1 hkr.2 C.2.2.2.2.2.2.2.1 ?_ hS.2.2 hkm.1 hkm.2
  intro t hvm hsz hkp
  have hP1 : va_P D vwCl (gw g ad ln A N) t.heap := hP.kept (fun k q hq => hkp q.1 (hP k q hq).lt)
  exact ⟨(), trivial, ⟨j, hres, rfl, hP1, va_K.moved hvm C.2.2.2.2.2.1, hD⟩, Nat.le_trans hS.1 hsz, fun q h1 h2 => by rw [hkp q (Nat.lt_of_lt_of_le h1 hS.1)]; exact hS.2.1 q h1 h2⟩
theorem g_throwv (C : gC p R s m args meth c cc own nL D g (va_A (gw g ad ln A0 N) s.heap.size) d) (CX : gCX l s c (va_A (gw g ad ln A0 N) s.heap.size)) {ik ic : Nat} {res : Int32 ⊕ Nat} (j : Nat) (hj : j < 3) (hk : Cond.classLink own ik (g_xn j) ∈ gtb) (hini : Cond.initialized (g_xn j) ∈ gtb) (hgd : ∀ w ∈ (vx_at0 own ic (g_xn j) ["java/lang/RuntimeException", "java/lang/Exception"]).filter goodWord, w ∈ gtb) (hng : ∀ w ∈ (vx_at0 own ic (g_xn j) ["java/lang/RuntimeException", "java/lang/Exception"]).filter (fun w => !goodWord w), w ∈ gxw) (hot : ∀ w ∈ Cond.classLink own ik (g_xn j) :: Cond.initialized (g_xn j) :: vx_at0 own ic (g_xn j) ["java/lang/RuntimeException", "java/lang/Exception"], vx_ot w = true) (hres : res = .inr j) (hd : 6 ≤ d) (hcat : (st.map g_cat).sum ≤ 8) (hkr : k + 1 ≤ R.cells ∧ n + 6 ≤ R.slots) (hkm : k + 1 ≤ mc ∧ n + 6 ≤ 6 * mc)
    (d0 : decode cc pc = .ok (.new ik, 3)) (d3 : decode cc (pc + 3) = .ok (.dup, 1)) (d4 : decode cc (pc + 4) = .ok (.invokespecial ic, 3)) (d7 : decode cc (pc + 7) = .ok (.athrow, 1)) : gJ p l e R s m args below meth c (gEXv below D g N ad ln A0 A res mc args s) nL D g (va_A (gw g ad ln A0 N) s.heap.size) N ad ln A loc k n pc st := by
  intro H locs ls hP hD hS hl
  have hfit : Bundle.fit (g_xn j) = true := by
    match j, hj with
    | 0, _ => decide +kernel
    | 1, _ => decide +kernel
    | 2, _ => decide +kernel
  refine vx_throw0 (A := va_A (gw g ad ln A0 N) s.heap.size) (names := ["java/lang/RuntimeException", "java/lang/Exception"]) C.1 C.2.1 CX.1 C.2.2.2.1 hfit (by decide +kernel) (C.2.2.2.2.1 _ hk) (C.2.2.2.2.1 _ hini) (vx_hat (B := gxw) (fun w hw => C.2.2.2.2.1 w (hgd w hw)) hng (fun w hw => va_Nw.use (gX_tab w hw) (CX.2.1 w hw))) hot CX.2.2.1.1 CX.2.2.1.2 hS (by rw [C.2.2.1]; exact hl.1) d0 d3 d4 d7 (fun x hx => absurd (CX.2.2.2 x hx) id) (by have := C.2.2.2.2.2.2.2.2.1; simp; omega) (by have h1 := g_lv (ad := ad) hcat; have := C.2.2.2.2.2.2.2.2.2; simp at h1 ⊢; omega) hkr.1 hkr.2 C.2.2.2.2.2.2.2.1 ?_ hS.2.2 hkm.1 hkm.2
  intro t hvm hsz hkp
  have hP1 : va_P D vwCl (gw g ad ln A N) t.heap := hP.kept (fun k q hq => hkp q.1 (hP k q hq).lt)
  exact ⟨(), trivial, ⟨j, hres, rfl, hP1, va_K.moved hvm C.2.2.2.2.2.1, hD⟩, Nat.le_trans hS.1 hsz, fun q h1 h2 => by rw [hkp q (Nat.lt_of_lt_of_le h1 hS.1)]; exact hS.2.1 q h1 h2⟩
end GX
end
section
/-! METHODS THAT MAKE ARRAYS (the reference): cells 193 on are new ones, 185 to 189 are the arrays that grow (all of cp places) -/
def g_cap (ln : Nat → Nat) (cp : Nat) : Prop := ln 185 = cp ∧ ln 186 = cp ∧ ln 187 = cp ∧ ln 188 = cp ∧ ln 189 = cp
/-- what a call may have changed of addresses and lengths -/
def g_chg (N : Nat) (ad ln ad' ln' : Nat → Nat) (cp' : Nat) : Prop := (∀ i, i < N → (i < 185 ∨ 190 ≤ i) → ad' i = ad i ∧ ln' i = ln i) ∧ g_cap ln' cp'
theorem g_chg.rf {N : Nat} {ad ln : Nat → Nat} {cp : Nat} (h : g_cap ln cp) : g_chg N ad ln ad ln cp := ⟨fun _ _ _ => ⟨rfl, rfl⟩, h⟩
theorem g_chg.trans {N N1 : Nat} {ad ln ad1 ln1 ad2 ln2 : Nat → Nat} {cp1 cp2 : Nat} (hN : N ≤ N1) (h : g_chg N ad ln ad1 ln1 cp1) (h2 : g_chg N1 ad1 ln1 ad2 ln2 cp2) : g_chg N ad ln ad2 ln2 cp2 :=
  ⟨fun i hi hr => ⟨((h2.1 i (by omega) hr).1).trans (h.1 i hi hr).1, ((h2.1 i (by omega) hr).2).trans (h.1 i hi hr).2⟩, h2.2⟩
/-- the references among the values are to cells that no call moves -/
def g_rok (N : Nat) : List gV → Prop
  | [] => True
  | .inl i :: r => (i < N ∧ (i < 185 ∨ 190 ≤ i)) ∧ g_rok N r
  | .inr _ :: r => g_rok N r
theorem g_rok_v {N : Nat} {ad ln ad' ln' : Nat → Nat} {cp' : Nat} (h : g_chg N ad ln ad' ln' cp') : ∀ {vs : List gV}, g_rok N vs → ∀ v ∈ vs, g_v ad' v = g_v ad v
  | [], _, v, hv => by cases hv
  | .inl i :: r, hr, v, hv => by
    rcases List.mem_cons.mp hv with rfl | hv
    · show Value.ref (ad' i) = .ref (ad i)
      rw [(h.1 i hr.1.1 hr.1.2).1]
    · exact g_rok_v h hr.2 v hv
  | .inr x :: r, hr, v, hv => by
    rcases List.mem_cons.mp hv with rfl | hv
    · rfl
    · exact g_rok_v (vs := r) h hr v hv
/-- the references among the values are below N -/
def g_rlt (N : Nat) : List gV → Prop
  | [] => True
  | .inl i :: r => i < N ∧ g_rlt N r
  | .inr _ :: r => g_rlt N r
theorem g_rok_st {N : Nat} {ad ln ad' ln' : Nat → Nat} {cp' : Nat} (h : g_chg N ad ln ad' ln' cp') {vs : List gV} (hr : g_rok N vs) : vs.map (g_v ad') = vs.map (g_v ad) := List.map_congr_left (g_rok_v h hr)
theorem g_rok_loc {N : Nat} {ad ln ad' ln' : Nat → Nat} {cp' : Nat} (h : g_chg N ad ln ad' ln' cp') {loc : List (Nat × gV)} (hr : g_rok N (loc.map Prod.snd)) : loc.map (g_q ad') = loc.map (g_q ad) :=
  List.map_congr_left fun q hq => by
    show (q.1, g_v ad' q.2) = (q.1, g_v ad q.2)
    rw [g_rok_v h hr q.2 (List.mem_map.mpr ⟨q, hq, rfl⟩)]
theorem g_isI_big {i : Nat} (h : 193 ≤ i) : g_isI i = true := by
  have : ¬ (i = 129 ∨ i = 183 ∨ i = 188 ∨ i = 192 ∨ i = 0 ∨ i = 1 ∨ i = 43 ∨ i = 128 ∨ i = 138 ∨ i = 2 ∨ i = 44 ∨ i = 85 ∨ i = 140) := by omega
  simpa [g_isI] using this
theorem g_ln_big {ln : Nat → Nat} {i : Nat} (h : 193 ≤ i) : g_ln ln i = ln i := if_pos (Or.inr h)
theorem g_out_ad {ad ad' : Nat → Nat} {b : Nat} (hb : b ≤ 150) (h : ∀ i, i < 193 → ad' i = ad i) : g_out ad' b = g_out ad b := by
  unfold g_out
  congr 5
  funext j
  by_cases q : j < 40
  · rw [if_pos q, if_pos q, h _ (by omega)]
  · rw [if_neg q, if_neg q]
theorem g_ce_ad {g : gT} {ad ad' : Nat → Nat} {n : Nat} {f : Nat → Int32} {i : Nat} (h : ∀ i, i < 193 → ad' i = ad i) : g_ce g ad' n f i = g_ce g ad n f i := by
  unfold g_ce
  rw [g_out_ad (b := 3) (by omega) h, g_out_ad (b := 45) (by omega) h, g_out_ad (b := 86) (by omega) h, g_out_ad (b := 141) (by omega) h]
  rw [h 130 (by omega), h 131 (by omega), h 132 (by omega), h 133 (by omega), h 134 (by omega), h 135 (by omega), h 136 (by omega), h 137 (by omega), h 184 (by omega), h 185 (by omega), h 186 (by omega), h 187 (by omega), h 188 (by omega), h 189 (by omega), h 190 (by omega), h 191 (by omega), h 1 (by omega), h 43 (by omega), h 128 (by omega), h 2 (by omega), h 44 (by omega), h 85 (by omega), h 126 (by omega), h 127 (by omega), h 129 (by omega), h 138 (by omega), h 182 (by omega), h 139 (by omega), h 140 (by omega), h 181 (by omega)]
theorem gw_len {g : gT} {ad ln : Nat → Nat} {A : gM} {N : Nat} : (gw g ad ln A N).length = N := by simp [gw]
theorem gw_push {g : gT} {ad ln : Nat → Nat} {A : gM} {N q w : Nat} {f : Nat → Int32} (hN : 193 ≤ N) : gw g (va_up ad N q) (va_up ln N w) (g_row A N f) (N + 1) = gw g ad ln A N ++ [(q, .inl (g.1, w, .inl f))] := by
  apply List.ext_getElem?
  intro k
  have hup : ∀ i, i < 193 → va_up ad N q i = ad i := fun i hi => if_neg (by omega)
  by_cases hk : k < N
  · rw [gw_at (by omega), List.getElem?_append_left (by rw [gw_len]; exact hk), gw_at hk, g_ce_ad hup, g_row_n (by omega)]
    have e1 : va_up ad N q k = ad k := if_neg (by omega)
    have e2 : g_ln (va_up ln N w) k = g_ln ln k := by
      unfold g_ln
      rw [show va_up ln N w k = ln k from if_neg (by omega)]
    rw [e1, e2]
  · by_cases e : k = N
    · subst e
      rw [gw_at (by omega), List.getElem?_append_right (by rw [gw_len]; exact Nat.le_refl _), gw_len, Nat.sub_self, g_row_s, g_ce_I (g_isI_big hN), g_ln_big hN]
      show some (va_up ad k q k, _) = some _
      rw [show va_up ad k q k = q from if_pos rfl, show va_up ln k w k = w from if_pos rfl]
    · rw [List.getElem?_eq_none_iff.mpr (by rw [gw_len]; omega), List.getElem?_eq_none_iff.mpr (by rw [List.length_append, gw_len]; simp; omega)]
section GA
variable {p : Program} {l : Launch} {e : Env} {R : Room} {s : State} {m : MethodId} {args : Array Value} {below : List Frame} {meth : Method} {c : Code} {Q : State → Prop} {nL : Nat} {D : va_G} {g : gT} {As : Nat → Prop} {N : Nat} {ad ln : Nat → Nat} {A A' A1 A0 : gM} {loc loc' : List (Nat × gV)} {k n pc : Nat} {st : List gV} {cc : ByteArray} {own : String} {d mc : Nat}
theorem g_K_cls {c1 : ClassId} {U : State} {t0 : Nat} {tt : FieldType} (hK : va_K D vwCl (g_tys g) U) (ht : (g_tys g)[t0]? = some (c1, tt)) (hp : ∀ C, tt ≠ .object C) : U.vm.findClass ("[" ++ tt.toString) = some c1 := by
  have h := (hK.2 t0 _ ht).2
  unfold va_RA at h
  cases tt <;> first | exact h | exact absurd rfl (hp _)
/-- new int[..]: the new cell is number N -/
theorem g_newI (C : gC p R s m args meth c cc own nL D g As d) (hN : 193 ≤ N) {x : Int32} {w : Nat} (hw : Cond.arrayClass .int ∈ gtb) (hx : ¬ x < 0) (hxw : x.toNatClampNeg = w) (hb : w ≤ 100000) (hkn : k + 1 ≤ R.cells ∧ n + w ≤ R.slots) (hr : g_rlt N (loc.map Prod.snd)) (hr2 : g_rlt N st) (hdg : decode cc pc = .ok (.newarray .int, 2))
    (kk : ∀ q : Nat, gJ p l e R s m args below meth c Q nL D g As (N + 1) (va_up ad N q) (va_up ln N w) (g_row A N (fun _ => 0)) loc (k + 1) (n + w) (pc + 2) (gr N :: st)) : gJ p l e R s m args below meth c Q nL D g As N ad ln A loc k n pc (gi x :: st) := fun H locs ls hP hD hS hl => by
  refine va_newa (atype := .int) (ty := .int) (N' := w) (a0 := (w, .inl (fun _ => 0))) C.1 C.2.1 (C.2.2.2.2.1 _ hw) rfl C.2.2.2.2.2.1 hP hD hS C.2.2.2.2.2.2.1 (fun _ => rfl) hx hxw (by show w * 4 ≤ 536870912; omega) hkn.1 hkn.2 hdg (fun q cA H1 hK1 hP1 hD1 hS1 => ?_)
  have hcA : cA = g.1 := by
    have h1 : va_RA s cA .int := (hK1.2 4 (cA, .int) rfl).2
    have h2 : va_RA s g.1 .int := (hK1.2 0 (g.1, .int) rfl).2
    exact Option.some.inj (h1.symm.trans h2)
  subst hcA
  rw [← gw_push hN] at hP1 hD1
  have hch : g_chg N ad ln (va_up ad N q) (va_up ln N w) (va_up ln N w 185) → True := fun _ => trivial
  have hv : ∀ {vs : List gV}, g_rlt N vs → ∀ v ∈ vs, g_v (va_up ad N q) v = g_v ad v := by
    intro vs
    induction vs with
    | nil => intro _ v hv; cases hv
    | cons a r ih =>
      intro h v hv
      cases a with
      | inl i =>
        rcases List.mem_cons.mp hv with rfl | hv
        · show Value.ref (va_up ad N q i) = .ref (ad i)
          rw [show va_up ad N q i = ad i from if_neg (by have := h.1; omega)]
        · exact ih h.2 v hv
      | inr y =>
        rcases List.mem_cons.mp hv with rfl | hv
        · rfl
        · exact ih h v hv
  have e1 : loc.map (g_q (va_up ad N q)) = loc.map (g_q ad) := List.map_congr_left fun z hz => by
    show (z.1, g_v _ z.2) = (z.1, g_v ad z.2)
    rw [hv hr z.2 (List.mem_map.mpr ⟨z, hz, rfl⟩)]
  have e2 : st.map (g_v (va_up ad N q)) = st.map (g_v ad) := List.map_congr_left (hv hr2)
  have hk := kk q H1 locs ls hP1 hD1 hS1 (by rw [e1]; exact hl)
  have e3 : (gr N :: st).map (g_v (va_up ad N q)) = .ref q :: st.map (g_v ad) := by
    rw [List.map_cons, e2]
    show Value.ref (va_up ad N q N) :: _ = _
    rw [show va_up ad N q N = q from if_pos rfl]
  rw [e3] at hk
  exact hk
/-- the last new cell is let go -/
theorem g_drop (kk : gJ p l e R s m args below meth c Q nL D g As N ad ln A loc k n pc st) : gJ p l e R s m args below meth c Q nL D g As (N + 1) ad ln A loc k n pc st := fun H locs ls hP hD hS hl => by
  have hs : ∀ (k : Nat) (q : Nat × va_E), (gw g ad ln A N)[k]? = some q → (gw g ad ln A (N + 1))[k]? = some q := fun k q h => by
    obtain ⟨h1, rfl⟩ := gw_of h
    rw [gw_at (by omega)]
  exact kk H locs ls (fun k q h => hP k q (hs k q h)) ⟨fun i j p q hi hj he => hD.1 i j p q (hs i p hi) (hs j q hj) he, fun k q h => hD.2 k q (hs k q h)⟩ hS hl
/-- the words of System.arraycopy -/
def g_siteC (own : String) (ix : Nat) : Prop := Cond.methodLink own ix arraycopyName ∈ gtb ∧ Cond.native arraycopyName ∈ gtb ∧ Cond.static arraycopyName ∈ gtb ∧ Cond.initialized "java/lang/System" ∈ gtb
/-- arraycopy between int arrays -/
theorem g_copy (C : gC p R s m args meth c cc own nL D g As d) (i j : Nat) {ni nj ix : Nat} {sp dp x : Int32} (hs : g_siteC own ix) (hi : i < N) (hI : g_isI i = true) (hn : g_ln ln i = ni) (hj : j < N) (hJ : g_isI j = true) (hm : g_ln ln j = nj) (h1 : ¬ sp < 0) (h2 : ¬ dp < 0) (h3 : ¬ x < 0) (h4 : sp.toNatClampNeg + x.toNatClampNeg ≤ ni) (h5 : dp.toNatClampNeg + x.toNatClampNeg ≤ nj) (hd : 1 ≤ d) (hcat : (st.map g_cat).sum ≤ 8) (hA : g_row A j (va_cpy (A i) (A j) sp.toNatClampNeg dp.toNatClampNeg x.toNatClampNeg) = A') (hdg : decode cc pc = .ok (.invokestatic ix, 3)) (kk : gJ p l e R s m args below meth c Q nL D g As N ad ln A' loc k n (pc + 3) st) : gJ p l e R s m args below meth c Q nL D g As N ad ln A loc k n pc (gi x :: gi dp :: gr j :: gi sp :: gr i :: st) := fun H locs ls hP hD hS hl => by
  refine va_copyi (ty := .int) (f := A i) (g := A j) (n0 := ni) (n1 := nj) C.1 C.2.1 (by rw [C.2.2.1]; exact hl.1.symm) C.2.2.2.1 (C.2.2.2.2.1 _ hs.1) (C.2.2.2.2.1 _ hs.2.1) (C.2.2.2.2.1 _ hs.2.2.1) (C.2.2.2.2.1 _ hs.2.2.2) C.2.2.2.2.2.1 hP hD hS i j 0 0 (by rw [gw_at hi, g_ce_I hI, hn]) (by rw [gw_at hj, g_ce_I hJ, hm]) rfl rfl rfl h1 h2 h3 h4 h5 (fun _ _ => rfl) (by have := C.2.2.2.2.2.2.2.2.1; omega) ?_ hdg (fun H1 locs1 hP1 hD1 hS1 => ?_)
  · have h1 := g_lv (ad := ad) hcat
    have := C.2.2.2.2.2.2.2.2.2
    have h6 : nativeFrameWords "java/lang/System" "arraycopy" 5 = 7 := by decide +kernel
    rw [h6]; omega
  · have e : (gw g ad ln A N).set j (ad j, .inl (g.1, nj, .inl (va_cpy (A i) (A j) sp.toNatClampNeg dp.toNatClampNeg x.toNatClampNeg))) = gw g ad ln A' N := by
      rw [← hA, ← gw_set hj, g_ce_I hJ, hm]
    rw [e] at hP1 hD1
    exact kk H1 locs1 ls hP1 hD1 hS1 hl
end GA
end
section
/-! CONTRACTS of methods that make arrays: N cells before, the same behind (Ar: one more, the answer) -/
def g_BA (D : va_G) (g : gT) (N : Nat) (ad ln : Nat → Nat) (A : gM) (sz N2 : Nat) (A' : gM) (cp' : Nat) (u : (Nat → Nat) × (Nat → Nat)) (t : State) : Prop :=
  g_chg N ad ln u.1 u.2 cp' ∧ va_P D vwCl (gw g u.1 u.2 A' N2) t.heap ∧ va_K D vwCl (g_tys g) t ∧ va_D (va_A (gw g ad ln A N) sz) (gw g u.1 u.2 A' N2)
abbrev gU : Type := (Nat → Nat) × (Nat → Nat)
def g_QAi (D : va_G) (g : gT) (N : Nat) (ad ln : Nat → Nat) (A : gM) (sz : Nat) (A' : gM) (cp' : Nat) (r : Int32) : Array Value → State → Outcome → State → Prop :=
  va_Qi (S := gU) (fun x _ => x = r) (fun u t => g_BA D g N ad ln A sz N A' cp' u t) (va_A (gw g ad ln A N) sz)
def g_QAl (D : va_G) (g : gT) (N : Nat) (ad ln : Nat → Nat) (A : gM) (sz : Nat) (A' : gM) (cp' : Nat) (r : Int64) : Array Value → State → Outcome → State → Prop :=
  va_Ql (S := gU) (fun x _ => x = r) (fun u t => g_BA D g N ad ln A sz N A' cp' u t) (va_A (gw g ad ln A N) sz)
def g_QAv (D : va_G) (g : gT) (N : Nat) (ad ln : Nat → Nat) (A : gM) (sz : Nat) (A' : gM) (cp' : Nat) : Array Value → State → Outcome → State → Prop :=
  va_Qv (S := gU) (fun _ => True) (fun u t => g_BA D g N ad ln A sz N A' cp' u t) (va_A (gw g ad ln A N) sz)
def g_QAr (D : va_G) (g : gT) (N : Nat) (ad ln : Nat → Nat) (A : gM) (sz : Nat) (A' : gM) (cp' w : Nat) : Array Value → State → Outcome → State → Prop :=
  va_Qr (S := gU) (fun _ => True) (fun u a t => a = u.1 N ∧ u.2 N = w ∧ g_BA D g N ad ln A sz (N + 1) A' cp' u t) (va_A (gw g ad ln A N) sz)
def gAi (l : Launch) (y : MethodName) (b : ByteArray) (nl : Nat) (rt : Option FieldType) (d : Nat) (D : va_G) (g : gT) (N : Nat) (ad ln : Nat → Nat) (A : gM) (av : List gV) (A' : gM) (u : Nat × Nat × Nat) (r : Int32) : Prop :=
  ∀ sz, Met l y (g_ws y b nl rt) (g_rmx d u.2.1 u.2.2) (g_pre D g N ad ln A sz av) (g_QAi D g N ad ln A sz A' u.1 r) u.2.1 u.2.2 (va_A (gw g ad ln A N) sz)
def gAl (l : Launch) (y : MethodName) (b : ByteArray) (nl : Nat) (rt : Option FieldType) (d : Nat) (D : va_G) (g : gT) (N : Nat) (ad ln : Nat → Nat) (A : gM) (av : List gV) (A' : gM) (u : Nat × Nat × Nat) (r : Int64) : Prop :=
  ∀ sz, Met l y (g_ws y b nl rt) (g_rmx d u.2.1 u.2.2) (g_pre D g N ad ln A sz av) (g_QAl D g N ad ln A sz A' u.1 r) u.2.1 u.2.2 (va_A (gw g ad ln A N) sz)
def gAv (l : Launch) (y : MethodName) (b : ByteArray) (nl : Nat) (rt : Option FieldType) (d : Nat) (D : va_G) (g : gT) (N : Nat) (ad ln : Nat → Nat) (A : gM) (av : List gV) (A' : gM) (u : Nat × Nat × Nat)  : Prop :=
  ∀ sz, Met l y (g_ws y b nl rt) (g_rmx d u.2.1 u.2.2) (g_pre D g N ad ln A sz av) (g_QAv D g N ad ln A sz A' u.1) u.2.1 u.2.2 (va_A (gw g ad ln A N) sz)
def gAr (l : Launch) (y : MethodName) (b : ByteArray) (nl : Nat) (rt : Option FieldType) (d : Nat) (D : va_G) (g : gT) (N : Nat) (ad ln : Nat → Nat) (A : gM) (av : List gV) (A' : gM) (u : Nat × Nat × Nat) (r : Nat) : Prop :=
  ∀ sz, Met l y (g_ws y b nl rt) (g_rmx d u.2.1 u.2.2) (g_pre D g N ad ln A sz av) (g_QAr D g N ad ln A sz A' u.1 r) u.2.1 u.2.2 (va_A (gw g ad ln A N) sz)
section GAC
variable {p : Program} {l : Launch} {e : Env} {R : Room} {s : State} {m : MethodId} {args : Array Value} {below : List Frame} {meth : Method} {c : Code} {Q : State → Prop} {nL : Nat} {D : va_G} {g : gT} {As : Nat → Prop} {N N0 : Nat} {ad ln ad0 ln0 : Nat → Nat} {A A' A1 A0 : gM} {loc loc' : List (Nat × gV)} {k n pc cp' : Nat} {st : List gV} {cc : ByteArray} {own : String} {d mc : Nat}
/-- where a method that makes arrays must come -/
def gEAi (below : List Frame) (D : va_G) (g : gT) (N : Nat) (ad ln : Nat → Nat) (A A' : gM) (u : Nat × Nat × Nat) (r : Int32) (args : Array Value) (s : State) : State → Prop := MQ below (g_QAi D g N ad ln A s.heap.size A' u.1 r) args s u.2.1 u.2.2 (va_A (gw g ad ln A N) s.heap.size)
theorem g_metAi {y : MethodName} {b : ByteArray} {nl : Nat} {rt : Option FieldType} {av : List gV} {u : Nat × Nat × Nat} {r : Int32} (hpl : plainName y.cls = true) (hlen : (av.map g_cat).foldr (fun c n => (if c = 2 then 2 else 1) + n) 0 ≤ nl)
    (body : ∀ (p : Program) (e : Env) (s : State) (m : MethodId) (args : Array Value) (below : List Frame) (meth : Method) (c : Code), gC p (g_rmx d u.2.1 u.2.2) s m args meth c b y.cls nl D g (va_A (gw g ad ln A N) s.heap.size) d → meth.sig.returnType = rt → gJ p l e (g_rmx d u.2.1 u.2.2) s m args below meth c (gEAi below D g N ad ln A A' u r args s) nl D g (va_A (gw g ad ln A N) s.heap.size) N ad ln A (g_args 0 av) 0 0 0 []) : gAi l y b nl rt d D g N ad ln A av A' u r := by
  intro sz
  refine Met.ofW (cc := b) (maxL := nl) (ret := rt) hpl rfl ?_
  intro p e s m args below meth c s₁ B hml hv
  obtain ⟨rfl, hsz, hP, hK, hD0⟩ := hv
  subst hsz
  have hts := atoms_spec (ws := g_ws y b nl rt) B.pre
  have hown : s.vm.findClass y.cls = some m.cls := findClass_of_methodNamed B.named
  have hl := lv_entry (av.map (g_v ad)) (n := nl) (by rw [g_sl_len]; exact hlen)
  rw [lg_entry_eq]
  rw [g_args_map] at hl
  exact body p e s m _ below meth c ⟨B.exec, B.bytes, hml, hown, fun w hw => hts w (List.mem_cons_of_mem _ hw), hK, fun q h => Or.inr h, B.notSynchronized, Nat.le_refl _, Nat.le_refl _⟩ B.returns s.heap [] _ hP hD0.self va_S.rf hl
/-- where a method that makes arrays must come -/
def gEAl (below : List Frame) (D : va_G) (g : gT) (N : Nat) (ad ln : Nat → Nat) (A A' : gM) (u : Nat × Nat × Nat) (r : Int64) (args : Array Value) (s : State) : State → Prop := MQ below (g_QAl D g N ad ln A s.heap.size A' u.1 r) args s u.2.1 u.2.2 (va_A (gw g ad ln A N) s.heap.size)
theorem g_metAl {y : MethodName} {b : ByteArray} {nl : Nat} {rt : Option FieldType} {av : List gV} {u : Nat × Nat × Nat} {r : Int64} (hpl : plainName y.cls = true) (hlen : (av.map g_cat).foldr (fun c n => (if c = 2 then 2 else 1) + n) 0 ≤ nl)
    (body : ∀ (p : Program) (e : Env) (s : State) (m : MethodId) (args : Array Value) (below : List Frame) (meth : Method) (c : Code), gC p (g_rmx d u.2.1 u.2.2) s m args meth c b y.cls nl D g (va_A (gw g ad ln A N) s.heap.size) d → meth.sig.returnType = rt → gJ p l e (g_rmx d u.2.1 u.2.2) s m args below meth c (gEAl below D g N ad ln A A' u r args s) nl D g (va_A (gw g ad ln A N) s.heap.size) N ad ln A (g_args 0 av) 0 0 0 []) : gAl l y b nl rt d D g N ad ln A av A' u r := by
  intro sz
  refine Met.ofW (cc := b) (maxL := nl) (ret := rt) hpl rfl ?_
  intro p e s m args below meth c s₁ B hml hv
  obtain ⟨rfl, hsz, hP, hK, hD0⟩ := hv
  subst hsz
  have hts := atoms_spec (ws := g_ws y b nl rt) B.pre
  have hown : s.vm.findClass y.cls = some m.cls := findClass_of_methodNamed B.named
  have hl := lv_entry (av.map (g_v ad)) (n := nl) (by rw [g_sl_len]; exact hlen)
  rw [lg_entry_eq]
  rw [g_args_map] at hl
  exact body p e s m _ below meth c ⟨B.exec, B.bytes, hml, hown, fun w hw => hts w (List.mem_cons_of_mem _ hw), hK, fun q h => Or.inr h, B.notSynchronized, Nat.le_refl _, Nat.le_refl _⟩ B.returns s.heap [] _ hP hD0.self va_S.rf hl
/-- where a method that makes arrays must come -/
def gEAv (below : List Frame) (D : va_G) (g : gT) (N : Nat) (ad ln : Nat → Nat) (A A' : gM) (u : Nat × Nat × Nat)  (args : Array Value) (s : State) : State → Prop := MQ below (g_QAv D g N ad ln A s.heap.size A' u.1) args s u.2.1 u.2.2 (va_A (gw g ad ln A N) s.heap.size)
theorem g_metAv {y : MethodName} {b : ByteArray} {nl : Nat} {rt : Option FieldType} {av : List gV} {u : Nat × Nat × Nat}  (hpl : plainName y.cls = true) (hlen : (av.map g_cat).foldr (fun c n => (if c = 2 then 2 else 1) + n) 0 ≤ nl)
    (body : ∀ (p : Program) (e : Env) (s : State) (m : MethodId) (args : Array Value) (below : List Frame) (meth : Method) (c : Code), gC p (g_rmx d u.2.1 u.2.2) s m args meth c b y.cls nl D g (va_A (gw g ad ln A N) s.heap.size) d → meth.sig.returnType = rt → gJ p l e (g_rmx d u.2.1 u.2.2) s m args below meth c (gEAv below D g N ad ln A A' u args s) nl D g (va_A (gw g ad ln A N) s.heap.size) N ad ln A (g_args 0 av) 0 0 0 []) : gAv l y b nl rt d D g N ad ln A av A' u := by
  intro sz
  refine Met.ofW (cc := b) (maxL := nl) (ret := rt) hpl rfl ?_
  intro p e s m args below meth c s₁ B hml hv
  obtain ⟨rfl, hsz, hP, hK, hD0⟩ := hv
  subst hsz
  have hts := atoms_spec (ws := g_ws y b nl rt) B.pre
  have hown : s.vm.findClass y.cls = some m.cls := findClass_of_methodNamed B.named
  have hl := lv_entry (av.map (g_v ad)) (n := nl) (by rw [g_sl_len]; exact hlen)
  rw [lg_entry_eq]
  rw [g_args_map] at hl
  exact body p e s m _ below meth c ⟨B.exec, B.bytes, hml, hown, fun w hw => hts w (List.mem_cons_of_mem _ hw), hK, fun q h => Or.inr h, B.notSynchronized, Nat.le_refl _, Nat.le_refl _⟩ B.returns s.heap [] _ hP hD0.self va_S.rf hl
/-- where a method that makes arrays must come -/
def gEAr (below : List Frame) (D : va_G) (g : gT) (N : Nat) (ad ln : Nat → Nat) (A A' : gM) (u : Nat × Nat × Nat) (r : Nat) (args : Array Value) (s : State) : State → Prop := MQ below (g_QAr D g N ad ln A s.heap.size A' u.1 r) args s u.2.1 u.2.2 (va_A (gw g ad ln A N) s.heap.size)
theorem g_metAr {y : MethodName} {b : ByteArray} {nl : Nat} {rt : Option FieldType} {av : List gV} {u : Nat × Nat × Nat} {r : Nat} (hpl : plainName y.cls = true) (hlen : (av.map g_cat).foldr (fun c n => (if c = 2 then 2 else 1) + n) 0 ≤ nl)
    (body : ∀ (p : Program) (e : Env) (s : State) (m : MethodId) (args : Array Value) (below : List Frame) (meth : Method) (c : Code), gC p (g_rmx d u.2.1 u.2.2) s m args meth c b y.cls nl D g (va_A (gw g ad ln A N) s.heap.size) d → meth.sig.returnType = rt → gJ p l e (g_rmx d u.2.1 u.2.2) s m args below meth c (gEAr below D g N ad ln A A' u r args s) nl D g (va_A (gw g ad ln A N) s.heap.size) N ad ln A (g_args 0 av) 0 0 0 []) : gAr l y b nl rt d D g N ad ln A av A' u r := by
  intro sz
  refine Met.ofW (cc := b) (maxL := nl) (ret := rt) hpl rfl ?_
  intro p e s m args below meth c s₁ B hml hv
  obtain ⟨rfl, hsz, hP, hK, hD0⟩ := hv
  subst hsz
  have hts := atoms_spec (ws := g_ws y b nl rt) B.pre
  have hown : s.vm.findClass y.cls = some m.cls := findClass_of_methodNamed B.named
  have hl := lv_entry (av.map (g_v ad)) (n := nl) (by rw [g_sl_len]; exact hlen)
  rw [lg_entry_eq]
  rw [g_args_map] at hl
  exact body p e s m _ below meth c ⟨B.exec, B.bytes, hml, hown, fun w hw => hts w (List.mem_cons_of_mem _ hw), hK, fun q h => Or.inr h, B.notSynchronized, Nat.le_refl _, Nat.le_refl _⟩ B.returns s.heap [] _ hP hD0.self va_S.rf hl
theorem g_retAi (C : gC p R s m args meth c cc own nL D g (va_A (gw g ad0 ln0 A0 N) s.heap.size) d) {r : Int32} (hch : g_chg N ad0 ln0 ad ln cp') (hr : meth.sig.returnType = some .int) (hdg : decode cc pc = .ok (.ireturn, 1)) : gJ p l e R s m args below meth c (gEAi below D g N ad0 ln0 A0 A (cp', k, n) r args s) nL D g (va_A (gw g ad0 ln0 A0 N) s.heap.size) N ad ln A loc k n pc [gi r] := fun H locs ls hP hD hS hl => W.iret (v := r) C.1 C.2.1 hr (fun t ht hW => ⟨⟨r, (ad, ln), rfl, rfl, hch, by rw [ht]; exact hP, va_K.moved hW.alike C.2.2.2.2.2.1, hD⟩, hS.F ht⟩) hS.2.2 hdg C.2.2.2.2.2.2.2.1
theorem g_retAl (C : gC p R s m args meth c cc own nL D g (va_A (gw g ad0 ln0 A0 N) s.heap.size) d) {r : Int64} (hch : g_chg N ad0 ln0 ad ln cp') (hr : meth.sig.returnType = some .long) (hdg : decode cc pc = .ok (.lreturn, 1)) : gJ p l e R s m args below meth c (gEAl below D g N ad0 ln0 A0 A (cp', k, n) r args s) nL D g (va_A (gw g ad0 ln0 A0 N) s.heap.size) N ad ln A loc k n pc [gl r] := fun H locs ls hP hD hS hl => W.lret (v := r) C.1 C.2.1 hr (fun t ht hW => ⟨⟨r, (ad, ln), rfl, rfl, hch, by rw [ht]; exact hP, va_K.moved hW.alike C.2.2.2.2.2.1, hD⟩, hS.F ht⟩) hS.2.2 hdg C.2.2.2.2.2.2.2.1
theorem g_retAv (C : gC p R s m args meth c cc own nL D g (va_A (gw g ad0 ln0 A0 N) s.heap.size) d) (hch : g_chg N ad0 ln0 ad ln cp') (hr : meth.sig.returnType = none) (hdg : decode cc pc = .ok (.return_, 1)) : gJ p l e R s m args below meth c (gEAv below D g N ad0 ln0 A0 A (cp', k, n) args s) nL D g (va_A (gw g ad0 ln0 A0 N) s.heap.size) N ad ln A loc k n pc [] := fun H locs ls hP hD hS hl => W.vret C.1 C.2.1 hr (fun t ht hW => ⟨⟨(ad, ln), rfl, trivial, hch, by rw [ht]; exact hP, va_K.moved hW.alike C.2.2.2.2.2.1, hD⟩, hS.F ht⟩) hS.2.2 hdg C.2.2.2.2.2.2.2.1
theorem g_retAz (C : gC p R s m args meth c cc own nL D g (va_A (gw g ad0 ln0 A0 N) s.heap.size) d) {r : Int32} (hch : g_chg N ad0 ln0 ad ln cp') (hr : meth.sig.returnType = some .boolean) (hz : r = 0 ∨ r = 1) (hdg : decode cc pc = .ok (.ireturn, 1)) : gJ p l e R s m args below meth c (gEAi below D g N ad0 ln0 A0 A (cp', k, n) r args s) nL D g (va_A (gw g ad0 ln0 A0 N) s.heap.size) N ad ln A loc k n pc [gi r] := fun H locs ls hP hD hS hl => W.zret (v := r) C.1 C.2.1 hr (by rcases hz with rfl | rfl <;> rfl) (fun t ht hW => ⟨⟨r, (ad, ln), rfl, rfl, hch, by rw [ht]; exact hP, va_K.moved hW.alike C.2.2.2.2.2.1, hD⟩, hS.F ht⟩) hS.2.2 hdg C.2.2.2.2.2.2.2.1
theorem g_retAr (C : gC p R s m args meth c cc own nL D g (va_A (gw g ad0 ln0 A0 N) s.heap.size) d) {w : Nat} {rt : FieldType} (hch : g_chg N ad0 ln0 ad ln cp') (hw : ln N = w) (hr : meth.sig.returnType = some rt) (hrt : (∃ n, rt = .object n) ∨ ∃ t, rt = .array t) (hdg : decode cc pc = .ok (.areturn, 1)) : gJ p l e R s m args below meth c (gEAr below D g N ad0 ln0 A0 A (cp', k, n) w args s) nL D g (va_A (gw g ad0 ln0 A0 N) s.heap.size) (N + 1) ad ln A loc k n pc [gr N] := fun H locs ls hP hD hS hl => W.aret (v := .ref (ad N)) C.1 C.2.1 hr hrt (Or.inr ⟨_, rfl⟩) (fun t ht hW => ⟨⟨(ad, ln), ad N, rfl, trivial, rfl, hw, hch, by rw [ht]; exact hP, va_K.moved hW.alike C.2.2.2.2.2.1, hD⟩, hS.F ht⟩) hS.2.2 hdg C.2.2.2.2.2.2.2.1
theorem g_roomx {d d' mL k n : Nat} {R : Room} (h1 : d ≤ R.frames ∧ 40 * d ≤ R.locals) (h2 : d' + 1 ≤ d) (h3 : mL ≤ 20) : (g_rmx d' k n).frames + 1 ≤ R.frames ∧ 8 + (mL + 11) + (g_rmx d' k n).locals ≤ R.locals := by
  show d' + 1 ≤ R.frames ∧ 8 + (mL + 11) + 40 * d' ≤ R.locals
  omega
theorem g_callAiV (C : gC p R s m args meth c cc own nL D g As d) (i : Nat) (as : List gV) {st0 : List gV} {Cn : String} {ci ix np mL d' : Nat} {z : MethodName} {b : ByteArray} {rt : Option FieldType} {fs : List Value} {T : u_T} {Nn : Nat} {u : Nat × Nat × Nat} {r : Int32} (hM : gAi l z b mL rt d' D g N ad ln A (gr i :: as) A1 u r) (hs : g_site own Cn ix z b mL rt np) (hd : d' + 1 ≤ d) (hi : i < N) (he : g_ce g ad (g_ln ln i) (A i) i = .inr (ci, fs)) (hc : vwCl[ci]? = some (Cn, T, Nn)) (hn : as.length = np) (hst : st0 = as.reverse ++ gr i :: st) (hcat : (st.map g_cat).sum ≤ 8) (hkn : k + u.2.1 ≤ R.cells ∧ n + u.2.2 ≤ R.slots) (hr : g_rok N (loc.map Prod.snd)) (hr2 : g_rok N st) (hdg : decode cc pc = .ok (.invokevirtual ix, 3)) (kk : ∀ (ad1 ln1 : Nat → Nat), g_chg N ad ln ad1 ln1 u.1 → gJ p l e R s m args below meth c Q nL D g As N ad1 ln1 A1 loc (k + u.2.1) (n + u.2.2) (pc + 3) (gi r :: st)) : gJ p l e R s m args below meth c Q nL D g As N ad ln A loc k n pc st0 := by
  intro H locs ls hP hD hS hl
  have hF := g_frees hD hS C.2.2.2.2.2.2.1
  refine va_calli (va_runV (C := Cn) (b := ad i) (As := as.map (g_v ad)) (rest := st.map (g_v ad)) ⟨C.1, C.2.1, C.2.2.1, C.2.2.2.1, C.2.2.2.2.1⟩ (hM H.size) (cwV np C.2.2.2.2.1 (g_goodV hs) rfl rfl rfl hs.2.2.2.2.2.1 (g_roomx C.2.2.2.2.2.2.2.2 hd hs.2.2.2.2.2.2)) ⟨g_blind, va_recv C.2.2.2.2.2.1 hP (q0 := i) hc (by rw [gw_at hi, he]), fun U hU hW => ⟨rfl, by rw [hU], by rw [hU]; exact hP, va_K.moved hW.alike C.2.2.2.2.2.1, hD.weaken (fun _ _ _ _ => trivial)⟩⟩ rfl (by rw [List.length_map]; exact hn) hl.1 (by show st0.map (g_v ad) = _; rw [hst]; simp [g_v]) (g_lv hcat) hdg hkn) hS (fun q _ h => hF q h) hF (fun x u2 t H1 locs1 ht hvm hw hB hz1 hk1 hS => ?_)
  subst hw
  obtain ⟨hch, hP1, hK1, hD1⟩ := hB
  rw [ht] at hP1
  have e3 : (gi x :: st).map (g_v u2.1) = .int x :: st.map (g_v ad) := by rw [List.map_cons, g_rok_st hch hr2]; rfl
  have hk := kk u2.1 u2.2 hch H1 locs1 ls hP1 (hD1.weaken (fun _ _ _ h => hF _ h)) hS (by rw [g_rok_loc hch hr]; exact hl)
  rw [e3] at hk
  exact hk
theorem g_callAiS (C : gC p R s m args meth c cc own nL D g As d) (as : List gV) {st0 : List gV} {ix np mL d' : Nat} {z : MethodName} {b : ByteArray} {rt : Option FieldType} {u : Nat × Nat × Nat} {r : Int32} (hM : gAi l z b mL rt d' D g N ad ln A as A1 u r) (hs : g_siteS own ix z b mL rt np) (hd : d' + 1 ≤ d) (hn : as.length = np) (hst : st0 = as.reverse ++ st) (hcat : (st.map g_cat).sum ≤ 8) (hkn : k + u.2.1 ≤ R.cells ∧ n + u.2.2 ≤ R.slots) (hr : g_rok N (loc.map Prod.snd)) (hr2 : g_rok N st) (hdg : decode cc pc = .ok (.invokestatic ix, 3)) (kk : ∀ (ad1 ln1 : Nat → Nat), g_chg N ad ln ad1 ln1 u.1 → gJ p l e R s m args below meth c Q nL D g As N ad1 ln1 A1 loc (k + u.2.1) (n + u.2.2) (pc + 3) (gi r :: st)) : gJ p l e R s m args below meth c Q nL D g As N ad ln A loc k n pc st0 := by
  intro H locs ls hP hD hS hl
  have hF := g_frees hD hS C.2.2.2.2.2.2.1
  refine va_calli (va_runS (As := as.map (g_v ad)) (rest := st.map (g_v ad)) ⟨C.1, C.2.1, C.2.2.1, C.2.2.2.1, C.2.2.2.2.1⟩ (hM H.size) (cwS np C.2.2.2.2.1 (g_goodS hs) rfl rfl rfl hs.2.2.2.2.1 (g_roomx C.2.2.2.2.2.2.2.2 hd hs.2.2.2.2.2)) ⟨g_blind, fun U hU hW => ⟨rfl, by rw [hU], by rw [hU]; exact hP, va_K.moved hW.alike C.2.2.2.2.2.1, hD.weaken (fun _ _ _ _ => trivial)⟩⟩ rfl (by rw [List.length_map]; exact hn) hl.1 (by show st0.map (g_v ad) = _; rw [hst]; simp [g_v]) (g_lv hcat) hdg hkn) hS (fun q _ h => hF q h) hF (fun x u2 t H1 locs1 ht hvm hw hB hz1 hk1 hS => ?_)
  subst hw
  obtain ⟨hch, hP1, hK1, hD1⟩ := hB
  rw [ht] at hP1
  have e3 : (gi x :: st).map (g_v u2.1) = .int x :: st.map (g_v ad) := by rw [List.map_cons, g_rok_st hch hr2]; rfl
  have hk := kk u2.1 u2.2 hch H1 locs1 ls hP1 (hD1.weaken (fun _ _ _ h => hF _ h)) hS (by rw [g_rok_loc hch hr]; exact hl)
  rw [e3] at hk
  exact hk
theorem g_callAlV (C : gC p R s m args meth c cc own nL D g As d) (i : Nat) (as : List gV) {st0 : List gV} {Cn : String} {ci ix np mL d' : Nat} {z : MethodName} {b : ByteArray} {rt : Option FieldType} {fs : List Value} {T : u_T} {Nn : Nat} {u : Nat × Nat × Nat} {r : Int64} (hM : gAl l z b mL rt d' D g N ad ln A (gr i :: as) A1 u r) (hs : g_site own Cn ix z b mL rt np) (hd : d' + 1 ≤ d) (hi : i < N) (he : g_ce g ad (g_ln ln i) (A i) i = .inr (ci, fs)) (hc : vwCl[ci]? = some (Cn, T, Nn)) (hn : as.length = np) (hst : st0 = as.reverse ++ gr i :: st) (hcat : (st.map g_cat).sum ≤ 8) (hkn : k + u.2.1 ≤ R.cells ∧ n + u.2.2 ≤ R.slots) (hr : g_rok N (loc.map Prod.snd)) (hr2 : g_rok N st) (hdg : decode cc pc = .ok (.invokevirtual ix, 3)) (kk : ∀ (ad1 ln1 : Nat → Nat), g_chg N ad ln ad1 ln1 u.1 → gJ p l e R s m args below meth c Q nL D g As N ad1 ln1 A1 loc (k + u.2.1) (n + u.2.2) (pc + 3) (gl r :: st)) : gJ p l e R s m args below meth c Q nL D g As N ad ln A loc k n pc st0 := by
  intro H locs ls hP hD hS hl
  have hF := g_frees hD hS C.2.2.2.2.2.2.1
  refine va_calll (va_runV (C := Cn) (b := ad i) (As := as.map (g_v ad)) (rest := st.map (g_v ad)) ⟨C.1, C.2.1, C.2.2.1, C.2.2.2.1, C.2.2.2.2.1⟩ (hM H.size) (cwV np C.2.2.2.2.1 (g_goodV hs) rfl rfl rfl hs.2.2.2.2.2.1 (g_roomx C.2.2.2.2.2.2.2.2 hd hs.2.2.2.2.2.2)) ⟨g_blind, va_recv C.2.2.2.2.2.1 hP (q0 := i) hc (by rw [gw_at hi, he]), fun U hU hW => ⟨rfl, by rw [hU], by rw [hU]; exact hP, va_K.moved hW.alike C.2.2.2.2.2.1, hD.weaken (fun _ _ _ _ => trivial)⟩⟩ rfl (by rw [List.length_map]; exact hn) hl.1 (by show st0.map (g_v ad) = _; rw [hst]; simp [g_v]) (g_lv hcat) hdg hkn) hS (fun q _ h => hF q h) hF (fun x u2 t H1 locs1 ht hvm hw hB hz1 hk1 hS => ?_)
  subst hw
  obtain ⟨hch, hP1, hK1, hD1⟩ := hB
  rw [ht] at hP1
  have e3 : (gl x :: st).map (g_v u2.1) = .long x :: st.map (g_v ad) := by rw [List.map_cons, g_rok_st hch hr2]; rfl
  have hk := kk u2.1 u2.2 hch H1 locs1 ls hP1 (hD1.weaken (fun _ _ _ h => hF _ h)) hS (by rw [g_rok_loc hch hr]; exact hl)
  rw [e3] at hk
  exact hk
theorem g_callAlS (C : gC p R s m args meth c cc own nL D g As d) (as : List gV) {st0 : List gV} {ix np mL d' : Nat} {z : MethodName} {b : ByteArray} {rt : Option FieldType} {u : Nat × Nat × Nat} {r : Int64} (hM : gAl l z b mL rt d' D g N ad ln A as A1 u r) (hs : g_siteS own ix z b mL rt np) (hd : d' + 1 ≤ d) (hn : as.length = np) (hst : st0 = as.reverse ++ st) (hcat : (st.map g_cat).sum ≤ 8) (hkn : k + u.2.1 ≤ R.cells ∧ n + u.2.2 ≤ R.slots) (hr : g_rok N (loc.map Prod.snd)) (hr2 : g_rok N st) (hdg : decode cc pc = .ok (.invokestatic ix, 3)) (kk : ∀ (ad1 ln1 : Nat → Nat), g_chg N ad ln ad1 ln1 u.1 → gJ p l e R s m args below meth c Q nL D g As N ad1 ln1 A1 loc (k + u.2.1) (n + u.2.2) (pc + 3) (gl r :: st)) : gJ p l e R s m args below meth c Q nL D g As N ad ln A loc k n pc st0 := by
  intro H locs ls hP hD hS hl
  have hF := g_frees hD hS C.2.2.2.2.2.2.1
  refine va_calll (va_runS (As := as.map (g_v ad)) (rest := st.map (g_v ad)) ⟨C.1, C.2.1, C.2.2.1, C.2.2.2.1, C.2.2.2.2.1⟩ (hM H.size) (cwS np C.2.2.2.2.1 (g_goodS hs) rfl rfl rfl hs.2.2.2.2.1 (g_roomx C.2.2.2.2.2.2.2.2 hd hs.2.2.2.2.2)) ⟨g_blind, fun U hU hW => ⟨rfl, by rw [hU], by rw [hU]; exact hP, va_K.moved hW.alike C.2.2.2.2.2.1, hD.weaken (fun _ _ _ _ => trivial)⟩⟩ rfl (by rw [List.length_map]; exact hn) hl.1 (by show st0.map (g_v ad) = _; rw [hst]; simp [g_v]) (g_lv hcat) hdg hkn) hS (fun q _ h => hF q h) hF (fun x u2 t H1 locs1 ht hvm hw hB hz1 hk1 hS => ?_)
  subst hw
  obtain ⟨hch, hP1, hK1, hD1⟩ := hB
  rw [ht] at hP1
  have e3 : (gl x :: st).map (g_v u2.1) = .long x :: st.map (g_v ad) := by rw [List.map_cons, g_rok_st hch hr2]; rfl
  have hk := kk u2.1 u2.2 hch H1 locs1 ls hP1 (hD1.weaken (fun _ _ _ h => hF _ h)) hS (by rw [g_rok_loc hch hr]; exact hl)
  rw [e3] at hk
  exact hk
theorem g_callAvV (C : gC p R s m args meth c cc own nL D g As d) (i : Nat) (as : List gV) {st0 : List gV} {Cn : String} {ci ix np mL d' : Nat} {z : MethodName} {b : ByteArray} {rt : Option FieldType} {fs : List Value} {T : u_T} {Nn : Nat} {u : Nat × Nat × Nat}  (hM : gAv l z b mL rt d' D g N ad ln A (gr i :: as) A1 u) (hs : g_site own Cn ix z b mL rt np) (hd : d' + 1 ≤ d) (hi : i < N) (he : g_ce g ad (g_ln ln i) (A i) i = .inr (ci, fs)) (hc : vwCl[ci]? = some (Cn, T, Nn)) (hn : as.length = np) (hst : st0 = as.reverse ++ gr i :: st) (hcat : (st.map g_cat).sum ≤ 8) (hkn : k + u.2.1 ≤ R.cells ∧ n + u.2.2 ≤ R.slots) (hr : g_rok N (loc.map Prod.snd)) (hr2 : g_rok N st) (hdg : decode cc pc = .ok (.invokevirtual ix, 3)) (kk : ∀ (ad1 ln1 : Nat → Nat), g_chg N ad ln ad1 ln1 u.1 → gJ p l e R s m args below meth c Q nL D g As N ad1 ln1 A1 loc (k + u.2.1) (n + u.2.2) (pc + 3) (st)) : gJ p l e R s m args below meth c Q nL D g As N ad ln A loc k n pc st0 := by
  intro H locs ls hP hD hS hl
  have hF := g_frees hD hS C.2.2.2.2.2.2.1
  refine va_callv (va_runV (C := Cn) (b := ad i) (As := as.map (g_v ad)) (rest := st.map (g_v ad)) ⟨C.1, C.2.1, C.2.2.1, C.2.2.2.1, C.2.2.2.2.1⟩ (hM H.size) (cwV np C.2.2.2.2.1 (g_goodV hs) rfl rfl rfl hs.2.2.2.2.2.1 (g_roomx C.2.2.2.2.2.2.2.2 hd hs.2.2.2.2.2.2)) ⟨g_blind, va_recv C.2.2.2.2.2.1 hP (q0 := i) hc (by rw [gw_at hi, he]), fun U hU hW => ⟨rfl, by rw [hU], by rw [hU]; exact hP, va_K.moved hW.alike C.2.2.2.2.2.1, hD.weaken (fun _ _ _ _ => trivial)⟩⟩ rfl (by rw [List.length_map]; exact hn) hl.1 (by show st0.map (g_v ad) = _; rw [hst]; simp [g_v]) (g_lv hcat) hdg hkn) hS (fun q _ h => hF q h) hF (fun u2 t H1 locs1 ht hvm hw hB hz1 hk1 hS => ?_)
  obtain ⟨hch, hP1, hK1, hD1⟩ := hB
  rw [ht] at hP1
  have e3 : st.map (g_v u2.1) = st.map (g_v ad) := g_rok_st hch hr2
  have hk := kk u2.1 u2.2 hch H1 locs1 ls hP1 (hD1.weaken (fun _ _ _ h => hF _ h)) hS (by rw [g_rok_loc hch hr]; exact hl)
  rw [e3] at hk
  exact hk
theorem g_callAvS (C : gC p R s m args meth c cc own nL D g As d) (as : List gV) {st0 : List gV} {ix np mL d' : Nat} {z : MethodName} {b : ByteArray} {rt : Option FieldType} {u : Nat × Nat × Nat}  (hM : gAv l z b mL rt d' D g N ad ln A as A1 u) (hs : g_siteS own ix z b mL rt np) (hd : d' + 1 ≤ d) (hn : as.length = np) (hst : st0 = as.reverse ++ st) (hcat : (st.map g_cat).sum ≤ 8) (hkn : k + u.2.1 ≤ R.cells ∧ n + u.2.2 ≤ R.slots) (hr : g_rok N (loc.map Prod.snd)) (hr2 : g_rok N st) (hdg : decode cc pc = .ok (.invokestatic ix, 3)) (kk : ∀ (ad1 ln1 : Nat → Nat), g_chg N ad ln ad1 ln1 u.1 → gJ p l e R s m args below meth c Q nL D g As N ad1 ln1 A1 loc (k + u.2.1) (n + u.2.2) (pc + 3) (st)) : gJ p l e R s m args below meth c Q nL D g As N ad ln A loc k n pc st0 := by
  intro H locs ls hP hD hS hl
  have hF := g_frees hD hS C.2.2.2.2.2.2.1
  refine va_callv (va_runS (As := as.map (g_v ad)) (rest := st.map (g_v ad)) ⟨C.1, C.2.1, C.2.2.1, C.2.2.2.1, C.2.2.2.2.1⟩ (hM H.size) (cwS np C.2.2.2.2.1 (g_goodS hs) rfl rfl rfl hs.2.2.2.2.1 (g_roomx C.2.2.2.2.2.2.2.2 hd hs.2.2.2.2.2)) ⟨g_blind, fun U hU hW => ⟨rfl, by rw [hU], by rw [hU]; exact hP, va_K.moved hW.alike C.2.2.2.2.2.1, hD.weaken (fun _ _ _ _ => trivial)⟩⟩ rfl (by rw [List.length_map]; exact hn) hl.1 (by show st0.map (g_v ad) = _; rw [hst]; simp [g_v]) (g_lv hcat) hdg hkn) hS (fun q _ h => hF q h) hF (fun u2 t H1 locs1 ht hvm hw hB hz1 hk1 hS => ?_)
  obtain ⟨hch, hP1, hK1, hD1⟩ := hB
  rw [ht] at hP1
  have e3 : st.map (g_v u2.1) = st.map (g_v ad) := g_rok_st hch hr2
  have hk := kk u2.1 u2.2 hch H1 locs1 ls hP1 (hD1.weaken (fun _ _ _ h => hF _ h)) hS (by rw [g_rok_loc hch hr]; exact hl)
  rw [e3] at hk
  exact hk
theorem g_callArV (C : gC p R s m args meth c cc own nL D g As d) (i : Nat) (as : List gV) {st0 : List gV} {Cn : String} {ci ix np mL d' : Nat} {z : MethodName} {b : ByteArray} {rt : Option FieldType} {fs : List Value} {T : u_T} {Nn : Nat} {u : Nat × Nat × Nat} {r : Nat} (hM : gAr l z b mL rt d' D g N ad ln A (gr i :: as) A1 u r) (hs : g_site own Cn ix z b mL rt np) (hd : d' + 1 ≤ d) (hi : i < N) (he : g_ce g ad (g_ln ln i) (A i) i = .inr (ci, fs)) (hc : vwCl[ci]? = some (Cn, T, Nn)) (hn : as.length = np) (hst : st0 = as.reverse ++ gr i :: st) (hcat : (st.map g_cat).sum ≤ 8) (hkn : k + u.2.1 ≤ R.cells ∧ n + u.2.2 ≤ R.slots) (hr : g_rok N (loc.map Prod.snd)) (hr2 : g_rok N st) (hdg : decode cc pc = .ok (.invokevirtual ix, 3)) (kk : ∀ (ad1 ln1 : Nat → Nat), g_chg N ad ln ad1 ln1 u.1 → ln1 N = r → gJ p l e R s m args below meth c Q nL D g As (N + 1) ad1 ln1 A1 loc (k + u.2.1) (n + u.2.2) (pc + 3) (gr N :: st)) : gJ p l e R s m args below meth c Q nL D g As N ad ln A loc k n pc st0 := by
  intro H locs ls hP hD hS hl
  have hF := g_frees hD hS C.2.2.2.2.2.2.1
  refine va_callr (va_runV (C := Cn) (b := ad i) (As := as.map (g_v ad)) (rest := st.map (g_v ad)) ⟨C.1, C.2.1, C.2.2.1, C.2.2.2.1, C.2.2.2.2.1⟩ (hM H.size) (cwV np C.2.2.2.2.1 (g_goodV hs) rfl rfl rfl hs.2.2.2.2.2.1 (g_roomx C.2.2.2.2.2.2.2.2 hd hs.2.2.2.2.2.2)) ⟨g_blind, va_recv C.2.2.2.2.2.1 hP (q0 := i) hc (by rw [gw_at hi, he]), fun U hU hW => ⟨rfl, by rw [hU], by rw [hU]; exact hP, va_K.moved hW.alike C.2.2.2.2.2.1, hD.weaken (fun _ _ _ _ => trivial)⟩⟩ rfl (by rw [List.length_map]; exact hn) hl.1 (by show st0.map (g_v ad) = _; rw [hst]; simp [g_v]) (g_lv hcat) hdg hkn) hS (fun q _ h => hF q h) hF (fun u2 ra t H1 locs1 ht hvm hw hB hz1 hk1 hS => ?_)
  obtain ⟨rfl, hlw, hch, hP1, hK1, hD1⟩ := hB
  rw [ht] at hP1
  have e3 : (gr N :: st).map (g_v u2.1) = .ref (u2.1 N) :: st.map (g_v ad) := by rw [List.map_cons, g_rok_st hch hr2]; rfl
  have hk := kk u2.1 u2.2 hch hlw H1 locs1 ls hP1 (hD1.weaken (fun _ _ _ h => hF _ h)) hS (by rw [g_rok_loc hch hr]; exact hl)
  rw [e3] at hk
  exact hk
theorem g_callArS (C : gC p R s m args meth c cc own nL D g As d) (as : List gV) {st0 : List gV} {ix np mL d' : Nat} {z : MethodName} {b : ByteArray} {rt : Option FieldType} {u : Nat × Nat × Nat} {r : Nat} (hM : gAr l z b mL rt d' D g N ad ln A as A1 u r) (hs : g_siteS own ix z b mL rt np) (hd : d' + 1 ≤ d) (hn : as.length = np) (hst : st0 = as.reverse ++ st) (hcat : (st.map g_cat).sum ≤ 8) (hkn : k + u.2.1 ≤ R.cells ∧ n + u.2.2 ≤ R.slots) (hr : g_rok N (loc.map Prod.snd)) (hr2 : g_rok N st) (hdg : decode cc pc = .ok (.invokestatic ix, 3)) (kk : ∀ (ad1 ln1 : Nat → Nat), g_chg N ad ln ad1 ln1 u.1 → ln1 N = r → gJ p l e R s m args below meth c Q nL D g As (N + 1) ad1 ln1 A1 loc (k + u.2.1) (n + u.2.2) (pc + 3) (gr N :: st)) : gJ p l e R s m args below meth c Q nL D g As N ad ln A loc k n pc st0 := by
  intro H locs ls hP hD hS hl
  have hF := g_frees hD hS C.2.2.2.2.2.2.1
  refine va_callr (va_runS (As := as.map (g_v ad)) (rest := st.map (g_v ad)) ⟨C.1, C.2.1, C.2.2.1, C.2.2.2.1, C.2.2.2.2.1⟩ (hM H.size) (cwS np C.2.2.2.2.1 (g_goodS hs) rfl rfl rfl hs.2.2.2.2.1 (g_roomx C.2.2.2.2.2.2.2.2 hd hs.2.2.2.2.2)) ⟨g_blind, fun U hU hW => ⟨rfl, by rw [hU], by rw [hU]; exact hP, va_K.moved hW.alike C.2.2.2.2.2.1, hD.weaken (fun _ _ _ _ => trivial)⟩⟩ rfl (by rw [List.length_map]; exact hn) hl.1 (by show st0.map (g_v ad) = _; rw [hst]; simp [g_v]) (g_lv hcat) hdg hkn) hS (fun q _ h => hF q h) hF (fun u2 ra t H1 locs1 ht hvm hw hB hz1 hk1 hS => ?_)
  obtain ⟨rfl, hlw, hch, hP1, hK1, hD1⟩ := hB
  rw [ht] at hP1
  have e3 : (gr N :: st).map (g_v u2.1) = .ref (u2.1 N) :: st.map (g_v ad) := by rw [List.map_cons, g_rok_st hch hr2]; rfl
  have hk := kk u2.1 u2.2 hch hlw H1 locs1 ls hP1 (hD1.weaken (fun _ _ _ h => hF _ h)) hS (by rw [g_rok_loc hch hr]; exact hl)
  rw [e3] at hk
  exact hk
end GAC
theorem g_len_new {ln : Nat → Nat} {N q w w0 : Nat} (hlt : q < N) (h : g_ln ln q = w0) : g_ln (va_up ln N w) q = w0 := by
  rw [← h]
  unfold g_ln
  rw [show va_up ln N w q = ln q from if_neg (by omega)]
theorem g_len_made {ln : Nat → Nat} {N w : Nat} (hN : 193 ≤ N) : g_ln (va_up ln N w) N = w := by
  rw [g_ln_big hN]
  exact if_pos rfl
theorem g_len_chg {N q w cp1 : Nat} {ad ln ad1 ln1 : Nat → Nat} (hlt : q < N) (hq : 193 ≤ q) (hch : g_chg N ad ln ad1 ln1 cp1) (h : g_ln ln q = w) : g_ln ln1 q = w := by
  rw [g_ln_big hq] at h ⊢
  rw [(hch.1 q hlt (Or.inr (by omega))).2, h]
theorem g_chg_new {N N1 q w cp : Nat} {ad0 ln0 ad ln : Nat → Nat} (h : N ≤ N1 ∧ 193 ≤ N1) (hch : g_chg N ad0 ln0 ad ln cp) : g_chg N ad0 ln0 (va_up ad N1 q) (va_up ln N1 w) cp := by
  have e : ∀ i, i < N1 → va_up ad N1 q i = ad i ∧ va_up ln N1 w i = ln i := fun i hi => ⟨if_neg (by omega), if_neg (by omega)⟩
  refine ⟨fun i hi hr => ⟨((e i (by omega)).1).trans (hch.1 i hi hr).1, ((e i (by omega)).2).trans (hch.1 i hi hr).2⟩, ?_⟩
  obtain ⟨h1, h2, h3, h4, h5⟩ := hch.2
  exact ⟨((e 185 (by omega)).2).trans h1, ((e 186 (by omega)).2).trans h2, ((e 187 (by omega)).2).trans h3, ((e 188 (by omega)).2).trans h4, ((e 189 (by omega)).2).trans h5⟩
end
section
theorem qf_X6_102 : Cond.fieldLink RX6 102 (TX6 13).1 (TX6 13).2.1 (TX6 13).2.2.1 ∈ gtb := g_tb (List.mem_of_getElem? (i := 752) (by decide +kernel)) (by decide +kernel)
theorem qf_X6_119 : Cond.fieldLink RX6 119 (TX6 9).1 (TX6 9).2.1 (TX6 9).2.2.1 ∈ gtb := g_tb (List.mem_of_getElem? (i := 748) (by decide +kernel)) (by decide +kernel)
theorem qf_X6_13 : Cond.fieldLink RX6 13 (TX6 4).1 (TX6 4).2.1 (TX6 4).2.2.1 ∈ gtb := g_tb (List.mem_of_getElem? (i := 743) (by decide +kernel)) (by decide +kernel)
theorem qf_X6_16 : Cond.fieldLink RX6 16 (TX6 5).1 (TX6 5).2.1 (TX6 5).2.2.1 ∈ gtb := g_tb (List.mem_of_getElem? (i := 744) (by decide +kernel)) (by decide +kernel)
theorem qf_X6_19 : Cond.fieldLink RX6 19 (TX6 6).1 (TX6 6).2.1 (TX6 6).2.2.1 ∈ gtb := g_tb (List.mem_of_getElem? (i := 745) (by decide +kernel)) (by decide +kernel)
theorem qf_X6_22 : Cond.fieldLink RX6 22 (TX6 7).1 (TX6 7).2.1 (TX6 7).2.2.1 ∈ gtb := g_tb (List.mem_of_getElem? (i := 746) (by decide +kernel)) (by decide +kernel)
theorem qf_X6_32 : Cond.fieldLink RX6 32 (TX6 11).1 (TX6 11).2.1 (TX6 11).2.2.1 ∈ gtb := g_tb (List.mem_of_getElem? (i := 750) (by decide +kernel)) (by decide +kernel)
theorem qf_X6_35 : Cond.fieldLink RX6 35 (TX6 0).1 (TX6 0).2.1 (TX6 0).2.2.1 ∈ gtb := g_tb (List.mem_of_getElem? (i := 739) (by decide +kernel)) (by decide +kernel)
theorem qf_X6_39 : Cond.fieldLink RX6 39 (TX6 1).1 (TX6 1).2.1 (TX6 1).2.2.1 ∈ gtb := g_tb (List.mem_of_getElem? (i := 740) (by decide +kernel)) (by decide +kernel)
theorem qf_X6_9 : Cond.fieldLink RX6 9 (TX6 2).1 (TX6 2).2.1 (TX6 2).2.2.1 ∈ gtb := g_tb (List.mem_of_getElem? (i := 741) (by decide +kernel)) (by decide +kernel)
theorem qf_X6_99 : Cond.fieldLink RX6 99 (TX6 12).1 (TX6 12).2.1 (TX6 12).2.2.1 ∈ gtb := g_tb (List.mem_of_getElem? (i := 751) (by decide +kernel)) (by decide +kernel)
theorem qm_X6_114 : g_siteM RX6 114 Lib.Math.min.name Lib.Math.min.code := ⟨g_tb (List.mem_of_getElem? (i := 972) (by decide +kernel)) (by decide +kernel), g_tb (List.mem_of_getElem? (i := 408) (by decide +kernel)) (by decide +kernel), g_tb (List.mem_of_getElem? (i := 85) (by decide +kernel)) (by decide +kernel), g_tb (List.mem_of_getElem? (i := 409) (by decide +kernel)) (by decide +kernel)⟩
theorem qm_X6_179 : g_siteM RX6 179 Lib.Math.max.name Lib.Math.max.code := ⟨g_tb (List.mem_of_getElem? (i := 868) (by decide +kernel)) (by decide +kernel), g_tb (List.mem_of_getElem? (i := 372) (by decide +kernel)) (by decide +kernel), g_tb (List.mem_of_getElem? (i := 85) (by decide +kernel)) (by decide +kernel), g_tb (List.mem_of_getElem? (i := 373) (by decide +kernel)) (by decide +kernel)⟩
theorem qs_X6_105 : g_site RX6 RX6 105 yX6_failed cX6_failed 3 (some .int) 2 := ⟨g_tb (List.mem_of_getElem? (i := 920) (by decide +kernel)) (by decide +kernel), g_tb (List.mem_of_getElem? (i := 922) (by decide +kernel)) (by decide +kernel), g_tb (List.mem_of_getElem? (i := 53) (by decide +kernel)) (by decide +kernel), g_tb (List.mem_of_getElem? (i := 79) (by decide +kernel)) (by decide +kernel), g_tb (List.mem_of_getElem? (i := 923) (by decide +kernel)) (by decide +kernel), ⟨rfl, by decide, by decide, by decide +kernel⟩, by decide⟩
theorem qs_X6_108 : g_site RX6 RX6 108 yX6_join cX6_join 8 (some .boolean) 3 := ⟨g_tb (List.mem_of_getElem? (i := 936) (by decide +kernel)) (by decide +kernel), g_tb (List.mem_of_getElem? (i := 938) (by decide +kernel)) (by decide +kernel), g_tb (List.mem_of_getElem? (i := 57) (by decide +kernel)) (by decide +kernel), g_tb (List.mem_of_getElem? (i := 79) (by decide +kernel)) (by decide +kernel), g_tb (List.mem_of_getElem? (i := 939) (by decide +kernel)) (by decide +kernel), ⟨rfl, by decide, by decide, by decide +kernel⟩, by decide⟩
theorem qs_X6_111 : g_site RX6 RX6 111 yX6_codes cX6_codes 4 (some .int) 1 := ⟨g_tb (List.mem_of_getElem? (i := 968) (by decide +kernel)) (by decide +kernel), g_tb (List.mem_of_getElem? (i := 970) (by decide +kernel)) (by decide +kernel), g_tb (List.mem_of_getElem? (i := 65) (by decide +kernel)) (by decide +kernel), g_tb (List.mem_of_getElem? (i := 79) (by decide +kernel)) (by decide +kernel), g_tb (List.mem_of_getElem? (i := 971) (by decide +kernel)) (by decide +kernel), ⟨rfl, by decide, by decide, by decide +kernel⟩, by decide⟩
theorem qs_X6_122 : g_site RX6 RX6 122 yX6_own cX6_own 3 (none) 1 := ⟨g_tb (List.mem_of_getElem? (i := 948) (by decide +kernel)) (by decide +kernel), g_tb (List.mem_of_getElem? (i := 950) (by decide +kernel)) (by decide +kernel), g_tb (List.mem_of_getElem? (i := 60) (by decide +kernel)) (by decide +kernel), g_tb (List.mem_of_getElem? (i := 79) (by decide +kernel)) (by decide +kernel), g_tb (List.mem_of_getElem? (i := 951) (by decide +kernel)) (by decide +kernel), ⟨rfl, by decide, by decide, by decide +kernel⟩, by decide⟩
theorem qs_X6_126 : g_site RX6 RX6 126 yX6_isAround cX6_isAround 3 (some .boolean) 1 := ⟨g_tb (List.mem_of_getElem? (i := 952) (by decide +kernel)) (by decide +kernel), g_tb (List.mem_of_getElem? (i := 954) (by decide +kernel)) (by decide +kernel), g_tb (List.mem_of_getElem? (i := 61) (by decide +kernel)) (by decide +kernel), g_tb (List.mem_of_getElem? (i := 79) (by decide +kernel)) (by decide +kernel), g_tb (List.mem_of_getElem? (i := 955) (by decide +kernel)) (by decide +kernel), ⟨rfl, by decide, by decide, by decide +kernel⟩, by decide⟩
theorem qs_X6_129 : g_site RX6 RX6 129 yX6_hasOwn cX6_hasOwn 3 (some .boolean) 1 := ⟨g_tb (List.mem_of_getElem? (i := 908) (by decide +kernel)) (by decide +kernel), g_tb (List.mem_of_getElem? (i := 910) (by decide +kernel)) (by decide +kernel), g_tb (List.mem_of_getElem? (i := 50) (by decide +kernel)) (by decide +kernel), g_tb (List.mem_of_getElem? (i := 79) (by decide +kernel)) (by decide +kernel), g_tb (List.mem_of_getElem? (i := 911) (by decide +kernel)) (by decide +kernel), ⟨rfl, by decide, by decide, by decide +kernel⟩, by decide⟩
theorem qs_X6_169 : g_site RX6 RX6 169 yX6_write cX6_write 7 (some .int) 4 := ⟨g_tb (List.mem_of_getElem? (i := 981) (by decide +kernel)) (by decide +kernel), g_tb (List.mem_of_getElem? (i := 983) (by decide +kernel)) (by decide +kernel), g_tb (List.mem_of_getElem? (i := 68) (by decide +kernel)) (by decide +kernel), g_tb (List.mem_of_getElem? (i := 79) (by decide +kernel)) (by decide +kernel), g_tb (List.mem_of_getElem? (i := 984) (by decide +kernel)) (by decide +kernel), ⟨rfl, by decide, by decide, by decide +kernel⟩, by decide⟩
theorem qs_X6_176 : g_site RX6 RX6 176 yX6_deep cX6_deep 3 (some .int) 1 := ⟨g_tb (List.mem_of_getElem? (i := 973) (by decide +kernel)) (by decide +kernel), g_tb (List.mem_of_getElem? (i := 975) (by decide +kernel)) (by decide +kernel), g_tb (List.mem_of_getElem? (i := 66) (by decide +kernel)) (by decide +kernel), g_tb (List.mem_of_getElem? (i := 79) (by decide +kernel)) (by decide +kernel), g_tb (List.mem_of_getElem? (i := 976) (by decide +kernel)) (by decide +kernel), ⟨rfl, by decide, by decide, by decide +kernel⟩, by decide⟩
theorem qs_X6_182 : g_site RX6 RX6 182 yX6_depth cX6_depth 4 (some .int) 1 := ⟨g_tb (List.mem_of_getElem? (i := 864) (by decide +kernel)) (by decide +kernel), g_tb (List.mem_of_getElem? (i := 866) (by decide +kernel)) (by decide +kernel), g_tb (List.mem_of_getElem? (i := 41) (by decide +kernel)) (by decide +kernel), g_tb (List.mem_of_getElem? (i := 79) (by decide +kernel)) (by decide +kernel), g_tb (List.mem_of_getElem? (i := 867) (by decide +kernel)) (by decide +kernel), ⟨rfl, by decide, by decide, by decide +kernel⟩, by decide⟩
theorem qs_X6_185 : g_site RX6 RX6 185 yX6_partTold cX6_partTold 3 (some .int) 2 := ⟨g_tb (List.mem_of_getElem? (i := 860) (by decide +kernel)) (by decide +kernel), g_tb (List.mem_of_getElem? (i := 862) (by decide +kernel)) (by decide +kernel), g_tb (List.mem_of_getElem? (i := 40) (by decide +kernel)) (by decide +kernel), g_tb (List.mem_of_getElem? (i := 79) (by decide +kernel)) (by decide +kernel), g_tb (List.mem_of_getElem? (i := 863) (by decide +kernel)) (by decide +kernel), ⟨rfl, by decide, by decide, by decide +kernel⟩, by decide⟩
theorem qs_X6_46 : g_site RX6 RX6 46 yX6_pa cX6_pa 3 (some .int) 2 := ⟨g_tb (List.mem_of_getElem? (i := 802) (by decide +kernel)) (by decide +kernel), g_tb (List.mem_of_getElem? (i := 804) (by decide +kernel)) (by decide +kernel), g_tb (List.mem_of_getElem? (i := 36) (by decide +kernel)) (by decide +kernel), g_tb (List.mem_of_getElem? (i := 79) (by decide +kernel)) (by decide +kernel), g_tb (List.mem_of_getElem? (i := 805) (by decide +kernel)) (by decide +kernel), ⟨rfl, by decide, by decide, by decide +kernel⟩, by decide⟩
theorem qs_X6_60 : g_site RX6 RX6 60 yX6_fail cX6_fail 2 (some .int) 1 := ⟨g_tb (List.mem_of_getElem? (i := 806) (by decide +kernel)) (by decide +kernel), g_tb (List.mem_of_getElem? (i := 808) (by decide +kernel)) (by decide +kernel), g_tb (List.mem_of_getElem? (i := 37) (by decide +kernel)) (by decide +kernel), g_tb (List.mem_of_getElem? (i := 79) (by decide +kernel)) (by decide +kernel), g_tb (List.mem_of_getElem? (i := 809) (by decide +kernel)) (by decide +kernel), ⟨rfl, by decide, by decide, by decide +kernel⟩, by decide⟩
theorem qs_X6_75 : g_site RX6 RX6 75 yX6_isPart cX6_isPart 2 (some .boolean) 1 := ⟨g_tb (List.mem_of_getElem? (i := 828) (by decide +kernel)) (by decide +kernel), g_tb (List.mem_of_getElem? (i := 830) (by decide +kernel)) (by decide +kernel), g_tb (List.mem_of_getElem? (i := 39) (by decide +kernel)) (by decide +kernel), g_tb (List.mem_of_getElem? (i := 79) (by decide +kernel)) (by decide +kernel), g_tb (List.mem_of_getElem? (i := 831) (by decide +kernel)) (by decide +kernel), ⟨rfl, by decide, by decide, by decide +kernel⟩, by decide⟩
theorem qs_X6_89 : g_site RX6 RX6 89 yX6_now cX6_now 3 (some .int) 1 := ⟨g_tb (List.mem_of_getElem? (i := 904) (by decide +kernel)) (by decide +kernel), g_tb (List.mem_of_getElem? (i := 906) (by decide +kernel)) (by decide +kernel), g_tb (List.mem_of_getElem? (i := 49) (by decide +kernel)) (by decide +kernel), g_tb (List.mem_of_getElem? (i := 79) (by decide +kernel)) (by decide +kernel), g_tb (List.mem_of_getElem? (i := 907) (by decide +kernel)) (by decide +kernel), ⟨rfl, by decide, by decide, by decide +kernel⟩, by decide⟩
theorem qs_X6_92 : g_site RX6 RX6 92 yX6_isPair cX6_isPair 2 (some .boolean) 1 := ⟨g_tb (List.mem_of_getElem? (i := 912) (by decide +kernel)) (by decide +kernel), g_tb (List.mem_of_getElem? (i := 914) (by decide +kernel)) (by decide +kernel), g_tb (List.mem_of_getElem? (i := 51) (by decide +kernel)) (by decide +kernel), g_tb (List.mem_of_getElem? (i := 79) (by decide +kernel)) (by decide +kernel), g_tb (List.mem_of_getElem? (i := 915) (by decide +kernel)) (by decide +kernel), ⟨rfl, by decide, by decide, by decide +kernel⟩, by decide⟩
theorem qs_X6_95 : g_site RX6 RX6 95 yX6_has cX6_has 4 (some .boolean) 2 := ⟨g_tb (List.mem_of_getElem? (i := 940) (by decide +kernel)) (by decide +kernel), g_tb (List.mem_of_getElem? (i := 942) (by decide +kernel)) (by decide +kernel), g_tb (List.mem_of_getElem? (i := 58) (by decide +kernel)) (by decide +kernel), g_tb (List.mem_of_getElem? (i := 79) (by decide +kernel)) (by decide +kernel), g_tb (List.mem_of_getElem? (i := 943) (by decide +kernel)) (by decide +kernel), ⟨rfl, by decide, by decide, by decide +kernel⟩, by decide⟩
theorem qs_X6_198 : g_siteS RX6 198 yX6_behind cX6_behind 2 (some .int) 2 := ⟨g_tb (List.mem_of_getElem? (i := 1005) (by decide +kernel)) (by decide +kernel), g_tb (List.mem_of_getElem? (i := 1006) (by decide +kernel)) (by decide +kernel), g_tb (List.mem_of_getElem? (i := 79) (by decide +kernel)) (by decide +kernel), g_tb (List.mem_of_getElem? (i := 1007) (by decide +kernel)) (by decide +kernel), ⟨rfl, by decide, by decide, by decide +kernel⟩, by decide⟩
theorem qs_X6_42 : g_siteS RX6 42 yX6_isIn cX6_isIn 3 (some .boolean) 3 := ⟨g_tb (List.mem_of_getElem? (i := 791) (by decide +kernel)) (by decide +kernel), g_tb (List.mem_of_getElem? (i := 792) (by decide +kernel)) (by decide +kernel), g_tb (List.mem_of_getElem? (i := 79) (by decide +kernel)) (by decide +kernel), g_tb (List.mem_of_getElem? (i := 793) (by decide +kernel)) (by decide +kernel), ⟨rfl, by decide, by decide, by decide +kernel⟩, by decide⟩
theorem gu_6 : ∀ w ∈ wsX60, w ∈ gtb := by decide +kernel
theorem dX6_thrown_0 : decode cX6_thrown 0 = .ok (.aload_n 0, 1) := by decide +kernel
theorem dX6_thrown_1 : decode cX6_thrown 1 = .ok (.getfield 35, 3) := by decide +kernel
theorem dX6_thrown_4 : decode cX6_thrown 4 = .ok (.ireturn, 1) := by decide +kernel
theorem dX6_fail_0 : decode cX6_fail 0 = .ok (.aload_n 0, 1) := by decide +kernel
theorem dX6_fail_1 : decode cX6_fail 1 = .ok (.iload_n 1, 1) := by decide +kernel
theorem dX6_fail_2 : decode cX6_fail 2 = .ok (.putfield 35, 3) := by decide +kernel
theorem dX6_fail_5 : decode cX6_fail 5 = .ok (.iconst 0, 1) := by decide +kernel
theorem dX6_fail_6 : decode cX6_fail 6 = .ok (.ireturn, 1) := by decide +kernel
theorem dX6_isIn_0 : decode cX6_isIn 0 = .ok (.iload_n 0, 1) := by decide +kernel
theorem dX6_isIn_1 : decode cX6_isIn 1 = .ok (.iload_n 1, 1) := by decide +kernel
theorem dX6_isIn_2 : decode cX6_isIn 2 = .ok (.if_icmp .lt 12, 3) := by decide +kernel
theorem dX6_isIn_5 : decode cX6_isIn 5 = .ok (.iload_n 0, 1) := by decide +kernel
theorem dX6_isIn_6 : decode cX6_isIn 6 = .ok (.iload_n 2, 1) := by decide +kernel
theorem dX6_isIn_7 : decode cX6_isIn 7 = .ok (.if_icmp .gt 7, 3) := by decide +kernel
theorem dX6_isIn_10 : decode cX6_isIn 10 = .ok (.iconst 1, 1) := by decide +kernel
theorem dX6_isIn_11 : decode cX6_isIn 11 = .ok (.goto 4, 3) := by decide +kernel
theorem dX6_isIn_14 : decode cX6_isIn 14 = .ok (.iconst 0, 1) := by decide +kernel
theorem dX6_isIn_15 : decode cX6_isIn 15 = .ok (.ireturn, 1) := by decide +kernel
theorem dX6_isPart_0 : decode cX6_isPart 0 = .ok (.iload_n 1, 1) := by decide +kernel
theorem dX6_isPart_1 : decode cX6_isPart 1 = .ok (.iconst 0, 1) := by decide +kernel
theorem dX6_isPart_2 : decode cX6_isPart 2 = .ok (.aload_n 0, 1) := by decide +kernel
theorem dX6_isPart_3 : decode cX6_isPart 3 = .ok (.getfield 39, 3) := by decide +kernel
theorem dX6_isPart_6 : decode cX6_isPart 6 = .ok (.iconst 1, 1) := by decide +kernel
theorem dX6_isPart_7 : decode cX6_isPart 7 = .ok (.isub, 1) := by decide +kernel
theorem dX6_isPart_8 : decode cX6_isPart 8 = .ok (.invokestatic 42, 3) := by decide +kernel
theorem dX6_isPart_11 : decode cX6_isPart 11 = .ok (.ireturn, 1) := by decide +kernel
theorem dX6_pa_0 : decode cX6_pa 0 = .ok (.aload_n 0, 1) := by decide +kernel
theorem dX6_pa_1 : decode cX6_pa 1 = .ok (.getfield 9, 3) := by decide +kernel
theorem dX6_pa_4 : decode cX6_pa 4 = .ok (.bipush 6, 2) := by decide +kernel
theorem dX6_pa_6 : decode cX6_pa 6 = .ok (.iload_n 1, 1) := by decide +kernel
theorem dX6_pa_7 : decode cX6_pa 7 = .ok (.imul, 1) := by decide +kernel
theorem dX6_pa_8 : decode cX6_pa 8 = .ok (.iload_n 2, 1) := by decide +kernel
theorem dX6_pa_9 : decode cX6_pa 9 = .ok (.iadd, 1) := by decide +kernel
theorem dX6_pa_10 : decode cX6_pa 10 = .ok (.iaload, 1) := by decide +kernel
theorem dX6_pa_11 : decode cX6_pa 11 = .ok (.ireturn, 1) := by decide +kernel
theorem dX6_size_0 : decode cX6_size 0 = .ok (.iload_n 1, 1) := by decide +kernel
theorem dX6_size_1 : decode cX6_size 1 = .ok (.iconst (-1), 1) := by decide +kernel
theorem dX6_size_2 : decode cX6_size 2 = .ok (.if_icmp .ne 7, 3) := by decide +kernel
theorem dX6_size_5 : decode cX6_size 5 = .ok (.iconst 0, 1) := by decide +kernel
theorem dX6_size_6 : decode cX6_size 6 = .ok (.goto 9, 3) := by decide +kernel
theorem dX6_size_9 : decode cX6_size 9 = .ok (.aload_n 0, 1) := by decide +kernel
theorem dX6_size_10 : decode cX6_size 10 = .ok (.iload_n 1, 1) := by decide +kernel
theorem dX6_size_11 : decode cX6_size 11 = .ok (.iconst 5, 1) := by decide +kernel
theorem dX6_size_12 : decode cX6_size 12 = .ok (.invokevirtual 46, 3) := by decide +kernel
theorem dX6_size_15 : decode cX6_size 15 = .ok (.ireturn, 1) := by decide +kernel
theorem dX6_isName_0 : decode cX6_isName 0 = .ok (.iload_n 0, 1) := by decide +kernel
theorem dX6_isName_1 : decode cX6_isName 1 = .ok (.iconst 0, 1) := by decide +kernel
theorem dX6_isName_2 : decode cX6_isName 2 = .ok (.bipush 9, 2) := by decide +kernel
theorem dX6_isName_4 : decode cX6_isName 4 = .ok (.invokestatic 42, 3) := by decide +kernel
theorem dX6_isName_7 : decode cX6_isName 7 = .ok (.ireturn, 1) := by decide +kernel
theorem dX6_undo_0 : decode cX6_undo 0 = .ok (.aload_n 0, 1) := by decide +kernel
theorem dX6_undo_1 : decode cX6_undo 1 = .ok (.iconst 0, 1) := by decide +kernel
theorem dX6_undo_2 : decode cX6_undo 2 = .ok (.putfield 35, 3) := by decide +kernel
theorem dX6_undo_5 : decode cX6_undo 5 = .ok (.aload_n 0, 1) := by decide +kernel
theorem dX6_undo_6 : decode cX6_undo 6 = .ok (.getfield 39, 3) := by decide +kernel
theorem dX6_undo_9 : decode cX6_undo 9 = .ok (.ifCond .ne 9, 3) := by decide +kernel
theorem dX6_undo_12 : decode cX6_undo 12 = .ok (.aload_n 0, 1) := by decide +kernel
theorem dX6_undo_13 : decode cX6_undo 13 = .ok (.iconst 1, 1) := by decide +kernel
theorem dX6_undo_14 : decode cX6_undo 14 = .ok (.invokevirtual 60, 3) := by decide +kernel
theorem dX6_undo_17 : decode cX6_undo 17 = .ok (.ireturn, 1) := by decide +kernel
theorem dX6_undo_18 : decode cX6_undo 18 = .ok (.aload_n 0, 1) := by decide +kernel
theorem dX6_undo_19 : decode cX6_undo 19 = .ok (.dup, 1) := by decide +kernel
theorem dX6_undo_20 : decode cX6_undo 20 = .ok (.getfield 39, 3) := by decide +kernel
theorem dX6_undo_23 : decode cX6_undo 23 = .ok (.iconst 1, 1) := by decide +kernel
theorem dX6_undo_24 : decode cX6_undo 24 = .ok (.isub, 1) := by decide +kernel
theorem dX6_undo_25 : decode cX6_undo 25 = .ok (.putfield 39, 3) := by decide +kernel
theorem dX6_undo_28 : decode cX6_undo 28 = .ok (.aload_n 0, 1) := by decide +kernel
theorem dX6_undo_29 : decode cX6_undo 29 = .ok (.getfield 39, 3) := by decide +kernel
theorem dX6_undo_32 : decode cX6_undo 32 = .ok (.ireturn, 1) := by decide +kernel
theorem dX6_now_0 : decode cX6_now 0 = .ok (.iload_n 1, 1) := by decide +kernel
theorem dX6_now_1 : decode cX6_now 1 = .ok (.istore_n 2, 1) := by decide +kernel
theorem dX6_now_2 : decode cX6_now 2 = .ok (.aload_n 0, 1) := by decide +kernel
theorem dX6_now_3 : decode cX6_now 3 = .ok (.getfield 13, 3) := by decide +kernel
theorem dX6_now_6 : decode cX6_now 6 = .ok (.iload_n 2, 1) := by decide +kernel
theorem dX6_now_7 : decode cX6_now 7 = .ok (.iaload, 1) := by decide +kernel
theorem dX6_now_8 : decode cX6_now 8 = .ok (.iconst 4, 1) := by decide +kernel
theorem dX6_now_9 : decode cX6_now 9 = .ok (.if_icmp .ne 23, 3) := by decide +kernel
theorem dX6_now_12 : decode cX6_now 12 = .ok (.aload_n 0, 1) := by decide +kernel
theorem dX6_now_13 : decode cX6_now 13 = .ok (.getfield 16, 3) := by decide +kernel
theorem dX6_now_16 : decode cX6_now 16 = .ok (.iload_n 2, 1) := by decide +kernel
theorem dX6_now_17 : decode cX6_now 17 = .ok (.iaload, 1) := by decide +kernel
theorem dX6_now_18 : decode cX6_now 18 = .ok (.iconst (-1), 1) := by decide +kernel
theorem dX6_now_19 : decode cX6_now 19 = .ok (.if_icmp .eq 13, 3) := by decide +kernel
theorem dX6_now_22 : decode cX6_now 22 = .ok (.aload_n 0, 1) := by decide +kernel
theorem dX6_now_23 : decode cX6_now 23 = .ok (.getfield 16, 3) := by decide +kernel
theorem dX6_now_26 : decode cX6_now 26 = .ok (.iload_n 2, 1) := by decide +kernel
theorem dX6_now_27 : decode cX6_now 27 = .ok (.iaload, 1) := by decide +kernel
theorem dX6_now_28 : decode cX6_now 28 = .ok (.istore_n 2, 1) := by decide +kernel
theorem dX6_now_29 : decode cX6_now 29 = .ok (.goto (-27), 3) := by decide +kernel
theorem dX6_now_32 : decode cX6_now 32 = .ok (.iload_n 2, 1) := by decide +kernel
theorem dX6_now_33 : decode cX6_now 33 = .ok (.ireturn, 1) := by decide +kernel
theorem dX6_isPair_0 : decode cX6_isPair 0 = .ok (.aload_n 0, 1) := by decide +kernel
theorem dX6_isPair_1 : decode cX6_isPair 1 = .ok (.getfield 13, 3) := by decide +kernel
theorem dX6_isPair_4 : decode cX6_isPair 4 = .ok (.iload_n 1, 1) := by decide +kernel
theorem dX6_isPair_5 : decode cX6_isPair 5 = .ok (.iaload, 1) := by decide +kernel
theorem dX6_isPair_6 : decode cX6_isPair 6 = .ok (.iconst 2, 1) := by decide +kernel
theorem dX6_isPair_7 : decode cX6_isPair 7 = .ok (.if_icmp .eq 13, 3) := by decide +kernel
theorem dX6_isPair_10 : decode cX6_isPair 10 = .ok (.aload_n 0, 1) := by decide +kernel
theorem dX6_isPair_11 : decode cX6_isPair 11 = .ok (.getfield 13, 3) := by decide +kernel
theorem dX6_isPair_14 : decode cX6_isPair 14 = .ok (.iload_n 1, 1) := by decide +kernel
theorem dX6_isPair_15 : decode cX6_isPair 15 = .ok (.iaload, 1) := by decide +kernel
theorem dX6_isPair_16 : decode cX6_isPair 16 = .ok (.iconst 3, 1) := by decide +kernel
theorem dX6_isPair_17 : decode cX6_isPair 17 = .ok (.if_icmp .ne 7, 3) := by decide +kernel
theorem dX6_isPair_20 : decode cX6_isPair 20 = .ok (.iconst 1, 1) := by decide +kernel
theorem dX6_isPair_21 : decode cX6_isPair 21 = .ok (.goto 4, 3) := by decide +kernel
theorem dX6_isPair_24 : decode cX6_isPair 24 = .ok (.iconst 0, 1) := by decide +kernel
theorem dX6_isPair_25 : decode cX6_isPair 25 = .ok (.ireturn, 1) := by decide +kernel
theorem dX6_failed_0 : decode cX6_failed 0 = .ok (.aload_n 0, 1) := by decide +kernel
theorem dX6_failed_1 : decode cX6_failed 1 = .ok (.iload_n 1, 1) := by decide +kernel
theorem dX6_failed_2 : decode cX6_failed 2 = .ok (.putfield 99, 3) := by decide +kernel
theorem dX6_failed_5 : decode cX6_failed 5 = .ok (.aload_n 0, 1) := by decide +kernel
theorem dX6_failed_6 : decode cX6_failed 6 = .ok (.iload_n 2, 1) := by decide +kernel
theorem dX6_failed_7 : decode cX6_failed 7 = .ok (.putfield 102, 3) := by decide +kernel
theorem dX6_failed_10 : decode cX6_failed 10 = .ok (.iconst (-1), 1) := by decide +kernel
theorem dX6_failed_11 : decode cX6_failed 11 = .ok (.ireturn, 1) := by decide +kernel
theorem dX6_has_0 : decode cX6_has 0 = .ok (.aload_n 0, 1) := by decide +kernel
theorem dX6_has_1 : decode cX6_has 1 = .ok (.iload_n 1, 1) := by decide +kernel
theorem dX6_has_2 : decode cX6_has 2 = .ok (.invokevirtual 89, 3) := by decide +kernel
theorem dX6_has_5 : decode cX6_has 5 = .ok (.istore_n 3, 1) := by decide +kernel
theorem dX6_has_6 : decode cX6_has 6 = .ok (.iload_n 3, 1) := by decide +kernel
theorem dX6_has_7 : decode cX6_has 7 = .ok (.iload_n 2, 1) := by decide +kernel
theorem dX6_has_8 : decode cX6_has 8 = .ok (.if_icmp .eq 39, 3) := by decide +kernel
theorem dX6_has_11 : decode cX6_has 11 = .ok (.aload_n 0, 1) := by decide +kernel
theorem dX6_has_12 : decode cX6_has 12 = .ok (.iload_n 3, 1) := by decide +kernel
theorem dX6_has_13 : decode cX6_has 13 = .ok (.invokevirtual 92, 3) := by decide +kernel
theorem dX6_has_16 : decode cX6_has 16 = .ok (.ifCond .eq 35, 3) := by decide +kernel
theorem dX6_has_19 : decode cX6_has 19 = .ok (.aload_n 0, 1) := by decide +kernel
theorem dX6_has_20 : decode cX6_has 20 = .ok (.aload_n 0, 1) := by decide +kernel
theorem dX6_has_21 : decode cX6_has 21 = .ok (.getfield 16, 3) := by decide +kernel
theorem dX6_has_24 : decode cX6_has 24 = .ok (.iload_n 3, 1) := by decide +kernel
theorem dX6_has_25 : decode cX6_has 25 = .ok (.iaload, 1) := by decide +kernel
theorem dX6_has_26 : decode cX6_has 26 = .ok (.iload_n 2, 1) := by decide +kernel
theorem dX6_has_27 : decode cX6_has 27 = .ok (.invokevirtual 95, 3) := by decide +kernel
theorem dX6_has_30 : decode cX6_has 30 = .ok (.ifCond .ne 17, 3) := by decide +kernel
theorem dX6_has_33 : decode cX6_has 33 = .ok (.aload_n 0, 1) := by decide +kernel
theorem dX6_has_34 : decode cX6_has 34 = .ok (.aload_n 0, 1) := by decide +kernel
theorem dX6_has_35 : decode cX6_has 35 = .ok (.getfield 19, 3) := by decide +kernel
theorem dX6_has_38 : decode cX6_has 38 = .ok (.iload_n 3, 1) := by decide +kernel
theorem dX6_has_39 : decode cX6_has 39 = .ok (.iaload, 1) := by decide +kernel
theorem dX6_has_40 : decode cX6_has 40 = .ok (.iload_n 2, 1) := by decide +kernel
theorem dX6_has_41 : decode cX6_has 41 = .ok (.invokevirtual 95, 3) := by decide +kernel
theorem dX6_has_44 : decode cX6_has 44 = .ok (.ifCond .eq 7, 3) := by decide +kernel
theorem dX6_has_47 : decode cX6_has 47 = .ok (.iconst 1, 1) := by decide +kernel
theorem dX6_has_48 : decode cX6_has 48 = .ok (.goto 4, 3) := by decide +kernel
theorem dX6_has_51 : decode cX6_has 51 = .ok (.iconst 0, 1) := by decide +kernel
theorem dX6_has_52 : decode cX6_has 52 = .ok (.ireturn, 1) := by decide +kernel
theorem dX6_codes_0 : decode cX6_codes 0 = .ok (.aload_n 0, 1) := by decide +kernel
theorem dX6_codes_1 : decode cX6_codes 1 = .ok (.iload_n 1, 1) := by decide +kernel
theorem dX6_codes_2 : decode cX6_codes 2 = .ok (.invokevirtual 89, 3) := by decide +kernel
theorem dX6_codes_5 : decode cX6_codes 5 = .ok (.istore_n 2, 1) := by decide +kernel
theorem dX6_codes_6 : decode cX6_codes 6 = .ok (.aload_n 0, 1) := by decide +kernel
theorem dX6_codes_7 : decode cX6_codes 7 = .ok (.iload_n 2, 1) := by decide +kernel
theorem dX6_codes_8 : decode cX6_codes 8 = .ok (.invokevirtual 92, 3) := by decide +kernel
theorem dX6_codes_11 : decode cX6_codes 11 = .ok (.ifCond .ne 5, 3) := by decide +kernel
theorem dX6_codes_14 : decode cX6_codes 14 = .ok (.iconst 1, 1) := by decide +kernel
theorem dX6_codes_15 : decode cX6_codes 15 = .ok (.ireturn, 1) := by decide +kernel
theorem dX6_codes_16 : decode cX6_codes 16 = .ok (.aload_n 0, 1) := by decide +kernel
theorem dX6_codes_17 : decode cX6_codes 17 = .ok (.aload_n 0, 1) := by decide +kernel
theorem dX6_codes_18 : decode cX6_codes 18 = .ok (.getfield 16, 3) := by decide +kernel
theorem dX6_codes_21 : decode cX6_codes 21 = .ok (.iload_n 2, 1) := by decide +kernel
theorem dX6_codes_22 : decode cX6_codes 22 = .ok (.iaload, 1) := by decide +kernel
theorem dX6_codes_23 : decode cX6_codes 23 = .ok (.invokevirtual 111, 3) := by decide +kernel
theorem dX6_codes_26 : decode cX6_codes 26 = .ok (.istore_n 3, 1) := by decide +kernel
theorem dX6_codes_27 : decode cX6_codes 27 = .ok (.iload_n 3, 1) := by decide +kernel
theorem dX6_codes_28 : decode cX6_codes 28 = .ok (.bipush 60, 2) := by decide +kernel
theorem dX6_codes_30 : decode cX6_codes 30 = .ok (.if_icmp .le 7, 3) := by decide +kernel
theorem dX6_codes_33 : decode cX6_codes 33 = .ok (.iload_n 3, 1) := by decide +kernel
theorem dX6_codes_34 : decode cX6_codes 34 = .ok (.goto 22, 3) := by decide +kernel
theorem dX6_codes_37 : decode cX6_codes 37 = .ok (.bipush 61, 2) := by decide +kernel
theorem dX6_codes_39 : decode cX6_codes 39 = .ok (.iconst 1, 1) := by decide +kernel
theorem dX6_codes_40 : decode cX6_codes 40 = .ok (.iload_n 3, 1) := by decide +kernel
theorem dX6_codes_41 : decode cX6_codes 41 = .ok (.iadd, 1) := by decide +kernel
theorem dX6_codes_42 : decode cX6_codes 42 = .ok (.aload_n 0, 1) := by decide +kernel
theorem dX6_codes_43 : decode cX6_codes 43 = .ok (.aload_n 0, 1) := by decide +kernel
theorem dX6_codes_44 : decode cX6_codes 44 = .ok (.getfield 19, 3) := by decide +kernel
theorem dX6_codes_47 : decode cX6_codes 47 = .ok (.iload_n 2, 1) := by decide +kernel
theorem dX6_codes_48 : decode cX6_codes 48 = .ok (.iaload, 1) := by decide +kernel
theorem dX6_codes_49 : decode cX6_codes 49 = .ok (.invokevirtual 111, 3) := by decide +kernel
theorem dX6_codes_52 : decode cX6_codes 52 = .ok (.iadd, 1) := by decide +kernel
theorem dX6_codes_53 : decode cX6_codes 53 = .ok (.invokestatic 114, 3) := by decide +kernel
theorem dX6_codes_56 : decode cX6_codes 56 = .ok (.ireturn, 1) := by decide +kernel
theorem dX6_hasOwn_0 : decode cX6_hasOwn 0 = .ok (.aload_n 0, 1) := by decide +kernel
theorem dX6_hasOwn_1 : decode cX6_hasOwn 1 = .ok (.iload_n 1, 1) := by decide +kernel
theorem dX6_hasOwn_2 : decode cX6_hasOwn 2 = .ok (.invokevirtual 89, 3) := by decide +kernel
theorem dX6_hasOwn_5 : decode cX6_hasOwn 5 = .ok (.istore_n 2, 1) := by decide +kernel
theorem dX6_hasOwn_6 : decode cX6_hasOwn 6 = .ok (.aload_n 0, 1) := by decide +kernel
theorem dX6_hasOwn_7 : decode cX6_hasOwn 7 = .ok (.iload_n 2, 1) := by decide +kernel
theorem dX6_hasOwn_8 : decode cX6_hasOwn 8 = .ok (.invokevirtual 92, 3) := by decide +kernel
theorem dX6_hasOwn_11 : decode cX6_hasOwn 11 = .ok (.ifCond .eq 37, 3) := by decide +kernel
theorem dX6_hasOwn_14 : decode cX6_hasOwn 14 = .ok (.aload_n 0, 1) := by decide +kernel
theorem dX6_hasOwn_15 : decode cX6_hasOwn 15 = .ok (.aload_n 0, 1) := by decide +kernel
theorem dX6_hasOwn_16 : decode cX6_hasOwn 16 = .ok (.getfield 16, 3) := by decide +kernel
theorem dX6_hasOwn_19 : decode cX6_hasOwn 19 = .ok (.iload_n 2, 1) := by decide +kernel
theorem dX6_hasOwn_20 : decode cX6_hasOwn 20 = .ok (.iaload, 1) := by decide +kernel
theorem dX6_hasOwn_21 : decode cX6_hasOwn 21 = .ok (.invokevirtual 129, 3) := by decide +kernel
theorem dX6_hasOwn_24 : decode cX6_hasOwn 24 = .ok (.ifCond .ne 16, 3) := by decide +kernel
theorem dX6_hasOwn_27 : decode cX6_hasOwn 27 = .ok (.aload_n 0, 1) := by decide +kernel
theorem dX6_hasOwn_28 : decode cX6_hasOwn 28 = .ok (.aload_n 0, 1) := by decide +kernel
theorem dX6_hasOwn_29 : decode cX6_hasOwn 29 = .ok (.getfield 19, 3) := by decide +kernel
theorem dX6_hasOwn_32 : decode cX6_hasOwn 32 = .ok (.iload_n 2, 1) := by decide +kernel
theorem dX6_hasOwn_33 : decode cX6_hasOwn 33 = .ok (.iaload, 1) := by decide +kernel
theorem dX6_hasOwn_34 : decode cX6_hasOwn 34 = .ok (.invokevirtual 129, 3) := by decide +kernel
theorem dX6_hasOwn_37 : decode cX6_hasOwn 37 = .ok (.ifCond .eq 7, 3) := by decide +kernel
theorem dX6_hasOwn_40 : decode cX6_hasOwn 40 = .ok (.iconst 1, 1) := by decide +kernel
theorem dX6_hasOwn_41 : decode cX6_hasOwn 41 = .ok (.goto 31, 3) := by decide +kernel
theorem dX6_hasOwn_44 : decode cX6_hasOwn 44 = .ok (.iconst 0, 1) := by decide +kernel
theorem dX6_hasOwn_45 : decode cX6_hasOwn 45 = .ok (.goto 27, 3) := by decide +kernel
theorem dX6_hasOwn_48 : decode cX6_hasOwn 48 = .ok (.aload_n 0, 1) := by decide +kernel
theorem dX6_hasOwn_49 : decode cX6_hasOwn 49 = .ok (.getfield 13, 3) := by decide +kernel
theorem dX6_hasOwn_52 : decode cX6_hasOwn 52 = .ok (.iload_n 2, 1) := by decide +kernel
theorem dX6_hasOwn_53 : decode cX6_hasOwn 53 = .ok (.iaload, 1) := by decide +kernel
theorem dX6_hasOwn_54 : decode cX6_hasOwn 54 = .ok (.iconst 4, 1) := by decide +kernel
theorem dX6_hasOwn_55 : decode cX6_hasOwn 55 = .ok (.if_icmp .ne 16, 3) := by decide +kernel
theorem dX6_hasOwn_58 : decode cX6_hasOwn 58 = .ok (.aload_n 0, 1) := by decide +kernel
theorem dX6_hasOwn_59 : decode cX6_hasOwn 59 = .ok (.getfield 22, 3) := by decide +kernel
theorem dX6_hasOwn_62 : decode cX6_hasOwn 62 = .ok (.iload_n 2, 1) := by decide +kernel
theorem dX6_hasOwn_63 : decode cX6_hasOwn 63 = .ok (.baload, 1) := by decide +kernel
theorem dX6_hasOwn_64 : decode cX6_hasOwn 64 = .ok (.ifCond .eq 7, 3) := by decide +kernel
theorem dX6_hasOwn_67 : decode cX6_hasOwn 67 = .ok (.iconst 1, 1) := by decide +kernel
theorem dX6_hasOwn_68 : decode cX6_hasOwn 68 = .ok (.goto 4, 3) := by decide +kernel
theorem dX6_hasOwn_71 : decode cX6_hasOwn 71 = .ok (.iconst 0, 1) := by decide +kernel
theorem dX6_hasOwn_72 : decode cX6_hasOwn 72 = .ok (.ireturn, 1) := by decide +kernel
theorem dX6_join_0 : decode cX6_join 0 = .ok (.aload_n 0, 1) := by decide +kernel
theorem dX6_join_1 : decode cX6_join 1 = .ok (.iload_n 1, 1) := by decide +kernel
theorem dX6_join_2 : decode cX6_join 2 = .ok (.invokevirtual 89, 3) := by decide +kernel
theorem dX6_join_5 : decode cX6_join 5 = .ok (.istore 4, 2) := by decide +kernel
theorem dX6_join_7 : decode cX6_join 7 = .ok (.aload_n 0, 1) := by decide +kernel
theorem dX6_join_8 : decode cX6_join 8 = .ok (.iload_n 2, 1) := by decide +kernel
theorem dX6_join_9 : decode cX6_join 9 = .ok (.invokevirtual 89, 3) := by decide +kernel
theorem dX6_join_12 : decode cX6_join 12 = .ok (.istore 5, 2) := by decide +kernel
theorem dX6_join_14 : decode cX6_join 14 = .ok (.iload 4, 2) := by decide +kernel
theorem dX6_join_16 : decode cX6_join 16 = .ok (.iload 5, 2) := by decide +kernel
theorem dX6_join_18 : decode cX6_join 18 = .ok (.if_icmp .ne 5, 3) := by decide +kernel
theorem dX6_join_21 : decode cX6_join 21 = .ok (.iconst 1, 1) := by decide +kernel
theorem dX6_join_22 : decode cX6_join 22 = .ok (.ireturn, 1) := by decide +kernel
theorem dX6_join_23 : decode cX6_join 23 = .ok (.aload_n 0, 1) := by decide +kernel
theorem dX6_join_24 : decode cX6_join 24 = .ok (.getfield 13, 3) := by decide +kernel
theorem dX6_join_27 : decode cX6_join 27 = .ok (.iload 4, 2) := by decide +kernel
theorem dX6_join_29 : decode cX6_join 29 = .ok (.iaload, 1) := by decide +kernel
theorem dX6_join_30 : decode cX6_join 30 = .ok (.iconst 4, 1) := by decide +kernel
theorem dX6_join_31 : decode cX6_join 31 = .ok (.if_icmp .eq 14, 3) := by decide +kernel
theorem dX6_join_34 : decode cX6_join 34 = .ok (.aload_n 0, 1) := by decide +kernel
theorem dX6_join_35 : decode cX6_join 35 = .ok (.getfield 13, 3) := by decide +kernel
theorem dX6_join_38 : decode cX6_join 38 = .ok (.iload 5, 2) := by decide +kernel
theorem dX6_join_40 : decode cX6_join 40 = .ok (.iaload, 1) := by decide +kernel
theorem dX6_join_41 : decode cX6_join 41 = .ok (.iconst 4, 1) := by decide +kernel
theorem dX6_join_42 : decode cX6_join 42 = .ok (.if_icmp .ne 77, 3) := by decide +kernel
theorem dX6_join_45 : decode cX6_join 45 = .ok (.aload_n 0, 1) := by decide +kernel
theorem dX6_join_46 : decode cX6_join 46 = .ok (.getfield 13, 3) := by decide +kernel
theorem dX6_join_49 : decode cX6_join 49 = .ok (.iload 4, 2) := by decide +kernel
theorem dX6_join_51 : decode cX6_join 51 = .ok (.iaload, 1) := by decide +kernel
theorem dX6_join_52 : decode cX6_join 52 = .ok (.iconst 4, 1) := by decide +kernel
theorem dX6_join_53 : decode cX6_join 53 = .ok (.if_icmp .ne 8, 3) := by decide +kernel
theorem dX6_join_56 : decode cX6_join 56 = .ok (.iload 4, 2) := by decide +kernel
theorem dX6_join_58 : decode cX6_join 58 = .ok (.goto 5, 3) := by decide +kernel
theorem dX6_join_61 : decode cX6_join 61 = .ok (.iload 5, 2) := by decide +kernel
theorem dX6_join_63 : decode cX6_join 63 = .ok (.istore 6, 2) := by decide +kernel
theorem dX6_join_65 : decode cX6_join 65 = .ok (.iload 6, 2) := by decide +kernel
theorem dX6_join_67 : decode cX6_join 67 = .ok (.iload 4, 2) := by decide +kernel
theorem dX6_join_69 : decode cX6_join 69 = .ok (.if_icmp .ne 8, 3) := by decide +kernel
theorem dX6_join_72 : decode cX6_join 72 = .ok (.iload 5, 2) := by decide +kernel
theorem dX6_join_74 : decode cX6_join 74 = .ok (.goto 5, 3) := by decide +kernel
theorem dX6_join_77 : decode cX6_join 77 = .ok (.iload 4, 2) := by decide +kernel
theorem dX6_join_79 : decode cX6_join 79 = .ok (.istore 7, 2) := by decide +kernel
theorem dX6_join_81 : decode cX6_join 81 = .ok (.aload_n 0, 1) := by decide +kernel
theorem dX6_join_82 : decode cX6_join 82 = .ok (.iload 7, 2) := by decide +kernel
theorem dX6_join_84 : decode cX6_join 84 = .ok (.iload 6, 2) := by decide +kernel
theorem dX6_join_86 : decode cX6_join 86 = .ok (.invokevirtual 95, 3) := by decide +kernel
theorem dX6_join_89 : decode cX6_join 89 = .ok (.ifCond .eq 19, 3) := by decide +kernel
theorem dX6_join_92 : decode cX6_join 92 = .ok (.aload_n 0, 1) := by decide +kernel
theorem dX6_join_93 : decode cX6_join 93 = .ok (.iconst 3, 1) := by decide +kernel
theorem dX6_join_94 : decode cX6_join 94 = .ok (.iload_n 3, 1) := by decide +kernel
theorem dX6_join_95 : decode cX6_join 95 = .ok (.invokevirtual 105, 3) := by decide +kernel
theorem dX6_join_98 : decode cX6_join 98 = .ok (.iconst (-1), 1) := by decide +kernel
theorem dX6_join_99 : decode cX6_join 99 = .ok (.if_icmp .eq 7, 3) := by decide +kernel
theorem dX6_join_102 : decode cX6_join 102 = .ok (.iconst 1, 1) := by decide +kernel
theorem dX6_join_103 : decode cX6_join 103 = .ok (.goto 4, 3) := by decide +kernel
theorem dX6_join_106 : decode cX6_join 106 = .ok (.iconst 0, 1) := by decide +kernel
theorem dX6_join_107 : decode cX6_join 107 = .ok (.ireturn, 1) := by decide +kernel
theorem dX6_join_108 : decode cX6_join 108 = .ok (.aload_n 0, 1) := by decide +kernel
theorem dX6_join_109 : decode cX6_join 109 = .ok (.getfield 16, 3) := by decide +kernel
theorem dX6_join_112 : decode cX6_join 112 = .ok (.iload 6, 2) := by decide +kernel
theorem dX6_join_114 : decode cX6_join 114 = .ok (.iload 7, 2) := by decide +kernel
theorem dX6_join_116 : decode cX6_join 116 = .ok (.iastore, 1) := by decide +kernel
theorem dX6_join_117 : decode cX6_join 117 = .ok (.iconst 1, 1) := by decide +kernel
theorem dX6_join_118 : decode cX6_join 118 = .ok (.ireturn, 1) := by decide +kernel
theorem dX6_join_119 : decode cX6_join 119 = .ok (.aload_n 0, 1) := by decide +kernel
theorem dX6_join_120 : decode cX6_join 120 = .ok (.getfield 13, 3) := by decide +kernel
theorem dX6_join_123 : decode cX6_join 123 = .ok (.iload 4, 2) := by decide +kernel
theorem dX6_join_125 : decode cX6_join 125 = .ok (.iaload, 1) := by decide +kernel
theorem dX6_join_126 : decode cX6_join 126 = .ok (.aload_n 0, 1) := by decide +kernel
theorem dX6_join_127 : decode cX6_join 127 = .ok (.getfield 13, 3) := by decide +kernel
theorem dX6_join_130 : decode cX6_join 130 = .ok (.iload 5, 2) := by decide +kernel
theorem dX6_join_132 : decode cX6_join 132 = .ok (.iaload, 1) := by decide +kernel
theorem dX6_join_133 : decode cX6_join 133 = .ok (.if_icmp .eq 19, 3) := by decide +kernel
theorem dX6_join_136 : decode cX6_join 136 = .ok (.aload_n 0, 1) := by decide +kernel
theorem dX6_join_137 : decode cX6_join 137 = .ok (.iconst 2, 1) := by decide +kernel
theorem dX6_join_138 : decode cX6_join 138 = .ok (.iload_n 3, 1) := by decide +kernel
theorem dX6_join_139 : decode cX6_join 139 = .ok (.invokevirtual 105, 3) := by decide +kernel
theorem dX6_join_142 : decode cX6_join 142 = .ok (.iconst (-1), 1) := by decide +kernel
theorem dX6_join_143 : decode cX6_join 143 = .ok (.if_icmp .eq 7, 3) := by decide +kernel
theorem dX6_join_146 : decode cX6_join 146 = .ok (.iconst 1, 1) := by decide +kernel
theorem dX6_join_147 : decode cX6_join 147 = .ok (.goto 4, 3) := by decide +kernel
theorem dX6_join_150 : decode cX6_join 150 = .ok (.iconst 0, 1) := by decide +kernel
theorem dX6_join_151 : decode cX6_join 151 = .ok (.ireturn, 1) := by decide +kernel
theorem dX6_join_152 : decode cX6_join 152 = .ok (.aload_n 0, 1) := by decide +kernel
theorem dX6_join_153 : decode cX6_join 153 = .ok (.iload 4, 2) := by decide +kernel
theorem dX6_join_155 : decode cX6_join 155 = .ok (.invokevirtual 92, 3) := by decide +kernel
theorem dX6_join_158 : decode cX6_join 158 = .ok (.ifCond .eq 47, 3) := by decide +kernel
theorem dX6_join_161 : decode cX6_join 161 = .ok (.aload_n 0, 1) := by decide +kernel
theorem dX6_join_162 : decode cX6_join 162 = .ok (.aload_n 0, 1) := by decide +kernel
theorem dX6_join_163 : decode cX6_join 163 = .ok (.getfield 16, 3) := by decide +kernel
theorem dX6_join_166 : decode cX6_join 166 = .ok (.iload 4, 2) := by decide +kernel
theorem dX6_join_168 : decode cX6_join 168 = .ok (.iaload, 1) := by decide +kernel
theorem dX6_join_169 : decode cX6_join 169 = .ok (.aload_n 0, 1) := by decide +kernel
theorem dX6_join_170 : decode cX6_join 170 = .ok (.getfield 16, 3) := by decide +kernel
theorem dX6_join_173 : decode cX6_join 173 = .ok (.iload 5, 2) := by decide +kernel
theorem dX6_join_175 : decode cX6_join 175 = .ok (.iaload, 1) := by decide +kernel
theorem dX6_join_176 : decode cX6_join 176 = .ok (.iload_n 3, 1) := by decide +kernel
theorem dX6_join_177 : decode cX6_join 177 = .ok (.invokevirtual 108, 3) := by decide +kernel
theorem dX6_join_180 : decode cX6_join 180 = .ok (.ifCond .eq 29, 3) := by decide +kernel
theorem dX6_join_183 : decode cX6_join 183 = .ok (.aload_n 0, 1) := by decide +kernel
theorem dX6_join_184 : decode cX6_join 184 = .ok (.aload_n 0, 1) := by decide +kernel
theorem dX6_join_185 : decode cX6_join 185 = .ok (.getfield 19, 3) := by decide +kernel
theorem dX6_join_188 : decode cX6_join 188 = .ok (.iload 4, 2) := by decide +kernel
theorem dX6_join_190 : decode cX6_join 190 = .ok (.iaload, 1) := by decide +kernel
theorem dX6_join_191 : decode cX6_join 191 = .ok (.aload_n 0, 1) := by decide +kernel
theorem dX6_join_192 : decode cX6_join 192 = .ok (.getfield 19, 3) := by decide +kernel
theorem dX6_join_195 : decode cX6_join 195 = .ok (.iload 5, 2) := by decide +kernel
theorem dX6_join_197 : decode cX6_join 197 = .ok (.iaload, 1) := by decide +kernel
theorem dX6_join_198 : decode cX6_join 198 = .ok (.iload_n 3, 1) := by decide +kernel
theorem dX6_join_199 : decode cX6_join 199 = .ok (.invokevirtual 108, 3) := by decide +kernel
theorem dX6_join_202 : decode cX6_join 202 = .ok (.ifCond .eq 7, 3) := by decide +kernel
theorem dX6_join_205 : decode cX6_join 205 = .ok (.iconst 1, 1) := by decide +kernel
theorem dX6_join_206 : decode cX6_join 206 = .ok (.goto 4, 3) := by decide +kernel
theorem dX6_join_209 : decode cX6_join 209 = .ok (.iconst 0, 1) := by decide +kernel
theorem dX6_join_210 : decode cX6_join 210 = .ok (.ireturn, 1) := by decide +kernel
theorem dX6_isAround_0 : decode cX6_isAround 0 = .ok (.iconst 0, 1) := by decide +kernel
theorem dX6_isAround_1 : decode cX6_isAround 1 = .ok (.istore_n 2, 1) := by decide +kernel
theorem dX6_isAround_2 : decode cX6_isAround 2 = .ok (.iload_n 2, 1) := by decide +kernel
theorem dX6_isAround_3 : decode cX6_isAround 3 = .ok (.aload_n 0, 1) := by decide +kernel
theorem dX6_isAround_4 : decode cX6_isAround 4 = .ok (.getfield 119, 3) := by decide +kernel
theorem dX6_isAround_7 : decode cX6_isAround 7 = .ok (.if_icmp .ge 25, 3) := by decide +kernel
theorem dX6_isAround_10 : decode cX6_isAround 10 = .ok (.aload_n 0, 1) := by decide +kernel
theorem dX6_isAround_11 : decode cX6_isAround 11 = .ok (.aload_n 0, 1) := by decide +kernel
theorem dX6_isAround_12 : decode cX6_isAround 12 = .ok (.getfield 32, 3) := by decide +kernel
theorem dX6_isAround_15 : decode cX6_isAround 15 = .ok (.iload_n 2, 1) := by decide +kernel
theorem dX6_isAround_16 : decode cX6_isAround 16 = .ok (.iaload, 1) := by decide +kernel
theorem dX6_isAround_17 : decode cX6_isAround 17 = .ok (.iload_n 1, 1) := by decide +kernel
theorem dX6_isAround_18 : decode cX6_isAround 18 = .ok (.invokevirtual 95, 3) := by decide +kernel
theorem dX6_isAround_21 : decode cX6_isAround 21 = .ok (.ifCond .eq 5, 3) := by decide +kernel
theorem dX6_isAround_24 : decode cX6_isAround 24 = .ok (.iconst 1, 1) := by decide +kernel
theorem dX6_isAround_25 : decode cX6_isAround 25 = .ok (.ireturn, 1) := by decide +kernel
theorem dX6_isAround_26 : decode cX6_isAround 26 = .ok (.iinc 2 1, 3) := by decide +kernel
theorem dX6_isAround_29 : decode cX6_isAround 29 = .ok (.goto (-27), 3) := by decide +kernel
theorem dX6_isAround_32 : decode cX6_isAround 32 = .ok (.iconst 0, 1) := by decide +kernel
theorem dX6_isAround_33 : decode cX6_isAround 33 = .ok (.ireturn, 1) := by decide +kernel
theorem dX6_own_0 : decode cX6_own 0 = .ok (.aload_n 0, 1) := by decide +kernel
theorem dX6_own_1 : decode cX6_own 1 = .ok (.iload_n 1, 1) := by decide +kernel
theorem dX6_own_2 : decode cX6_own 2 = .ok (.invokevirtual 89, 3) := by decide +kernel
theorem dX6_own_5 : decode cX6_own 5 = .ok (.istore_n 2, 1) := by decide +kernel
theorem dX6_own_6 : decode cX6_own 6 = .ok (.aload_n 0, 1) := by decide +kernel
theorem dX6_own_7 : decode cX6_own 7 = .ok (.iload_n 2, 1) := by decide +kernel
theorem dX6_own_8 : decode cX6_own 8 = .ok (.invokevirtual 92, 3) := by decide +kernel
theorem dX6_own_11 : decode cX6_own 11 = .ok (.ifCond .eq 26, 3) := by decide +kernel
theorem dX6_own_14 : decode cX6_own 14 = .ok (.aload_n 0, 1) := by decide +kernel
theorem dX6_own_15 : decode cX6_own 15 = .ok (.aload_n 0, 1) := by decide +kernel
theorem dX6_own_16 : decode cX6_own 16 = .ok (.getfield 16, 3) := by decide +kernel
theorem dX6_own_19 : decode cX6_own 19 = .ok (.iload_n 2, 1) := by decide +kernel
theorem dX6_own_20 : decode cX6_own 20 = .ok (.iaload, 1) := by decide +kernel
theorem dX6_own_21 : decode cX6_own 21 = .ok (.invokevirtual 122, 3) := by decide +kernel
theorem dX6_own_24 : decode cX6_own 24 = .ok (.aload_n 0, 1) := by decide +kernel
theorem dX6_own_25 : decode cX6_own 25 = .ok (.aload_n 0, 1) := by decide +kernel
theorem dX6_own_26 : decode cX6_own 26 = .ok (.getfield 19, 3) := by decide +kernel
theorem dX6_own_29 : decode cX6_own 29 = .ok (.iload_n 2, 1) := by decide +kernel
theorem dX6_own_30 : decode cX6_own 30 = .ok (.iaload, 1) := by decide +kernel
theorem dX6_own_31 : decode cX6_own 31 = .ok (.invokevirtual 122, 3) := by decide +kernel
theorem dX6_own_34 : decode cX6_own 34 = .ok (.goto 32, 3) := by decide +kernel
theorem dX6_own_37 : decode cX6_own 37 = .ok (.aload_n 0, 1) := by decide +kernel
theorem dX6_own_38 : decode cX6_own 38 = .ok (.getfield 13, 3) := by decide +kernel
theorem dX6_own_41 : decode cX6_own 41 = .ok (.iload_n 2, 1) := by decide +kernel
theorem dX6_own_42 : decode cX6_own 42 = .ok (.iaload, 1) := by decide +kernel
theorem dX6_own_43 : decode cX6_own 43 = .ok (.iconst 4, 1) := by decide +kernel
theorem dX6_own_44 : decode cX6_own 44 = .ok (.if_icmp .ne 22, 3) := by decide +kernel
theorem dX6_own_47 : decode cX6_own 47 = .ok (.aload_n 0, 1) := by decide +kernel
theorem dX6_own_48 : decode cX6_own 48 = .ok (.getfield 22, 3) := by decide +kernel
theorem dX6_own_51 : decode cX6_own 51 = .ok (.iload_n 2, 1) := by decide +kernel
theorem dX6_own_52 : decode cX6_own 52 = .ok (.aload_n 0, 1) := by decide +kernel
theorem dX6_own_53 : decode cX6_own 53 = .ok (.iload_n 2, 1) := by decide +kernel
theorem dX6_own_54 : decode cX6_own 54 = .ok (.invokevirtual 126, 3) := by decide +kernel
theorem dX6_own_57 : decode cX6_own 57 = .ok (.ifCond .ne 7, 3) := by decide +kernel
theorem dX6_own_60 : decode cX6_own 60 = .ok (.iconst 1, 1) := by decide +kernel
theorem dX6_own_61 : decode cX6_own 61 = .ok (.goto 4, 3) := by decide +kernel
theorem dX6_own_64 : decode cX6_own 64 = .ok (.iconst 0, 1) := by decide +kernel
theorem dX6_own_65 : decode cX6_own 65 = .ok (.bastore, 1) := by decide +kernel
theorem dX6_own_66 : decode cX6_own 66 = .ok (.return_, 1) := by decide +kernel
theorem dX6_write_0 : decode cX6_write 0 = .ok (.aload_n 0, 1) := by decide +kernel
theorem dX6_write_1 : decode cX6_write 1 = .ok (.iload_n 1, 1) := by decide +kernel
theorem dX6_write_2 : decode cX6_write 2 = .ok (.invokevirtual 89, 3) := by decide +kernel
theorem dX6_write_5 : decode cX6_write 5 = .ok (.istore 5, 2) := by decide +kernel
theorem dX6_write_7 : decode cX6_write 7 = .ok (.aload_n 0, 1) := by decide +kernel
theorem dX6_write_8 : decode cX6_write 8 = .ok (.iload 5, 2) := by decide +kernel
theorem dX6_write_10 : decode cX6_write 10 = .ok (.invokevirtual 92, 3) := by decide +kernel
theorem dX6_write_13 : decode cX6_write 13 = .ok (.ifCond .eq 45, 3) := by decide +kernel
theorem dX6_write_16 : decode cX6_write 16 = .ok (.aload_n 2, 1) := by decide +kernel
theorem dX6_write_17 : decode cX6_write 17 = .ok (.iload_n 3, 1) := by decide +kernel
theorem dX6_write_18 : decode cX6_write 18 = .ok (.aload_n 0, 1) := by decide +kernel
theorem dX6_write_19 : decode cX6_write 19 = .ok (.getfield 13, 3) := by decide +kernel
theorem dX6_write_22 : decode cX6_write 22 = .ok (.iload 5, 2) := by decide +kernel
theorem dX6_write_24 : decode cX6_write 24 = .ok (.iaload, 1) := by decide +kernel
theorem dX6_write_25 : decode cX6_write 25 = .ok (.iastore, 1) := by decide +kernel
theorem dX6_write_26 : decode cX6_write 26 = .ok (.aload_n 0, 1) := by decide +kernel
theorem dX6_write_27 : decode cX6_write 27 = .ok (.aload_n 0, 1) := by decide +kernel
theorem dX6_write_28 : decode cX6_write 28 = .ok (.getfield 19, 3) := by decide +kernel
theorem dX6_write_31 : decode cX6_write 31 = .ok (.iload 5, 2) := by decide +kernel
theorem dX6_write_33 : decode cX6_write 33 = .ok (.iaload, 1) := by decide +kernel
theorem dX6_write_34 : decode cX6_write 34 = .ok (.aload_n 2, 1) := by decide +kernel
theorem dX6_write_35 : decode cX6_write 35 = .ok (.aload_n 0, 1) := by decide +kernel
theorem dX6_write_36 : decode cX6_write 36 = .ok (.aload_n 0, 1) := by decide +kernel
theorem dX6_write_37 : decode cX6_write 37 = .ok (.getfield 16, 3) := by decide +kernel
theorem dX6_write_40 : decode cX6_write 40 = .ok (.iload 5, 2) := by decide +kernel
theorem dX6_write_42 : decode cX6_write 42 = .ok (.iaload, 1) := by decide +kernel
theorem dX6_write_43 : decode cX6_write 43 = .ok (.aload_n 2, 1) := by decide +kernel
theorem dX6_write_44 : decode cX6_write 44 = .ok (.iload_n 3, 1) := by decide +kernel
theorem dX6_write_45 : decode cX6_write 45 = .ok (.iconst 1, 1) := by decide +kernel
theorem dX6_write_46 : decode cX6_write 46 = .ok (.iadd, 1) := by decide +kernel
theorem dX6_write_47 : decode cX6_write 47 = .ok (.aload 4, 2) := by decide +kernel
theorem dX6_write_49 : decode cX6_write 49 = .ok (.invokevirtual 169, 3) := by decide +kernel
theorem dX6_write_52 : decode cX6_write 52 = .ok (.aload 4, 2) := by decide +kernel
theorem dX6_write_54 : decode cX6_write 54 = .ok (.invokevirtual 169, 3) := by decide +kernel
theorem dX6_write_57 : decode cX6_write 57 = .ok (.ireturn, 1) := by decide +kernel
theorem dX6_write_58 : decode cX6_write 58 = .ok (.aload_n 2, 1) := by decide +kernel
theorem dX6_write_59 : decode cX6_write 59 = .ok (.iload_n 3, 1) := by decide +kernel
theorem dX6_write_60 : decode cX6_write 60 = .ok (.aload_n 0, 1) := by decide +kernel
theorem dX6_write_61 : decode cX6_write 61 = .ok (.getfield 13, 3) := by decide +kernel
theorem dX6_write_64 : decode cX6_write 64 = .ok (.iload 5, 2) := by decide +kernel
theorem dX6_write_66 : decode cX6_write 66 = .ok (.iaload, 1) := by decide +kernel
theorem dX6_write_67 : decode cX6_write 67 = .ok (.iastore, 1) := by decide +kernel
theorem dX6_write_68 : decode cX6_write 68 = .ok (.aload_n 0, 1) := by decide +kernel
theorem dX6_write_69 : decode cX6_write 69 = .ok (.getfield 13, 3) := by decide +kernel
theorem dX6_write_72 : decode cX6_write 72 = .ok (.iload 5, 2) := by decide +kernel
theorem dX6_write_74 : decode cX6_write 74 = .ok (.iaload, 1) := by decide +kernel
theorem dX6_write_75 : decode cX6_write 75 = .ok (.iconst 4, 1) := by decide +kernel
theorem dX6_write_76 : decode cX6_write 76 = .ok (.if_icmp .ne 46, 3) := by decide +kernel
theorem dX6_write_79 : decode cX6_write 79 = .ok (.iconst 0, 1) := by decide +kernel
theorem dX6_write_80 : decode cX6_write 80 = .ok (.istore 6, 2) := by decide +kernel
theorem dX6_write_82 : decode cX6_write 82 = .ok (.aload 4, 2) := by decide +kernel
theorem dX6_write_84 : decode cX6_write 84 = .ok (.iload 6, 2) := by decide +kernel
theorem dX6_write_86 : decode cX6_write 86 = .ok (.iaload, 1) := by decide +kernel
theorem dX6_write_87 : decode cX6_write 87 = .ok (.iload 5, 2) := by decide +kernel
theorem dX6_write_89 : decode cX6_write 89 = .ok (.if_icmp .eq 18, 3) := by decide +kernel
theorem dX6_write_92 : decode cX6_write 92 = .ok (.aload 4, 2) := by decide +kernel
theorem dX6_write_94 : decode cX6_write 94 = .ok (.iload 6, 2) := by decide +kernel
theorem dX6_write_96 : decode cX6_write 96 = .ok (.iaload, 1) := by decide +kernel
theorem dX6_write_97 : decode cX6_write 97 = .ok (.iconst (-1), 1) := by decide +kernel
theorem dX6_write_98 : decode cX6_write 98 = .ok (.if_icmp .eq 9, 3) := by decide +kernel
theorem dX6_write_101 : decode cX6_write 101 = .ok (.iinc 6 1, 3) := by decide +kernel
theorem dX6_write_104 : decode cX6_write 104 = .ok (.goto (-22), 3) := by decide +kernel
theorem dX6_write_107 : decode cX6_write 107 = .ok (.aload 4, 2) := by decide +kernel
theorem dX6_write_109 : decode cX6_write 109 = .ok (.iload 6, 2) := by decide +kernel
theorem dX6_write_111 : decode cX6_write 111 = .ok (.iload 5, 2) := by decide +kernel
theorem dX6_write_113 : decode cX6_write 113 = .ok (.iastore, 1) := by decide +kernel
theorem dX6_write_114 : decode cX6_write 114 = .ok (.aload_n 2, 1) := by decide +kernel
theorem dX6_write_115 : decode cX6_write 115 = .ok (.iload_n 3, 1) := by decide +kernel
theorem dX6_write_116 : decode cX6_write 116 = .ok (.bipush 10, 2) := by decide +kernel
theorem dX6_write_118 : decode cX6_write 118 = .ok (.iload 6, 2) := by decide +kernel
theorem dX6_write_120 : decode cX6_write 120 = .ok (.iadd, 1) := by decide +kernel
theorem dX6_write_121 : decode cX6_write 121 = .ok (.iastore, 1) := by decide +kernel
theorem dX6_write_122 : decode cX6_write 122 = .ok (.iload_n 3, 1) := by decide +kernel
theorem dX6_write_123 : decode cX6_write 123 = .ok (.iconst 1, 1) := by decide +kernel
theorem dX6_write_124 : decode cX6_write 124 = .ok (.iadd, 1) := by decide +kernel
theorem dX6_write_125 : decode cX6_write 125 = .ok (.ireturn, 1) := by decide +kernel
theorem dX6_deep_0 : decode cX6_deep 0 = .ok (.aload_n 0, 1) := by decide +kernel
theorem dX6_deep_1 : decode cX6_deep 1 = .ok (.iload_n 1, 1) := by decide +kernel
theorem dX6_deep_2 : decode cX6_deep 2 = .ok (.invokevirtual 89, 3) := by decide +kernel
theorem dX6_deep_5 : decode cX6_deep 5 = .ok (.istore_n 2, 1) := by decide +kernel
theorem dX6_deep_6 : decode cX6_deep 6 = .ok (.aload_n 0, 1) := by decide +kernel
theorem dX6_deep_7 : decode cX6_deep 7 = .ok (.iload_n 2, 1) := by decide +kernel
theorem dX6_deep_8 : decode cX6_deep 8 = .ok (.invokevirtual 92, 3) := by decide +kernel
theorem dX6_deep_11 : decode cX6_deep 11 = .ok (.ifCond .eq 31, 3) := by decide +kernel
theorem dX6_deep_14 : decode cX6_deep 14 = .ok (.iconst 1, 1) := by decide +kernel
theorem dX6_deep_15 : decode cX6_deep 15 = .ok (.aload_n 0, 1) := by decide +kernel
theorem dX6_deep_16 : decode cX6_deep 16 = .ok (.aload_n 0, 1) := by decide +kernel
theorem dX6_deep_17 : decode cX6_deep 17 = .ok (.getfield 16, 3) := by decide +kernel
theorem dX6_deep_20 : decode cX6_deep 20 = .ok (.iload_n 2, 1) := by decide +kernel
theorem dX6_deep_21 : decode cX6_deep 21 = .ok (.iaload, 1) := by decide +kernel
theorem dX6_deep_22 : decode cX6_deep 22 = .ok (.invokevirtual 176, 3) := by decide +kernel
theorem dX6_deep_25 : decode cX6_deep 25 = .ok (.aload_n 0, 1) := by decide +kernel
theorem dX6_deep_26 : decode cX6_deep 26 = .ok (.aload_n 0, 1) := by decide +kernel
theorem dX6_deep_27 : decode cX6_deep 27 = .ok (.getfield 19, 3) := by decide +kernel
theorem dX6_deep_30 : decode cX6_deep 30 = .ok (.iload_n 2, 1) := by decide +kernel
theorem dX6_deep_31 : decode cX6_deep 31 = .ok (.iaload, 1) := by decide +kernel
theorem dX6_deep_32 : decode cX6_deep 32 = .ok (.invokevirtual 176, 3) := by decide +kernel
theorem dX6_deep_35 : decode cX6_deep 35 = .ok (.invokestatic 179, 3) := by decide +kernel
theorem dX6_deep_38 : decode cX6_deep 38 = .ok (.iadd, 1) := by decide +kernel
theorem dX6_deep_39 : decode cX6_deep 39 = .ok (.goto 4, 3) := by decide +kernel
theorem dX6_deep_42 : decode cX6_deep 42 = .ok (.iconst 1, 1) := by decide +kernel
theorem dX6_deep_43 : decode cX6_deep 43 = .ok (.ireturn, 1) := by decide +kernel
theorem dX6_depth_0 : decode cX6_depth 0 = .ok (.iconst 0, 1) := by decide +kernel
theorem dX6_depth_1 : decode cX6_depth 1 = .ok (.istore_n 2, 1) := by decide +kernel
theorem dX6_depth_2 : decode cX6_depth 2 = .ok (.iconst 0, 1) := by decide +kernel
theorem dX6_depth_3 : decode cX6_depth 3 = .ok (.istore_n 3, 1) := by decide +kernel
theorem dX6_depth_4 : decode cX6_depth 4 = .ok (.iload_n 3, 1) := by decide +kernel
theorem dX6_depth_5 : decode cX6_depth 5 = .ok (.iconst 3, 1) := by decide +kernel
theorem dX6_depth_6 : decode cX6_depth 6 = .ok (.if_icmp .ge 38, 3) := by decide +kernel
theorem dX6_depth_9 : decode cX6_depth 9 = .ok (.aload_n 0, 1) := by decide +kernel
theorem dX6_depth_10 : decode cX6_depth 10 = .ok (.iload_n 1, 1) := by decide +kernel
theorem dX6_depth_11 : decode cX6_depth 11 = .ok (.iconst 1, 1) := by decide +kernel
theorem dX6_depth_12 : decode cX6_depth 12 = .ok (.iload_n 3, 1) := by decide +kernel
theorem dX6_depth_13 : decode cX6_depth 13 = .ok (.iadd, 1) := by decide +kernel
theorem dX6_depth_14 : decode cX6_depth 14 = .ok (.invokevirtual 46, 3) := by decide +kernel
theorem dX6_depth_17 : decode cX6_depth 17 = .ok (.iconst (-1), 1) := by decide +kernel
theorem dX6_depth_18 : decode cX6_depth 18 = .ok (.if_icmp .eq 20, 3) := by decide +kernel
theorem dX6_depth_21 : decode cX6_depth 21 = .ok (.iload_n 2, 1) := by decide +kernel
theorem dX6_depth_22 : decode cX6_depth 22 = .ok (.aload_n 0, 1) := by decide +kernel
theorem dX6_depth_23 : decode cX6_depth 23 = .ok (.aload_n 0, 1) := by decide +kernel
theorem dX6_depth_24 : decode cX6_depth 24 = .ok (.iload_n 1, 1) := by decide +kernel
theorem dX6_depth_25 : decode cX6_depth 25 = .ok (.iconst 1, 1) := by decide +kernel
theorem dX6_depth_26 : decode cX6_depth 26 = .ok (.iload_n 3, 1) := by decide +kernel
theorem dX6_depth_27 : decode cX6_depth 27 = .ok (.iadd, 1) := by decide +kernel
theorem dX6_depth_28 : decode cX6_depth 28 = .ok (.invokevirtual 46, 3) := by decide +kernel
theorem dX6_depth_31 : decode cX6_depth 31 = .ok (.invokevirtual 182, 3) := by decide +kernel
theorem dX6_depth_34 : decode cX6_depth 34 = .ok (.invokestatic 179, 3) := by decide +kernel
theorem dX6_depth_37 : decode cX6_depth 37 = .ok (.istore_n 2, 1) := by decide +kernel
theorem dX6_depth_38 : decode cX6_depth 38 = .ok (.iinc 3 1, 3) := by decide +kernel
theorem dX6_depth_41 : decode cX6_depth 41 = .ok (.goto (-37), 3) := by decide +kernel
theorem dX6_depth_44 : decode cX6_depth 44 = .ok (.iload_n 2, 1) := by decide +kernel
theorem dX6_depth_45 : decode cX6_depth 45 = .ok (.iconst 1, 1) := by decide +kernel
theorem dX6_depth_46 : decode cX6_depth 46 = .ok (.iadd, 1) := by decide +kernel
theorem dX6_depth_47 : decode cX6_depth 47 = .ok (.ireturn, 1) := by decide +kernel
theorem dX6_behind_0 : decode cX6_behind 0 = .ok (.aload_n 0, 1) := by decide +kernel
theorem dX6_behind_1 : decode cX6_behind 1 = .ok (.iload_n 1, 1) := by decide +kernel
theorem dX6_behind_2 : decode cX6_behind 2 = .ok (.iaload, 1) := by decide +kernel
theorem dX6_behind_3 : decode cX6_behind 3 = .ok (.iconst 2, 1) := by decide +kernel
theorem dX6_behind_4 : decode cX6_behind 4 = .ok (.if_icmp .eq 10, 3) := by decide +kernel
theorem dX6_behind_7 : decode cX6_behind 7 = .ok (.aload_n 0, 1) := by decide +kernel
theorem dX6_behind_8 : decode cX6_behind 8 = .ok (.iload_n 1, 1) := by decide +kernel
theorem dX6_behind_9 : decode cX6_behind 9 = .ok (.iaload, 1) := by decide +kernel
theorem dX6_behind_10 : decode cX6_behind 10 = .ok (.iconst 3, 1) := by decide +kernel
theorem dX6_behind_11 : decode cX6_behind 11 = .ok (.if_icmp .ne 17, 3) := by decide +kernel
theorem dX6_behind_14 : decode cX6_behind 14 = .ok (.aload_n 0, 1) := by decide +kernel
theorem dX6_behind_15 : decode cX6_behind 15 = .ok (.aload_n 0, 1) := by decide +kernel
theorem dX6_behind_16 : decode cX6_behind 16 = .ok (.iload_n 1, 1) := by decide +kernel
theorem dX6_behind_17 : decode cX6_behind 17 = .ok (.iconst 1, 1) := by decide +kernel
theorem dX6_behind_18 : decode cX6_behind 18 = .ok (.iadd, 1) := by decide +kernel
theorem dX6_behind_19 : decode cX6_behind 19 = .ok (.invokestatic 198, 3) := by decide +kernel
theorem dX6_behind_22 : decode cX6_behind 22 = .ok (.invokestatic 198, 3) := by decide +kernel
theorem dX6_behind_25 : decode cX6_behind 25 = .ok (.goto 6, 3) := by decide +kernel
theorem dX6_behind_28 : decode cX6_behind 28 = .ok (.iload_n 1, 1) := by decide +kernel
theorem dX6_behind_29 : decode cX6_behind 29 = .ok (.iconst 1, 1) := by decide +kernel
theorem dX6_behind_30 : decode cX6_behind 30 = .ok (.iadd, 1) := by decide +kernel
theorem dX6_behind_31 : decode cX6_behind 31 = .ok (.ireturn, 1) := by decide +kernel
theorem dX6_partTold_0 : decode cX6_partTold 0 = .ok (.iload_n 2, 1) := by decide +kernel
theorem dX6_partTold_1 : decode cX6_partTold 1 = .ok (.bipush 6, 2) := by decide +kernel
theorem dX6_partTold_3 : decode cX6_partTold 3 = .ok (.if_icmp .ge 12, 3) := by decide +kernel
theorem dX6_partTold_6 : decode cX6_partTold 6 = .ok (.aload_n 0, 1) := by decide +kernel
theorem dX6_partTold_7 : decode cX6_partTold 7 = .ok (.iload_n 1, 1) := by decide +kernel
theorem dX6_partTold_8 : decode cX6_partTold 8 = .ok (.iload_n 2, 1) := by decide +kernel
theorem dX6_partTold_9 : decode cX6_partTold 9 = .ok (.invokevirtual 46, 3) := by decide +kernel
theorem dX6_partTold_12 : decode cX6_partTold 12 = .ok (.goto 8, 3) := by decide +kernel
theorem dX6_partTold_15 : decode cX6_partTold 15 = .ok (.aload_n 0, 1) := by decide +kernel
theorem dX6_partTold_16 : decode cX6_partTold 16 = .ok (.iload_n 1, 1) := by decide +kernel
theorem dX6_partTold_17 : decode cX6_partTold 17 = .ok (.invokevirtual 182, 3) := by decide +kernel
theorem dX6_partTold_20 : decode cX6_partTold 20 = .ok (.ireturn, 1) := by decide +kernel
theorem dX6_part_0 : decode cX6_part 0 = .ok (.aload_n 0, 1) := by decide +kernel
theorem dX6_part_1 : decode cX6_part 1 = .ok (.iconst 0, 1) := by decide +kernel
theorem dX6_part_2 : decode cX6_part 2 = .ok (.putfield 35, 3) := by decide +kernel
theorem dX6_part_5 : decode cX6_part 5 = .ok (.aload_n 0, 1) := by decide +kernel
theorem dX6_part_6 : decode cX6_part 6 = .ok (.iload_n 1, 1) := by decide +kernel
theorem dX6_part_7 : decode cX6_part 7 = .ok (.invokevirtual 75, 3) := by decide +kernel
theorem dX6_part_10 : decode cX6_part 10 = .ok (.ifCond .eq 22, 3) := by decide +kernel
theorem dX6_part_13 : decode cX6_part 13 = .ok (.iload_n 2, 1) := by decide +kernel
theorem dX6_part_14 : decode cX6_part 14 = .ok (.iconst 0, 1) := by decide +kernel
theorem dX6_part_15 : decode cX6_part 15 = .ok (.bipush 6, 2) := by decide +kernel
theorem dX6_part_17 : decode cX6_part 17 = .ok (.invokestatic 42, 3) := by decide +kernel
theorem dX6_part_20 : decode cX6_part 20 = .ok (.ifCond .eq 12, 3) := by decide +kernel
theorem dX6_part_23 : decode cX6_part 23 = .ok (.aload_n 0, 1) := by decide +kernel
theorem dX6_part_24 : decode cX6_part 24 = .ok (.iload_n 1, 1) := by decide +kernel
theorem dX6_part_25 : decode cX6_part 25 = .ok (.iload_n 2, 1) := by decide +kernel
theorem dX6_part_26 : decode cX6_part 26 = .ok (.invokevirtual 185, 3) := by decide +kernel
theorem dX6_part_29 : decode cX6_part 29 = .ok (.goto 8, 3) := by decide +kernel
theorem dX6_part_32 : decode cX6_part 32 = .ok (.aload_n 0, 1) := by decide +kernel
theorem dX6_part_33 : decode cX6_part 33 = .ok (.iconst 1, 1) := by decide +kernel
theorem dX6_part_34 : decode cX6_part 34 = .ok (.invokevirtual 60, 3) := by decide +kernel
theorem dX6_part_37 : decode cX6_part 37 = .ok (.ireturn, 1) := by decide +kernel
section M1
variable {p : Program} {l : Launch} {e : Env} {R : Room} {s : State} {m : MethodId} {args : Array Value} {below : List Frame} {meth : Method} {c : Code} {D : va_G} {g : gT} {N : Nat} {ad ln ad0 ln0 : Nat → Nat}
def mX6_thrown_b0 (cp : Nat) (A : gM) : Option (gM × Int32) :=
  some (A, (A 183 0))
def mX6_thrown (cp : Nat) (A : gM) : Option (gM × Int32) := mX6_thrown_b0 cp A
set_option maxHeartbeats 2000000 in
set_option maxRecDepth 20000 in
theorem wX6_thrown_b0 (hN : 193 ≤ N) {cp : Nat} (hcp : g_cap ln cp) {A0 A' : gM} {r : Int32} (C : gC p R s m args meth c cX6_thrown RX6 1 D g (va_A (gw g ad ln A0 N) s.heap.size) 0) (hr : meth.sig.returnType = some .int)  {A : gM} (h : mX6_thrown_b0 cp A = some (A', r)) : gJ p l e R s m args below meth c (gEi below D g N ad ln A0 A' r args s) 1 D g (va_A (gw g ad ln A0 N) s.heap.size) N ad ln A [(0, gr 183)] 0 0 0 [] := by
  unfold mX6_thrown_b0 at h
  refine g_aload_n C 0 dX6_thrown_0 rfl ?_
  refine g_get (v := gi (A 183 0)) C 183 0 (by omega) rfl rfl gu_6 (by decide) qf_X6_35 rfl dX6_thrown_1 ?_
  obtain ⟨rfl, rfl⟩ := Prod.mk.inj (Option.some.inj h)
  exact g_reti C hr dX6_thrown_4

set_option maxHeartbeats 2000000 in
set_option maxRecDepth 20000 in
theorem kX6_thrown {l : Launch} {D : va_G} {g : gT} {N : Nat} {ad ln : Nat → Nat} (hN : 193 ≤ N) {cp : Nat} (hcp : g_cap ln cp) {A A' : gM} {r : Int32} (h : mX6_thrown cp A = some (A', r)) : gKi l yX6_thrown cX6_thrown 1 (some .int) (0) D g N ad ln A [gr 183] A' r := by
  refine g_meti (by decide) (Nat.le_of_ble_eq_true rfl) ?_
  intro p e s m args below meth c C hr
  refine g_sub [0] rfl ?_
  exact wX6_thrown_b0 hN hcp C hr h
def mX6_fail_b0 (cp : Nat) (A : gM) (x1 : Int32) : Option (gM × Int32) :=
  g_let (g_up A 183 0 x1) fun A1 =>
  some (A1, 0)
def mX6_fail (cp : Nat) (A : gM) (x1 : Int32) : Option (gM × Int32) := mX6_fail_b0 cp A x1
set_option maxHeartbeats 2000000 in
set_option maxRecDepth 20000 in
theorem wX6_fail_b0 (hN : 193 ≤ N) {cp : Nat} (hcp : g_cap ln cp) {A0 A' : gM} {r : Int32} (C : gC p R s m args meth c cX6_fail RX6 2 D g (va_A (gw g ad ln A0 N) s.heap.size) 0) (hr : meth.sig.returnType = some .int)  {A : gM} {x1 : Int32} (h : mX6_fail_b0 cp A x1 = some (A', r)) : gJ p l e R s m args below meth c (gEi below D g N ad ln A0 A' r args s) 2 D g (va_A (gw g ad ln A0 N) s.heap.size) N ad ln A [(0, gr 183), (1, gi x1)] 0 0 0 [] := by
  unfold mX6_fail_b0 at h
  refine g_aload_n C 0 dX6_fail_0 rfl ?_
  refine g_iload_n C 1 dX6_fail_1 rfl ?_
  obtain ⟨A1, eA1, h⟩ := g_lt h
  refine g_put C 183 0 tyX6 tyX6_ok nmX6 (by omega) rfl rfl gu_6 (by decide) qf_X6_35 rfl (by decide +kernel) (Nat.le_of_ble_eq_true rfl) rfl eA1 dX6_fail_2 ?_
  refine g_iconst (v := 0) C dX6_fail_5 (by decide) ?_
  obtain ⟨rfl, rfl⟩ := Prod.mk.inj (Option.some.inj h)
  exact g_reti C hr dX6_fail_6

set_option maxHeartbeats 2000000 in
set_option maxRecDepth 20000 in
theorem kX6_fail {l : Launch} {D : va_G} {g : gT} {N : Nat} {ad ln : Nat → Nat} (hN : 193 ≤ N) {cp : Nat} (hcp : g_cap ln cp) {A A' : gM} {x1 : Int32} {r : Int32} (h : mX6_fail cp A x1 = some (A', r)) : gKi l yX6_fail cX6_fail 2 (some .int) (0) D g N ad ln A [gr 183, gi x1] A' r := by
  refine g_meti (by decide) (Nat.le_of_ble_eq_true rfl) ?_
  intro p e s m args below meth c C hr
  refine g_sub [0, 1] rfl ?_
  exact wX6_fail_b0 hN hcp C hr h
def mX6_isIn_b15 (cp : Nat) (A : gM) (s0 : Int32) : Option (gM × Int32) :=
  if (s0 : Int32) = 0 ∨ (s0 : Int32) = 1 then some (A, s0) else none
def mX6_isIn_b14 (cp : Nat) (A : gM) : Option (gM × Int32) :=
  mX6_isIn_b15 cp A 0
def mX6_isIn_b0 (cp : Nat) (A : gM) (x0 : Int32) (x1 : Int32) (x2 : Int32) : Option (gM × Int32) :=
  if x0 < x1 then
  mX6_isIn_b14 cp A
  else
  if x2 < x0 then
  mX6_isIn_b14 cp A
  else
  mX6_isIn_b15 cp A 1
def mX6_isIn (cp : Nat) (A : gM) (x0 : Int32) (x1 : Int32) (x2 : Int32) : Option (gM × Int32) := mX6_isIn_b0 cp A x0 x1 x2
set_option maxHeartbeats 2000000 in
set_option maxRecDepth 20000 in
theorem wX6_isIn_b15 (hN : 193 ≤ N) {cp : Nat} (hcp : g_cap ln cp) {A0 A' : gM} {r : Int32} (C : gC p R s m args meth c cX6_isIn RX6 3 D g (va_A (gw g ad ln A0 N) s.heap.size) 0) (hr : meth.sig.returnType = some .boolean)  {A : gM} {s0 : Int32} (h : mX6_isIn_b15 cp A s0 = some (A', r)) : gJ p l e R s m args below meth c (gEi below D g N ad ln A0 A' r args s) 3 D g (va_A (gw g ad ln A0 N) s.heap.size) N ad ln A [] 0 0 15 [gi s0] := by
  unfold mX6_isIn_b15 at h
  obtain ⟨hz1, h⟩ := g_gd h
  obtain ⟨rfl, rfl⟩ := Prod.mk.inj (Option.some.inj h)
  exact g_retz C hr hz1 dX6_isIn_15

set_option maxHeartbeats 2000000 in
set_option maxRecDepth 20000 in
theorem wX6_isIn_b14 (hN : 193 ≤ N) {cp : Nat} (hcp : g_cap ln cp) {A0 A' : gM} {r : Int32} (C : gC p R s m args meth c cX6_isIn RX6 3 D g (va_A (gw g ad ln A0 N) s.heap.size) 0) (hr : meth.sig.returnType = some .boolean)  {A : gM} (h : mX6_isIn_b14 cp A = some (A', r)) : gJ p l e R s m args below meth c (gEi below D g N ad ln A0 A' r args s) 3 D g (va_A (gw g ad ln A0 N) s.heap.size) N ad ln A [] 0 0 14 [] := by
  unfold mX6_isIn_b14 at h
  refine g_iconst (v := 0) C dX6_isIn_14 (by decide) ?_
  refine g_sub [] rfl ?_
  exact wX6_isIn_b15 hN hcp C hr h

set_option maxHeartbeats 2000000 in
set_option maxRecDepth 20000 in
theorem wX6_isIn_b0 (hN : 193 ≤ N) {cp : Nat} (hcp : g_cap ln cp) {A0 A' : gM} {r : Int32} (C : gC p R s m args meth c cX6_isIn RX6 3 D g (va_A (gw g ad ln A0 N) s.heap.size) 0) (hr : meth.sig.returnType = some .boolean)  {A : gM} {x0 : Int32} {x1 : Int32} {x2 : Int32} (h : mX6_isIn_b0 cp A x0 x1 x2 = some (A', r)) : gJ p l e R s m args below meth c (gEi below D g N ad ln A0 A' r args s) 3 D g (va_A (gw g ad ln A0 N) s.heap.size) N ad ln A [(0, gi x0), (1, gi x1), (2, gi x2)] 0 0 0 [] := by
  unfold mX6_isIn_b0 at h
  refine g_iload_n C 0 dX6_isIn_0 rfl ?_
  refine g_iload_n C 1 dX6_isIn_1 rfl ?_
  refine g_icmp_lt C dX6_isIn_2 (tgt := 14) (by decide) (fun c1 => ?_) (fun c1 => ?_)
  · have h := g_tt c1 h
    refine g_sub [] rfl ?_
    exact wX6_isIn_b14 hN hcp C hr h
  · have h := g_ff c1 h
    refine g_iload_n C 0 dX6_isIn_5 rfl ?_
    refine g_iload_n C 2 dX6_isIn_6 rfl ?_
    refine g_icmp_gt C dX6_isIn_7 (tgt := 14) (by decide) (fun c2 => ?_) (fun c2 => ?_)
    · have h := g_tt c2 h
      refine g_sub [] rfl ?_
      exact wX6_isIn_b14 hN hcp C hr h
    · have h := g_ff c2 h
      refine g_iconst (v := 1) C dX6_isIn_10 (by decide) ?_
      refine g_goto C dX6_isIn_11 (tgt := 15) (by decide) ?_
      refine g_sub [] rfl ?_
      exact wX6_isIn_b15 hN hcp C hr h

set_option maxHeartbeats 2000000 in
set_option maxRecDepth 20000 in
theorem kX6_isIn {l : Launch} {D : va_G} {g : gT} {N : Nat} {ad ln : Nat → Nat} (hN : 193 ≤ N) {cp : Nat} (hcp : g_cap ln cp) {A A' : gM} {x0 : Int32} {x1 : Int32} {x2 : Int32} {r : Int32} (h : mX6_isIn cp A x0 x1 x2 = some (A', r)) : gKi l yX6_isIn cX6_isIn 3 (some .boolean) (0) D g N ad ln A [gi x0, gi x1, gi x2] A' r := by
  refine g_meti (by decide) (Nat.le_of_ble_eq_true rfl) ?_
  intro p e s m args below meth c C hr
  refine g_sub [0, 1, 2] rfl ?_
  exact wX6_isIn_b0 hN hcp C hr h
def mX6_isPart_b0 (cp : Nat) (A : gM) (x1 : Int32) : Option (gM × Int32) :=
  (mX6_isIn cp A x1 0 ((A 183 1) - 1)).bind fun q1 =>
  if (q1.2 : Int32) = 0 ∨ (q1.2 : Int32) = 1 then some (q1.1, q1.2) else none
def mX6_isPart (cp : Nat) (A : gM) (x1 : Int32) : Option (gM × Int32) := mX6_isPart_b0 cp A x1
set_option maxHeartbeats 2000000 in
set_option maxRecDepth 20000 in
theorem wX6_isPart_b0 (hN : 193 ≤ N) {cp : Nat} (hcp : g_cap ln cp) {A0 A' : gM} {r : Int32} (C : gC p R s m args meth c cX6_isPart RX6 2 D g (va_A (gw g ad ln A0 N) s.heap.size) 1) (hr : meth.sig.returnType = some .boolean)  {A : gM} {x1 : Int32} (h : mX6_isPart_b0 cp A x1 = some (A', r)) : gJ p l e R s m args below meth c (gEi below D g N ad ln A0 A' r args s) 2 D g (va_A (gw g ad ln A0 N) s.heap.size) N ad ln A [(0, gr 183), (1, gi x1)] 0 0 0 [] := by
  unfold mX6_isPart_b0 at h
  refine g_iload_n C 1 dX6_isPart_0 rfl ?_
  refine g_iconst (v := 0) C dX6_isPart_1 (by decide) ?_
  refine g_aload_n C 0 dX6_isPart_2 rfl ?_
  refine g_get (v := gi (A 183 1)) C 183 1 (by omega) rfl rfl gu_6 (by decide) qf_X6_39 rfl dX6_isPart_3 ?_
  refine g_iconst (v := 1) C dX6_isPart_6 (by decide) ?_
  refine g_isub C dX6_isPart_7 ?_
  obtain ⟨q1, eq1, h⟩ := g_bd h
  refine g_calliS C [gi x1, gi 0, gi ((A 183 1) - 1)] (kX6_isIn hN hcp eq1) qs_X6_42 (by omega) rfl rfl (Nat.le_of_ble_eq_true rfl) ⟨Nat.zero_le _, Nat.zero_le _⟩ dX6_isPart_8 ?_
  obtain ⟨hz2, h⟩ := g_gd h
  obtain ⟨rfl, rfl⟩ := Prod.mk.inj (Option.some.inj h)
  exact g_retz C hr hz2 dX6_isPart_11

set_option maxHeartbeats 2000000 in
set_option maxRecDepth 20000 in
theorem kX6_isPart {l : Launch} {D : va_G} {g : gT} {N : Nat} {ad ln : Nat → Nat} (hN : 193 ≤ N) {cp : Nat} (hcp : g_cap ln cp) {A A' : gM} {x1 : Int32} {r : Int32} (h : mX6_isPart cp A x1 = some (A', r)) : gKi l yX6_isPart cX6_isPart 2 (some .boolean) (1) D g N ad ln A [gr 183, gi x1] A' r := by
  refine g_meti (by decide) (Nat.le_of_ble_eq_true rfl) ?_
  intro p e s m args below meth c C hr
  refine g_sub [0, 1] rfl ?_
  exact wX6_isPart_b0 hN hcp C hr h
def mX6_pa_b0 (cp : Nat) (A : gM) (x1 : Int32) (x2 : Int32) : Option (gM × Int32) :=
  if g_in ((6 * x1) + x2) 246 = true then
  some (A, (A 184 ((6 * x1) + x2).toNatClampNeg))
  else none
def mX6_pa (cp : Nat) (A : gM) (x1 : Int32) (x2 : Int32) : Option (gM × Int32) := mX6_pa_b0 cp A x1 x2
set_option maxHeartbeats 2000000 in
set_option maxRecDepth 20000 in
theorem wX6_pa_b0 (hN : 193 ≤ N) {cp : Nat} (hcp : g_cap ln cp) {A0 A' : gM} {r : Int32} (C : gC p R s m args meth c cX6_pa RX6 3 D g (va_A (gw g ad ln A0 N) s.heap.size) 0) (hr : meth.sig.returnType = some .int)  {A : gM} {x1 : Int32} {x2 : Int32} (h : mX6_pa_b0 cp A x1 x2 = some (A', r)) : gJ p l e R s m args below meth c (gEi below D g N ad ln A0 A' r args s) 3 D g (va_A (gw g ad ln A0 N) s.heap.size) N ad ln A [(0, gr 183), (1, gi x1), (2, gi x2)] 0 0 0 [] := by
  unfold mX6_pa_b0 at h
  refine g_aload_n C 0 dX6_pa_0 rfl ?_
  refine g_get (v := gr 184) C 183 2 (by omega) rfl rfl gu_6 (by decide) qf_X6_9 rfl dX6_pa_1 ?_
  refine g_bipush (v := 6) C dX6_pa_4 (by decide) ?_
  refine g_iload_n C 1 dX6_pa_6 rfl ?_
  refine g_imul C dX6_pa_7 ?_
  refine g_iload_n C 2 dX6_pa_8 rfl ?_
  refine g_iadd C dX6_pa_9 ?_
  obtain ⟨hg1, h⟩ := g_gd h
  refine g_iald C 184 (by omega) rfl rfl hg1 dX6_pa_10 ?_
  obtain ⟨rfl, rfl⟩ := Prod.mk.inj (Option.some.inj h)
  exact g_reti C hr dX6_pa_11

set_option maxHeartbeats 2000000 in
set_option maxRecDepth 20000 in
theorem kX6_pa {l : Launch} {D : va_G} {g : gT} {N : Nat} {ad ln : Nat → Nat} (hN : 193 ≤ N) {cp : Nat} (hcp : g_cap ln cp) {A A' : gM} {x1 : Int32} {x2 : Int32} {r : Int32} (h : mX6_pa cp A x1 x2 = some (A', r)) : gKi l yX6_pa cX6_pa 3 (some .int) (0) D g N ad ln A [gr 183, gi x1, gi x2] A' r := by
  refine g_meti (by decide) (Nat.le_of_ble_eq_true rfl) ?_
  intro p e s m args below meth c C hr
  refine g_sub [0, 1, 2] rfl ?_
  exact wX6_pa_b0 hN hcp C hr h
def mX6_size_b15 (cp : Nat) (A : gM) (s0 : Int32) : Option (gM × Int32) :=
  some (A, s0)
def mX6_size_b0 (cp : Nat) (A : gM) (x1 : Int32) : Option (gM × Int32) :=
  if x1 = (-1) then
  mX6_size_b15 cp A 0
  else
  (mX6_pa cp A x1 5).bind fun q2 =>
  mX6_size_b15 cp q2.1 q2.2
def mX6_size (cp : Nat) (A : gM) (x1 : Int32) : Option (gM × Int32) := mX6_size_b0 cp A x1
set_option maxHeartbeats 2000000 in
set_option maxRecDepth 20000 in
theorem wX6_size_b15 (hN : 193 ≤ N) {cp : Nat} (hcp : g_cap ln cp) {A0 A' : gM} {r : Int32} (C : gC p R s m args meth c cX6_size RX6 2 D g (va_A (gw g ad ln A0 N) s.heap.size) 1) (hr : meth.sig.returnType = some .int)  {A : gM} {s0 : Int32} (h : mX6_size_b15 cp A s0 = some (A', r)) : gJ p l e R s m args below meth c (gEi below D g N ad ln A0 A' r args s) 2 D g (va_A (gw g ad ln A0 N) s.heap.size) N ad ln A [] 0 0 15 [gi s0] := by
  unfold mX6_size_b15 at h
  obtain ⟨rfl, rfl⟩ := Prod.mk.inj (Option.some.inj h)
  exact g_reti C hr dX6_size_15

set_option maxHeartbeats 2000000 in
set_option maxRecDepth 20000 in
theorem wX6_size_b0 (hN : 193 ≤ N) {cp : Nat} (hcp : g_cap ln cp) {A0 A' : gM} {r : Int32} (C : gC p R s m args meth c cX6_size RX6 2 D g (va_A (gw g ad ln A0 N) s.heap.size) 1) (hr : meth.sig.returnType = some .int)  {A : gM} {x1 : Int32} (h : mX6_size_b0 cp A x1 = some (A', r)) : gJ p l e R s m args below meth c (gEi below D g N ad ln A0 A' r args s) 2 D g (va_A (gw g ad ln A0 N) s.heap.size) N ad ln A [(0, gr 183), (1, gi x1)] 0 0 0 [] := by
  unfold mX6_size_b0 at h
  refine g_iload_n C 1 dX6_size_0 rfl ?_
  refine g_iconst (v := (-1)) C dX6_size_1 (by decide) ?_
  refine g_icmp_ne C dX6_size_2 (tgt := 9) (by decide) (fun c1 => ?_) (fun c1 => ?_)
  · have h := g_ff c1 h
    refine g_aload_n C 0 dX6_size_9 rfl ?_
    refine g_iload_n C 1 dX6_size_10 rfl ?_
    refine g_iconst (v := 5) C dX6_size_11 (by decide) ?_
    obtain ⟨q2, eq2, h⟩ := g_bd h
    refine g_calliV C 183 [gi x1, gi 5] (kX6_pa hN hcp eq2) qs_X6_46 (by omega) (by omega) rfl rfl rfl rfl (Nat.le_of_ble_eq_true rfl) ⟨Nat.zero_le _, Nat.zero_le _⟩ dX6_size_12 ?_
    refine g_sub [] rfl ?_
    exact wX6_size_b15 hN hcp C hr h
  · have h := g_tt c1 h
    refine g_iconst (v := 0) C dX6_size_5 (by decide) ?_
    refine g_goto C dX6_size_6 (tgt := 15) (by decide) ?_
    refine g_sub [] rfl ?_
    exact wX6_size_b15 hN hcp C hr h

set_option maxHeartbeats 2000000 in
set_option maxRecDepth 20000 in
theorem kX6_size {l : Launch} {D : va_G} {g : gT} {N : Nat} {ad ln : Nat → Nat} (hN : 193 ≤ N) {cp : Nat} (hcp : g_cap ln cp) {A A' : gM} {x1 : Int32} {r : Int32} (h : mX6_size cp A x1 = some (A', r)) : gKi l yX6_size cX6_size 2 (some .int) (1) D g N ad ln A [gr 183, gi x1] A' r := by
  refine g_meti (by decide) (Nat.le_of_ble_eq_true rfl) ?_
  intro p e s m args below meth c C hr
  refine g_sub [0, 1] rfl ?_
  exact wX6_size_b0 hN hcp C hr h
def mX6_isName_b0 (cp : Nat) (A : gM) (x0 : Int32) : Option (gM × Int32) :=
  (mX6_isIn cp A x0 0 9).bind fun q1 =>
  if (q1.2 : Int32) = 0 ∨ (q1.2 : Int32) = 1 then some (q1.1, q1.2) else none
def mX6_isName (cp : Nat) (A : gM) (x0 : Int32) : Option (gM × Int32) := mX6_isName_b0 cp A x0
set_option maxHeartbeats 2000000 in
set_option maxRecDepth 20000 in
theorem wX6_isName_b0 (hN : 193 ≤ N) {cp : Nat} (hcp : g_cap ln cp) {A0 A' : gM} {r : Int32} (C : gC p R s m args meth c cX6_isName RX6 1 D g (va_A (gw g ad ln A0 N) s.heap.size) 1) (hr : meth.sig.returnType = some .boolean)  {A : gM} {x0 : Int32} (h : mX6_isName_b0 cp A x0 = some (A', r)) : gJ p l e R s m args below meth c (gEi below D g N ad ln A0 A' r args s) 1 D g (va_A (gw g ad ln A0 N) s.heap.size) N ad ln A [(0, gi x0)] 0 0 0 [] := by
  unfold mX6_isName_b0 at h
  refine g_iload_n C 0 dX6_isName_0 rfl ?_
  refine g_iconst (v := 0) C dX6_isName_1 (by decide) ?_
  refine g_bipush (v := 9) C dX6_isName_2 (by decide) ?_
  obtain ⟨q1, eq1, h⟩ := g_bd h
  refine g_calliS C [gi x0, gi 0, gi 9] (kX6_isIn hN hcp eq1) qs_X6_42 (by omega) rfl rfl (Nat.le_of_ble_eq_true rfl) ⟨Nat.zero_le _, Nat.zero_le _⟩ dX6_isName_4 ?_
  obtain ⟨hz2, h⟩ := g_gd h
  obtain ⟨rfl, rfl⟩ := Prod.mk.inj (Option.some.inj h)
  exact g_retz C hr hz2 dX6_isName_7

set_option maxHeartbeats 2000000 in
set_option maxRecDepth 20000 in
theorem kX6_isName {l : Launch} {D : va_G} {g : gT} {N : Nat} {ad ln : Nat → Nat} (hN : 193 ≤ N) {cp : Nat} (hcp : g_cap ln cp) {A A' : gM} {x0 : Int32} {r : Int32} (h : mX6_isName cp A x0 = some (A', r)) : gKi l yX6_isName cX6_isName 1 (some .boolean) (1) D g N ad ln A [gi x0] A' r := by
  refine g_meti (by decide) (Nat.le_of_ble_eq_true rfl) ?_
  intro p e s m args below meth c C hr
  refine g_sub [0] rfl ?_
  exact wX6_isName_b0 hN hcp C hr h
def mX6_undo_b0 (cp : Nat) (A : gM) : Option (gM × Int32) :=
  g_let (g_up A 183 0 0) fun A1 =>
  if (A1 183 1) = 0 then
  (mX6_fail cp A1 1).bind fun q4 =>
  some (q4.1, q4.2)
  else
  g_let (g_up A1 183 1 ((A1 183 1) - 1)) fun A3 =>
  some (A3, (A3 183 1))
def mX6_undo (cp : Nat) (A : gM) : Option (gM × Int32) := mX6_undo_b0 cp A
set_option maxHeartbeats 2000000 in
set_option maxRecDepth 20000 in
theorem wX6_undo_b0 (hN : 193 ≤ N) {cp : Nat} (hcp : g_cap ln cp) {A0 A' : gM} {r : Int32} (C : gC p R s m args meth c cX6_undo RX6 1 D g (va_A (gw g ad ln A0 N) s.heap.size) 1) (hr : meth.sig.returnType = some .int)  {A : gM} (h : mX6_undo_b0 cp A = some (A', r)) : gJ p l e R s m args below meth c (gEi below D g N ad ln A0 A' r args s) 1 D g (va_A (gw g ad ln A0 N) s.heap.size) N ad ln A [(0, gr 183)] 0 0 0 [] := by
  unfold mX6_undo_b0 at h
  refine g_aload_n C 0 dX6_undo_0 rfl ?_
  refine g_iconst (v := 0) C dX6_undo_1 (by decide) ?_
  obtain ⟨A1, eA1, h⟩ := g_lt h
  refine g_put C 183 0 tyX6 tyX6_ok nmX6 (by omega) rfl rfl gu_6 (by decide) qf_X6_35 rfl (by decide +kernel) (Nat.le_of_ble_eq_true rfl) rfl eA1 dX6_undo_2 ?_
  refine g_aload_n C 0 dX6_undo_5 rfl ?_
  refine g_get (v := gi (A1 183 1)) C 183 1 (by omega) rfl rfl gu_6 (by decide) qf_X6_39 rfl dX6_undo_6 ?_
  refine g_if_ne C dX6_undo_9 (tgt := 18) (by decide) (fun c2 => ?_) (fun c2 => ?_)
  · have h := g_ff c2 h
    refine g_aload_n C 0 dX6_undo_18 rfl ?_
    refine g_dup_r C dX6_undo_19 ?_
    refine g_get (v := gi (A1 183 1)) C 183 1 (by omega) rfl rfl gu_6 (by decide) qf_X6_39 rfl dX6_undo_20 ?_
    refine g_iconst (v := 1) C dX6_undo_23 (by decide) ?_
    refine g_isub C dX6_undo_24 ?_
    obtain ⟨A3, eA3, h⟩ := g_lt h
    refine g_put C 183 1 tyX6 tyX6_ok nmX6 (by omega) rfl rfl gu_6 (by decide) qf_X6_39 rfl (by decide +kernel) (Nat.le_of_ble_eq_true rfl) rfl eA3 dX6_undo_25 ?_
    refine g_aload_n C 0 dX6_undo_28 rfl ?_
    refine g_get (v := gi (A3 183 1)) C 183 1 (by omega) rfl rfl gu_6 (by decide) qf_X6_39 rfl dX6_undo_29 ?_
    obtain ⟨rfl, rfl⟩ := Prod.mk.inj (Option.some.inj h)
    exact g_reti C hr dX6_undo_32
  · have h := g_tt c2 h
    refine g_aload_n C 0 dX6_undo_12 rfl ?_
    refine g_iconst (v := 1) C dX6_undo_13 (by decide) ?_
    obtain ⟨q4, eq4, h⟩ := g_bd h
    refine g_calliV C 183 [gi 1] (kX6_fail hN hcp eq4) qs_X6_60 (by omega) (by omega) rfl rfl rfl rfl (Nat.le_of_ble_eq_true rfl) ⟨Nat.zero_le _, Nat.zero_le _⟩ dX6_undo_14 ?_
    obtain ⟨rfl, rfl⟩ := Prod.mk.inj (Option.some.inj h)
    exact g_reti C hr dX6_undo_17

set_option maxHeartbeats 2000000 in
set_option maxRecDepth 20000 in
theorem kX6_undo {l : Launch} {D : va_G} {g : gT} {N : Nat} {ad ln : Nat → Nat} (hN : 193 ≤ N) {cp : Nat} (hcp : g_cap ln cp) {A A' : gM} {r : Int32} (h : mX6_undo cp A = some (A', r)) : gKi l yX6_undo cX6_undo 1 (some .int) (1) D g N ad ln A [gr 183] A' r := by
  refine g_meti (by decide) (Nat.le_of_ble_eq_true rfl) ?_
  intro p e s m args below meth c C hr
  refine g_sub [0] rfl ?_
  exact wX6_undo_b0 hN hcp C hr h
def mX6_now_b32 (cp : Nat) (A : gM) (x2 : Int32) : Option (gM × Int32) :=
  some (A, x2)
def mX6_now_b2 (cp : Nat) (K2 : gM → Int32 → Option (gM × Int32)) (A : gM) (x2 : Int32) : Option (gM × Int32) :=
  if g_in x2 cp = true then
  if (A 185 x2.toNatClampNeg) = 4 then
  if g_in x2 cp = true then
  if (A 186 x2.toNatClampNeg) = (-1) then
  mX6_now_b32 cp A x2
  else
  if g_in x2 cp = true then
  g_let (A 186 x2.toNatClampNeg) fun v6 =>
  K2 A v6
  else none
  else none
  else
  mX6_now_b32 cp A x2
  else none
def mX6_now_L2 (cp : Nat) : Nat → gM → Int32 → Option (gM × Int32)
  | 0 => fun _ _ => none
  | f + 1 => mX6_now_b2 cp (mX6_now_L2 cp f)
def mX6_now_b0 (cp : Nat) (A : gM) (x1 : Int32) : Option (gM × Int32) :=
  mX6_now_L2 cp gF A x1
def mX6_now (cp : Nat) (A : gM) (x1 : Int32) : Option (gM × Int32) := mX6_now_b0 cp A x1
set_option maxHeartbeats 2000000 in
set_option maxRecDepth 20000 in
theorem wX6_now_b32 (hN : 193 ≤ N) {cp : Nat} (hcp : g_cap ln cp) {A0 A' : gM} {r : Int32} (C : gC p R s m args meth c cX6_now RX6 3 D g (va_A (gw g ad ln A0 N) s.heap.size) 0) (hr : meth.sig.returnType = some .int)  {A : gM} {x2 : Int32} (h : mX6_now_b32 cp A x2 = some (A', r)) : gJ p l e R s m args below meth c (gEi below D g N ad ln A0 A' r args s) 3 D g (va_A (gw g ad ln A0 N) s.heap.size) N ad ln A [(2, gi x2)] 0 0 32 [] := by
  unfold mX6_now_b32 at h
  refine g_iload_n C 0 dX6_now_32 rfl ?_
  obtain ⟨rfl, rfl⟩ := Prod.mk.inj (Option.some.inj h)
  exact g_reti C hr dX6_now_33

set_option maxHeartbeats 2000000 in
set_option maxRecDepth 20000 in
theorem wX6_now_b2 (hN : 193 ≤ N) {cp : Nat} (hcp : g_cap ln cp) {A0 A' : gM} {r : Int32} (C : gC p R s m args meth c cX6_now RX6 3 D g (va_A (gw g ad ln A0 N) s.heap.size) 0) (hr : meth.sig.returnType = some .int) {K2 : gM → Int32 → Option (gM × Int32)} (hK2 : ∀ {A : gM} {x2 : Int32}, K2 A x2 = some (A', r) → gJ p l e R s m args below meth c (gEi below D g N ad ln A0 A' r args s) 3 D g (va_A (gw g ad ln A0 N) s.heap.size) N ad ln A [(0, gr 183), (2, gi x2)] 0 0 2 []) {A : gM} {x2 : Int32} (h : mX6_now_b2 cp K2 A x2 = some (A', r)) : gJ p l e R s m args below meth c (gEi below D g N ad ln A0 A' r args s) 3 D g (va_A (gw g ad ln A0 N) s.heap.size) N ad ln A [(0, gr 183), (2, gi x2)] 0 0 2 [] := by
  unfold mX6_now_b2 at h
  refine g_aload_n C 0 dX6_now_2 rfl ?_
  refine g_get (v := gr 185) C 183 4 (by omega) rfl rfl gu_6 (by decide) qf_X6_13 rfl dX6_now_3 ?_
  refine g_iload_n C 1 dX6_now_6 rfl ?_
  obtain ⟨hg1, h⟩ := g_gd h
  refine g_iald C 185 (by omega) rfl (show g_ln ln 185 = cp from hcp.1) hg1 dX6_now_7 ?_
  refine g_iconst (v := 4) C dX6_now_8 (by decide) ?_
  refine g_icmp_ne C dX6_now_9 (tgt := 32) (by decide) (fun c2 => ?_) (fun c2 => ?_)
  · have h := g_ff c2 h
    refine g_sub [1] rfl ?_
    exact wX6_now_b32 hN hcp C hr h
  · have h := g_tt c2 h
    refine g_aload_n C 0 dX6_now_12 rfl ?_
    refine g_get (v := gr 186) C 183 5 (by omega) rfl rfl gu_6 (by decide) qf_X6_16 rfl dX6_now_13 ?_
    refine g_iload_n C 1 dX6_now_16 rfl ?_
    obtain ⟨hg3, h⟩ := g_gd h
    refine g_iald C 186 (by omega) rfl (show g_ln ln 186 = cp from hcp.2.1) hg3 dX6_now_17 ?_
    refine g_iconst (v := (-1)) C dX6_now_18 (by decide) ?_
    refine g_icmp_eq C dX6_now_19 (tgt := 32) (by decide) (fun c4 => ?_) (fun c4 => ?_)
    · have h := g_tt c4 h
      refine g_sub [1] rfl ?_
      exact wX6_now_b32 hN hcp C hr h
    · have h := g_ff c4 h
      refine g_aload_n C 0 dX6_now_22 rfl ?_
      refine g_get (v := gr 186) C 183 5 (by omega) rfl rfl gu_6 (by decide) qf_X6_16 rfl dX6_now_23 ?_
      refine g_iload_n C 1 dX6_now_26 rfl ?_
      obtain ⟨hg5, h⟩ := g_gd h
      refine g_iald C 186 (by omega) rfl (show g_ln ln 186 = cp from hcp.2.1) hg5 dX6_now_27 ?_
      obtain ⟨v6, ev6, h⟩ := g_lt h
      refine g_topi ev6 ?_
      refine g_istore_n C dX6_now_28 (by decide) rfl ?_
      refine g_goto C dX6_now_29 (tgt := 2) (by decide) ?_
      refine g_sub [1, 0] rfl ?_
      exact hK2 h

set_option maxHeartbeats 2000000 in
set_option maxRecDepth 20000 in
theorem wX6_now_L2 (hN : 193 ≤ N) {cp : Nat} (hcp : g_cap ln cp) {A0 A' : gM} {r : Int32} (C : gC p R s m args meth c cX6_now RX6 3 D g (va_A (gw g ad ln A0 N) s.heap.size) 0) (hr : meth.sig.returnType = some .int)  : ∀ (f : Nat) {A : gM} {x2 : Int32}, mX6_now_L2 cp f A x2 = some (A', r) → gJ p l e R s m args below meth c (gEi below D g N ad ln A0 A' r args s) 3 D g (va_A (gw g ad ln A0 N) s.heap.size) N ad ln A [(0, gr 183), (2, gi x2)] 0 0 2 []
  | 0, A, x2, h => by cases h
  | f + 1, A, x2, h => wX6_now_b2 hN hcp C hr (fun {A} {x2} h => wX6_now_L2 hN hcp C hr f h) h
set_option maxHeartbeats 2000000 in
set_option maxRecDepth 20000 in
theorem wX6_now_b0 (hN : 193 ≤ N) {cp : Nat} (hcp : g_cap ln cp) {A0 A' : gM} {r : Int32} (C : gC p R s m args meth c cX6_now RX6 3 D g (va_A (gw g ad ln A0 N) s.heap.size) 0) (hr : meth.sig.returnType = some .int)  {A : gM} {x1 : Int32} (h : mX6_now_b0 cp A x1 = some (A', r)) : gJ p l e R s m args below meth c (gEi below D g N ad ln A0 A' r args s) 3 D g (va_A (gw g ad ln A0 N) s.heap.size) N ad ln A [(0, gr 183), (1, gi x1)] 0 0 0 [] := by
  unfold mX6_now_b0 at h
  refine g_iload_n C 1 dX6_now_0 rfl ?_
  refine g_istore_n C dX6_now_1 (by decide) rfl ?_
  refine g_sub [1, 0] rfl ?_
  exact wX6_now_L2 hN hcp C hr gF h

set_option maxHeartbeats 2000000 in
set_option maxRecDepth 20000 in
theorem kX6_now {l : Launch} {D : va_G} {g : gT} {N : Nat} {ad ln : Nat → Nat} (hN : 193 ≤ N) {cp : Nat} (hcp : g_cap ln cp) {A A' : gM} {x1 : Int32} {r : Int32} (h : mX6_now cp A x1 = some (A', r)) : gKi l yX6_now cX6_now 3 (some .int) (0) D g N ad ln A [gr 183, gi x1] A' r := by
  refine g_meti (by decide) (Nat.le_of_ble_eq_true rfl) ?_
  intro p e s m args below meth c C hr
  refine g_sub [0, 1] rfl ?_
  exact wX6_now_b0 hN hcp C hr h
def mX6_isPair_b25 (cp : Nat) (A : gM) (s0 : Int32) : Option (gM × Int32) :=
  if (s0 : Int32) = 0 ∨ (s0 : Int32) = 1 then some (A, s0) else none
def mX6_isPair_b20 (cp : Nat) (A : gM) : Option (gM × Int32) :=
  mX6_isPair_b25 cp A 1
def mX6_isPair_b0 (cp : Nat) (A : gM) (x1 : Int32) : Option (gM × Int32) :=
  if g_in x1 cp = true then
  if (A 185 x1.toNatClampNeg) = 2 then
  mX6_isPair_b20 cp A
  else
  if g_in x1 cp = true then
  if (A 185 x1.toNatClampNeg) = 3 then
  mX6_isPair_b20 cp A
  else
  mX6_isPair_b25 cp A 0
  else none
  else none
def mX6_isPair (cp : Nat) (A : gM) (x1 : Int32) : Option (gM × Int32) := mX6_isPair_b0 cp A x1
set_option maxHeartbeats 2000000 in
set_option maxRecDepth 20000 in
theorem wX6_isPair_b25 (hN : 193 ≤ N) {cp : Nat} (hcp : g_cap ln cp) {A0 A' : gM} {r : Int32} (C : gC p R s m args meth c cX6_isPair RX6 2 D g (va_A (gw g ad ln A0 N) s.heap.size) 0) (hr : meth.sig.returnType = some .boolean)  {A : gM} {s0 : Int32} (h : mX6_isPair_b25 cp A s0 = some (A', r)) : gJ p l e R s m args below meth c (gEi below D g N ad ln A0 A' r args s) 2 D g (va_A (gw g ad ln A0 N) s.heap.size) N ad ln A [] 0 0 25 [gi s0] := by
  unfold mX6_isPair_b25 at h
  obtain ⟨hz1, h⟩ := g_gd h
  obtain ⟨rfl, rfl⟩ := Prod.mk.inj (Option.some.inj h)
  exact g_retz C hr hz1 dX6_isPair_25

set_option maxHeartbeats 2000000 in
set_option maxRecDepth 20000 in
theorem wX6_isPair_b20 (hN : 193 ≤ N) {cp : Nat} (hcp : g_cap ln cp) {A0 A' : gM} {r : Int32} (C : gC p R s m args meth c cX6_isPair RX6 2 D g (va_A (gw g ad ln A0 N) s.heap.size) 0) (hr : meth.sig.returnType = some .boolean)  {A : gM} (h : mX6_isPair_b20 cp A = some (A', r)) : gJ p l e R s m args below meth c (gEi below D g N ad ln A0 A' r args s) 2 D g (va_A (gw g ad ln A0 N) s.heap.size) N ad ln A [] 0 0 20 [] := by
  unfold mX6_isPair_b20 at h
  refine g_iconst (v := 1) C dX6_isPair_20 (by decide) ?_
  refine g_goto C dX6_isPair_21 (tgt := 25) (by decide) ?_
  refine g_sub [] rfl ?_
  exact wX6_isPair_b25 hN hcp C hr h

set_option maxHeartbeats 2000000 in
set_option maxRecDepth 20000 in
theorem wX6_isPair_b0 (hN : 193 ≤ N) {cp : Nat} (hcp : g_cap ln cp) {A0 A' : gM} {r : Int32} (C : gC p R s m args meth c cX6_isPair RX6 2 D g (va_A (gw g ad ln A0 N) s.heap.size) 0) (hr : meth.sig.returnType = some .boolean)  {A : gM} {x1 : Int32} (h : mX6_isPair_b0 cp A x1 = some (A', r)) : gJ p l e R s m args below meth c (gEi below D g N ad ln A0 A' r args s) 2 D g (va_A (gw g ad ln A0 N) s.heap.size) N ad ln A [(0, gr 183), (1, gi x1)] 0 0 0 [] := by
  unfold mX6_isPair_b0 at h
  refine g_aload_n C 0 dX6_isPair_0 rfl ?_
  refine g_get (v := gr 185) C 183 4 (by omega) rfl rfl gu_6 (by decide) qf_X6_13 rfl dX6_isPair_1 ?_
  refine g_iload_n C 1 dX6_isPair_4 rfl ?_
  obtain ⟨hg1, h⟩ := g_gd h
  refine g_iald C 185 (by omega) rfl (show g_ln ln 185 = cp from hcp.1) hg1 dX6_isPair_5 ?_
  refine g_iconst (v := 2) C dX6_isPair_6 (by decide) ?_
  refine g_icmp_eq C dX6_isPair_7 (tgt := 20) (by decide) (fun c2 => ?_) (fun c2 => ?_)
  · have h := g_tt c2 h
    refine g_sub [] rfl ?_
    exact wX6_isPair_b20 hN hcp C hr h
  · have h := g_ff c2 h
    refine g_aload_n C 0 dX6_isPair_10 rfl ?_
    refine g_get (v := gr 185) C 183 4 (by omega) rfl rfl gu_6 (by decide) qf_X6_13 rfl dX6_isPair_11 ?_
    refine g_iload_n C 1 dX6_isPair_14 rfl ?_
    obtain ⟨hg3, h⟩ := g_gd h
    refine g_iald C 185 (by omega) rfl (show g_ln ln 185 = cp from hcp.1) hg3 dX6_isPair_15 ?_
    refine g_iconst (v := 3) C dX6_isPair_16 (by decide) ?_
    refine g_icmp_ne C dX6_isPair_17 (tgt := 24) (by decide) (fun c4 => ?_) (fun c4 => ?_)
    · have h := g_ff c4 h
      refine g_iconst (v := 0) C dX6_isPair_24 (by decide) ?_
      refine g_sub [] rfl ?_
      exact wX6_isPair_b25 hN hcp C hr h
    · have h := g_tt c4 h
      refine g_sub [] rfl ?_
      exact wX6_isPair_b20 hN hcp C hr h

set_option maxHeartbeats 2000000 in
set_option maxRecDepth 20000 in
theorem kX6_isPair {l : Launch} {D : va_G} {g : gT} {N : Nat} {ad ln : Nat → Nat} (hN : 193 ≤ N) {cp : Nat} (hcp : g_cap ln cp) {A A' : gM} {x1 : Int32} {r : Int32} (h : mX6_isPair cp A x1 = some (A', r)) : gKi l yX6_isPair cX6_isPair 2 (some .boolean) (0) D g N ad ln A [gr 183, gi x1] A' r := by
  refine g_meti (by decide) (Nat.le_of_ble_eq_true rfl) ?_
  intro p e s m args below meth c C hr
  refine g_sub [0, 1] rfl ?_
  exact wX6_isPair_b0 hN hcp C hr h
def mX6_failed_b0 (cp : Nat) (A : gM) (x1 : Int32) (x2 : Int32) : Option (gM × Int32) :=
  g_let (g_up A 183 12 x1) fun A1 =>
  g_let (g_up A1 183 13 x2) fun A2 =>
  some (A2, (-1))
def mX6_failed (cp : Nat) (A : gM) (x1 : Int32) (x2 : Int32) : Option (gM × Int32) := mX6_failed_b0 cp A x1 x2
set_option maxHeartbeats 2000000 in
set_option maxRecDepth 20000 in
theorem wX6_failed_b0 (hN : 193 ≤ N) {cp : Nat} (hcp : g_cap ln cp) {A0 A' : gM} {r : Int32} (C : gC p R s m args meth c cX6_failed RX6 3 D g (va_A (gw g ad ln A0 N) s.heap.size) 0) (hr : meth.sig.returnType = some .int)  {A : gM} {x1 : Int32} {x2 : Int32} (h : mX6_failed_b0 cp A x1 x2 = some (A', r)) : gJ p l e R s m args below meth c (gEi below D g N ad ln A0 A' r args s) 3 D g (va_A (gw g ad ln A0 N) s.heap.size) N ad ln A [(0, gr 183), (1, gi x1), (2, gi x2)] 0 0 0 [] := by
  unfold mX6_failed_b0 at h
  refine g_aload_n C 0 dX6_failed_0 rfl ?_
  refine g_iload_n C 1 dX6_failed_1 rfl ?_
  obtain ⟨A1, eA1, h⟩ := g_lt h
  refine g_put C 183 12 tyX6 tyX6_ok nmX6 (by omega) rfl rfl gu_6 (by decide) qf_X6_99 rfl (by decide +kernel) (Nat.le_of_ble_eq_true rfl) rfl eA1 dX6_failed_2 ?_
  refine g_aload_n C 0 dX6_failed_5 rfl ?_
  refine g_iload_n C 2 dX6_failed_6 rfl ?_
  obtain ⟨A2, eA2, h⟩ := g_lt h
  refine g_put C 183 13 tyX6 tyX6_ok nmX6 (by omega) rfl rfl gu_6 (by decide) qf_X6_102 rfl (by decide +kernel) (Nat.le_of_ble_eq_true rfl) rfl eA2 dX6_failed_7 ?_
  refine g_iconst (v := (-1)) C dX6_failed_10 (by decide) ?_
  obtain ⟨rfl, rfl⟩ := Prod.mk.inj (Option.some.inj h)
  exact g_reti C hr dX6_failed_11

set_option maxHeartbeats 2000000 in
set_option maxRecDepth 20000 in
theorem kX6_failed {l : Launch} {D : va_G} {g : gT} {N : Nat} {ad ln : Nat → Nat} (hN : 193 ≤ N) {cp : Nat} (hcp : g_cap ln cp) {A A' : gM} {x1 : Int32} {x2 : Int32} {r : Int32} (h : mX6_failed cp A x1 x2 = some (A', r)) : gKi l yX6_failed cX6_failed 3 (some .int) (0) D g N ad ln A [gr 183, gi x1, gi x2] A' r := by
  refine g_meti (by decide) (Nat.le_of_ble_eq_true rfl) ?_
  intro p e s m args below meth c C hr
  refine g_sub [0, 1, 2] rfl ?_
  exact wX6_failed_b0 hN hcp C hr h
def mX6_has_b52 (cp : Nat) (rec : gM → Int32 → Int32 → Option (gM × Int32)) (A : gM) (s0 : Int32) : Option (gM × Int32) :=
  if (s0 : Int32) = 0 ∨ (s0 : Int32) = 1 then some (A, s0) else none
def mX6_has_b47 (cp : Nat) (rec : gM → Int32 → Int32 → Option (gM × Int32)) (A : gM) : Option (gM × Int32) :=
  mX6_has_b52 cp rec A 1
def mX6_has_b51 (cp : Nat) (rec : gM → Int32 → Int32 → Option (gM × Int32)) (A : gM) : Option (gM × Int32) :=
  mX6_has_b52 cp rec A 0
def mX6_has_b0 (cp : Nat) (rec : gM → Int32 → Int32 → Option (gM × Int32)) (A : gM) (x1 : Int32) (x2 : Int32) : Option (gM × Int32) :=
  (mX6_now cp A x1).bind fun q1 =>
  if q1.2 = x2 then
  mX6_has_b47 cp rec q1.1
  else
  (mX6_isPair cp q1.1 q1.2).bind fun q3 =>
  if q3.2 = 0 then
  mX6_has_b51 cp rec q3.1
  else
  if g_in q1.2 cp = true then
  (rec q3.1 (q3.1 186 q1.2.toNatClampNeg) x2).bind fun q6 =>
  if q6.2 = 0 then
  if g_in q1.2 cp = true then
  (rec q6.1 (q6.1 187 q1.2.toNatClampNeg) x2).bind fun q9 =>
  if q9.2 = 0 then
  mX6_has_b51 cp rec q9.1
  else
  mX6_has_b47 cp rec q9.1
  else none
  else
  mX6_has_b47 cp rec q6.1
  else none
def mX6_has_body (cp : Nat) (rec : gM → Int32 → Int32 → Option (gM × Int32)) (A : gM) (x1 : Int32) (x2 : Int32) : Option (gM × Int32) := mX6_has_b0 cp rec A x1 x2
def mX6_has (cp : Nat) : Nat → gM → Int32 → Int32 → Option (gM × Int32)
  | 0 => fun _ _ _ => none
  | f + 1 => mX6_has_body cp (mX6_has cp f)
set_option maxHeartbeats 2000000 in
set_option maxRecDepth 20000 in
theorem wX6_has_b52 (hN : 193 ≤ N) {cp : Nat} (hcp : g_cap ln cp) {rec : gM → Int32 → Int32 → Option (gM × Int32)} {fu : Nat} (hrec : ∀ {A A' : gM} {x1 : Int32} {x2 : Int32} {r : Int32}, rec A x1 x2 = some (A', r) → gKi l yX6_has cX6_has 4 (some .boolean) (3 + 1 * fu) D g N ad ln A [gr 183, gi x1, gi x2] A' r) {A0 A' : gM} {r : Int32} (C : gC p R s m args meth c cX6_has RX6 4 D g (va_A (gw g ad ln A0 N) s.heap.size) (3 + 1 * fu + 1)) (hr : meth.sig.returnType = some .boolean)  {A : gM} {s0 : Int32} (h : mX6_has_b52 cp rec A s0 = some (A', r)) : gJ p l e R s m args below meth c (gEi below D g N ad ln A0 A' r args s) 4 D g (va_A (gw g ad ln A0 N) s.heap.size) N ad ln A [] 0 0 52 [gi s0] := by
  unfold mX6_has_b52 at h
  obtain ⟨hz1, h⟩ := g_gd h
  obtain ⟨rfl, rfl⟩ := Prod.mk.inj (Option.some.inj h)
  exact g_retz C hr hz1 dX6_has_52

set_option maxHeartbeats 2000000 in
set_option maxRecDepth 20000 in
theorem wX6_has_b47 (hN : 193 ≤ N) {cp : Nat} (hcp : g_cap ln cp) {rec : gM → Int32 → Int32 → Option (gM × Int32)} {fu : Nat} (hrec : ∀ {A A' : gM} {x1 : Int32} {x2 : Int32} {r : Int32}, rec A x1 x2 = some (A', r) → gKi l yX6_has cX6_has 4 (some .boolean) (3 + 1 * fu) D g N ad ln A [gr 183, gi x1, gi x2] A' r) {A0 A' : gM} {r : Int32} (C : gC p R s m args meth c cX6_has RX6 4 D g (va_A (gw g ad ln A0 N) s.heap.size) (3 + 1 * fu + 1)) (hr : meth.sig.returnType = some .boolean)  {A : gM} (h : mX6_has_b47 cp rec A = some (A', r)) : gJ p l e R s m args below meth c (gEi below D g N ad ln A0 A' r args s) 4 D g (va_A (gw g ad ln A0 N) s.heap.size) N ad ln A [] 0 0 47 [] := by
  unfold mX6_has_b47 at h
  refine g_iconst (v := 1) C dX6_has_47 (by decide) ?_
  refine g_goto C dX6_has_48 (tgt := 52) (by decide) ?_
  refine g_sub [] rfl ?_
  exact wX6_has_b52 hN hcp hrec C hr h

set_option maxHeartbeats 2000000 in
set_option maxRecDepth 20000 in
theorem wX6_has_b51 (hN : 193 ≤ N) {cp : Nat} (hcp : g_cap ln cp) {rec : gM → Int32 → Int32 → Option (gM × Int32)} {fu : Nat} (hrec : ∀ {A A' : gM} {x1 : Int32} {x2 : Int32} {r : Int32}, rec A x1 x2 = some (A', r) → gKi l yX6_has cX6_has 4 (some .boolean) (3 + 1 * fu) D g N ad ln A [gr 183, gi x1, gi x2] A' r) {A0 A' : gM} {r : Int32} (C : gC p R s m args meth c cX6_has RX6 4 D g (va_A (gw g ad ln A0 N) s.heap.size) (3 + 1 * fu + 1)) (hr : meth.sig.returnType = some .boolean)  {A : gM} (h : mX6_has_b51 cp rec A = some (A', r)) : gJ p l e R s m args below meth c (gEi below D g N ad ln A0 A' r args s) 4 D g (va_A (gw g ad ln A0 N) s.heap.size) N ad ln A [] 0 0 51 [] := by
  unfold mX6_has_b51 at h
  refine g_iconst (v := 0) C dX6_has_51 (by decide) ?_
  refine g_sub [] rfl ?_
  exact wX6_has_b52 hN hcp hrec C hr h

set_option maxHeartbeats 2000000 in
set_option maxRecDepth 20000 in
theorem wX6_has_b0 (hN : 193 ≤ N) {cp : Nat} (hcp : g_cap ln cp) {rec : gM → Int32 → Int32 → Option (gM × Int32)} {fu : Nat} (hrec : ∀ {A A' : gM} {x1 : Int32} {x2 : Int32} {r : Int32}, rec A x1 x2 = some (A', r) → gKi l yX6_has cX6_has 4 (some .boolean) (3 + 1 * fu) D g N ad ln A [gr 183, gi x1, gi x2] A' r) {A0 A' : gM} {r : Int32} (C : gC p R s m args meth c cX6_has RX6 4 D g (va_A (gw g ad ln A0 N) s.heap.size) (3 + 1 * fu + 1)) (hr : meth.sig.returnType = some .boolean)  {A : gM} {x1 : Int32} {x2 : Int32} (h : mX6_has_b0 cp rec A x1 x2 = some (A', r)) : gJ p l e R s m args below meth c (gEi below D g N ad ln A0 A' r args s) 4 D g (va_A (gw g ad ln A0 N) s.heap.size) N ad ln A [(0, gr 183), (1, gi x1), (2, gi x2)] 0 0 0 [] := by
  unfold mX6_has_b0 at h
  refine g_aload_n C 0 dX6_has_0 rfl ?_
  refine g_iload_n C 1 dX6_has_1 rfl ?_
  obtain ⟨q1, eq1, h⟩ := g_bd h
  refine g_calliV C 183 [gi x1] (kX6_now hN hcp eq1) qs_X6_89 (by omega) (by omega) rfl rfl rfl rfl (Nat.le_of_ble_eq_true rfl) ⟨Nat.zero_le _, Nat.zero_le _⟩ dX6_has_2 ?_
  refine g_istore_n C dX6_has_5 (by decide) rfl ?_
  refine g_iload_n C 0 dX6_has_6 rfl ?_
  refine g_iload_n C 3 dX6_has_7 rfl ?_
  refine g_icmp_eq C dX6_has_8 (tgt := 47) (by decide) (fun c2 => ?_) (fun c2 => ?_)
  · have h := g_tt c2 h
    refine g_sub [] rfl ?_
    exact wX6_has_b47 hN hcp hrec C hr h
  · have h := g_ff c2 h
    refine g_aload_n C 1 dX6_has_11 rfl ?_
    refine g_iload_n C 0 dX6_has_12 rfl ?_
    obtain ⟨q3, eq3, h⟩ := g_bd h
    refine g_calliV C 183 [gi q1.2] (kX6_isPair hN hcp eq3) qs_X6_92 (by omega) (by omega) rfl rfl rfl rfl (Nat.le_of_ble_eq_true rfl) ⟨Nat.zero_le _, Nat.zero_le _⟩ dX6_has_13 ?_
    refine g_if_eq C dX6_has_16 (tgt := 51) (by decide) (fun c4 => ?_) (fun c4 => ?_)
    · have h := g_tt c4 h
      refine g_sub [] rfl ?_
      exact wX6_has_b51 hN hcp hrec C hr h
    · have h := g_ff c4 h
      refine g_aload_n C 1 dX6_has_19 rfl ?_
      refine g_aload_n C 1 dX6_has_20 rfl ?_
      refine g_get (v := gr 186) C 183 5 (by omega) rfl rfl gu_6 (by decide) qf_X6_16 rfl dX6_has_21 ?_
      refine g_iload_n C 0 dX6_has_24 rfl ?_
      obtain ⟨hg5, h⟩ := g_gd h
      refine g_iald C 186 (by omega) rfl (show g_ln ln 186 = cp from hcp.2.1) hg5 dX6_has_25 ?_
      refine g_iload_n C 3 dX6_has_26 rfl ?_
      obtain ⟨q6, eq6, h⟩ := g_bd h
      refine g_calliV C 183 [gi (q3.1 186 q1.2.toNatClampNeg), gi x2] (hrec eq6) qs_X6_95 (by omega) (by omega) rfl rfl rfl rfl (Nat.le_of_ble_eq_true rfl) ⟨Nat.zero_le _, Nat.zero_le _⟩ dX6_has_27 ?_
      refine g_if_ne C dX6_has_30 (tgt := 47) (by decide) (fun c7 => ?_) (fun c7 => ?_)
      · have h := g_ff c7 h
        refine g_sub [] rfl ?_
        exact wX6_has_b47 hN hcp hrec C hr h
      · have h := g_tt c7 h
        refine g_aload_n C 1 dX6_has_33 rfl ?_
        refine g_aload_n C 1 dX6_has_34 rfl ?_
        refine g_get (v := gr 187) C 183 6 (by omega) rfl rfl gu_6 (by decide) qf_X6_19 rfl dX6_has_35 ?_
        refine g_iload_n C 0 dX6_has_38 rfl ?_
        obtain ⟨hg8, h⟩ := g_gd h
        refine g_iald C 187 (by omega) rfl (show g_ln ln 187 = cp from hcp.2.2.1) hg8 dX6_has_39 ?_
        refine g_iload_n C 3 dX6_has_40 rfl ?_
        obtain ⟨q9, eq9, h⟩ := g_bd h
        refine g_calliV C 183 [gi (q6.1 187 q1.2.toNatClampNeg), gi x2] (hrec eq9) qs_X6_95 (by omega) (by omega) rfl rfl rfl rfl (Nat.le_of_ble_eq_true rfl) ⟨Nat.zero_le _, Nat.zero_le _⟩ dX6_has_41 ?_
        refine g_if_eq C dX6_has_44 (tgt := 51) (by decide) (fun c10 => ?_) (fun c10 => ?_)
        · have h := g_tt c10 h
          refine g_sub [] rfl ?_
          exact wX6_has_b51 hN hcp hrec C hr h
        · have h := g_ff c10 h
          refine g_sub [] rfl ?_
          exact wX6_has_b47 hN hcp hrec C hr h

set_option maxHeartbeats 2000000 in
set_option maxRecDepth 20000 in
theorem kX6_has_body {l : Launch} {D : va_G} {g : gT} {N : Nat} {ad ln : Nat → Nat} (hN : 193 ≤ N) {cp : Nat} (hcp : g_cap ln cp) {rec : gM → Int32 → Int32 → Option (gM × Int32)} {fu : Nat} (hrec : ∀ {A A' : gM} {x1 : Int32} {x2 : Int32} {r : Int32}, rec A x1 x2 = some (A', r) → gKi l yX6_has cX6_has 4 (some .boolean) (3 + 1 * fu) D g N ad ln A [gr 183, gi x1, gi x2] A' r) {A A' : gM} {x1 : Int32} {x2 : Int32} {r : Int32} (h : mX6_has_body cp rec A x1 x2 = some (A', r)) : gKi l yX6_has cX6_has 4 (some .boolean) ((3 + 1 * fu + 1)) D g N ad ln A [gr 183, gi x1, gi x2] A' r := by
  refine g_meti (by decide) (Nat.le_of_ble_eq_true rfl) ?_
  intro p e s m args below meth c C hr
  refine g_sub [0, 1, 2] rfl ?_
  exact wX6_has_b0 hN hcp hrec C hr h
set_option maxHeartbeats 2000000 in
set_option maxRecDepth 20000 in
theorem kX6_has {l : Launch} {D : va_G} {g : gT} {N : Nat} {ad ln : Nat → Nat} (hN : 193 ≤ N) {cp : Nat} (hcp : g_cap ln cp) : ∀ (f : Nat) {A A' : gM} {x1 : Int32} {x2 : Int32} {r : Int32}, mX6_has cp f A x1 x2 = some (A', r) → gKi l yX6_has cX6_has 4 (some .boolean) (3 + 1 * f) D g N ad ln A [gr 183, gi x1, gi x2] A' r
  | 0, A, A', x1, x2, r, h => by cases h
  | f + 1, A, A', x1, x2, r, h => kX6_has_body hN hcp (fun h => kX6_has hN hcp f h) h
def mX6_codes_b56 (cp : Nat) (rec : gM → Int32 → Option (gM × Int32)) (A : gM) (s0 : Int32) : Option (gM × Int32) :=
  some (A, s0)
def mX6_codes_b0 (cp : Nat) (rec : gM → Int32 → Option (gM × Int32)) (A : gM) (x1 : Int32) : Option (gM × Int32) :=
  (mX6_now cp A x1).bind fun q1 =>
  (mX6_isPair cp q1.1 q1.2).bind fun q2 =>
  if q2.2 = 0 then
  some (q2.1, 1)
  else
  if g_in q1.2 cp = true then
  (rec q2.1 (q2.1 186 q1.2.toNatClampNeg)).bind fun q5 =>
  if q5.2 ≤ 60 then
  if g_in q1.2 cp = true then
  (rec q5.1 (q5.1 187 q1.2.toNatClampNeg)).bind fun q8 =>
  mX6_codes_b56 cp rec q8.1 (if ((1 + q5.2) + q8.2) < 61 then ((1 + q5.2) + q8.2) else 61)
  else none
  else
  mX6_codes_b56 cp rec q5.1 q5.2
  else none
def mX6_codes_body (cp : Nat) (rec : gM → Int32 → Option (gM × Int32)) (A : gM) (x1 : Int32) : Option (gM × Int32) := mX6_codes_b0 cp rec A x1
def mX6_codes (cp : Nat) : Nat → gM → Int32 → Option (gM × Int32)
  | 0 => fun _ _ => none
  | f + 1 => mX6_codes_body cp (mX6_codes cp f)
set_option maxHeartbeats 2000000 in
set_option maxRecDepth 20000 in
theorem wX6_codes_b56 (hN : 193 ≤ N) {cp : Nat} (hcp : g_cap ln cp) {rec : gM → Int32 → Option (gM × Int32)} {fu : Nat} (hrec : ∀ {A A' : gM} {x1 : Int32} {r : Int32}, rec A x1 = some (A', r) → gKi l yX6_codes cX6_codes 4 (some .int) (3 + 1 * fu) D g N ad ln A [gr 183, gi x1] A' r) {A0 A' : gM} {r : Int32} (C : gC p R s m args meth c cX6_codes RX6 4 D g (va_A (gw g ad ln A0 N) s.heap.size) (3 + 1 * fu + 1)) (hr : meth.sig.returnType = some .int)  {A : gM} {s0 : Int32} (h : mX6_codes_b56 cp rec A s0 = some (A', r)) : gJ p l e R s m args below meth c (gEi below D g N ad ln A0 A' r args s) 4 D g (va_A (gw g ad ln A0 N) s.heap.size) N ad ln A [] 0 0 56 [gi s0] := by
  unfold mX6_codes_b56 at h
  obtain ⟨rfl, rfl⟩ := Prod.mk.inj (Option.some.inj h)
  exact g_reti C hr dX6_codes_56

set_option maxHeartbeats 2000000 in
set_option maxRecDepth 20000 in
theorem wX6_codes_b0 (hN : 193 ≤ N) {cp : Nat} (hcp : g_cap ln cp) {rec : gM → Int32 → Option (gM × Int32)} {fu : Nat} (hrec : ∀ {A A' : gM} {x1 : Int32} {r : Int32}, rec A x1 = some (A', r) → gKi l yX6_codes cX6_codes 4 (some .int) (3 + 1 * fu) D g N ad ln A [gr 183, gi x1] A' r) {A0 A' : gM} {r : Int32} (C : gC p R s m args meth c cX6_codes RX6 4 D g (va_A (gw g ad ln A0 N) s.heap.size) (3 + 1 * fu + 1)) (hr : meth.sig.returnType = some .int)  {A : gM} {x1 : Int32} (h : mX6_codes_b0 cp rec A x1 = some (A', r)) : gJ p l e R s m args below meth c (gEi below D g N ad ln A0 A' r args s) 4 D g (va_A (gw g ad ln A0 N) s.heap.size) N ad ln A [(0, gr 183), (1, gi x1)] 0 0 0 [] := by
  unfold mX6_codes_b0 at h
  refine g_aload_n C 0 dX6_codes_0 rfl ?_
  refine g_iload_n C 1 dX6_codes_1 rfl ?_
  obtain ⟨q1, eq1, h⟩ := g_bd h
  refine g_calliV C 183 [gi x1] (kX6_now hN hcp eq1) qs_X6_89 (by omega) (by omega) rfl rfl rfl rfl (Nat.le_of_ble_eq_true rfl) ⟨Nat.zero_le _, Nat.zero_le _⟩ dX6_codes_2 ?_
  refine g_istore_n C dX6_codes_5 (by decide) rfl ?_
  refine g_aload_n C 1 dX6_codes_6 rfl ?_
  refine g_iload_n C 0 dX6_codes_7 rfl ?_
  obtain ⟨q2, eq2, h⟩ := g_bd h
  refine g_calliV C 183 [gi q1.2] (kX6_isPair hN hcp eq2) qs_X6_92 (by omega) (by omega) rfl rfl rfl rfl (Nat.le_of_ble_eq_true rfl) ⟨Nat.zero_le _, Nat.zero_le _⟩ dX6_codes_8 ?_
  refine g_if_ne C dX6_codes_11 (tgt := 16) (by decide) (fun c3 => ?_) (fun c3 => ?_)
  · have h := g_ff c3 h
    refine g_aload_n C 1 dX6_codes_16 rfl ?_
    refine g_aload_n C 1 dX6_codes_17 rfl ?_
    refine g_get (v := gr 186) C 183 5 (by omega) rfl rfl gu_6 (by decide) qf_X6_16 rfl dX6_codes_18 ?_
    refine g_iload_n C 0 dX6_codes_21 rfl ?_
    obtain ⟨hg4, h⟩ := g_gd h
    refine g_iald C 186 (by omega) rfl (show g_ln ln 186 = cp from hcp.2.1) hg4 dX6_codes_22 ?_
    obtain ⟨q5, eq5, h⟩ := g_bd h
    refine g_calliV C 183 [gi (q2.1 186 q1.2.toNatClampNeg)] (hrec eq5) qs_X6_111 (by omega) (by omega) rfl rfl rfl rfl (Nat.le_of_ble_eq_true rfl) ⟨Nat.zero_le _, Nat.zero_le _⟩ dX6_codes_23 ?_
    refine g_istore_n C dX6_codes_26 (by decide) rfl ?_
    refine g_iload_n C 0 dX6_codes_27 rfl ?_
    refine g_bipush (v := 60) C dX6_codes_28 (by decide) ?_
    refine g_icmp_le C dX6_codes_30 (tgt := 37) (by decide) (fun c6 => ?_) (fun c6 => ?_)
    · have h := g_tt c6 h
      refine g_bipush (v := 61) C dX6_codes_37 (by decide) ?_
      refine g_iconst (v := 1) C dX6_codes_39 (by decide) ?_
      refine g_iload_n C 0 dX6_codes_40 rfl ?_
      refine g_iadd C dX6_codes_41 ?_
      refine g_aload_n C 2 dX6_codes_42 rfl ?_
      refine g_aload_n C 2 dX6_codes_43 rfl ?_
      refine g_get (v := gr 187) C 183 6 (by omega) rfl rfl gu_6 (by decide) qf_X6_19 rfl dX6_codes_44 ?_
      refine g_iload_n C 1 dX6_codes_47 rfl ?_
      obtain ⟨hg7, h⟩ := g_gd h
      refine g_iald C 187 (by omega) rfl (show g_ln ln 187 = cp from hcp.2.2.1) hg7 dX6_codes_48 ?_
      obtain ⟨q8, eq8, h⟩ := g_bd h
      refine g_calliV C 183 [gi (q5.1 187 q1.2.toNatClampNeg)] (hrec eq8) qs_X6_111 (by omega) (by omega) rfl rfl rfl rfl (Nat.le_of_ble_eq_true rfl) ⟨Nat.zero_le _, Nat.zero_le _⟩ dX6_codes_49 ?_
      refine g_iadd C dX6_codes_52 ?_
      refine g_mmin C qm_X6_114 (by omega) (Nat.le_of_ble_eq_true rfl) ⟨Nat.zero_le _, Nat.zero_le _⟩ dX6_codes_53 ?_
      refine g_sub [] rfl ?_
      exact wX6_codes_b56 hN hcp hrec C hr h
    · have h := g_ff c6 h
      refine g_iload_n C 0 dX6_codes_33 rfl ?_
      refine g_goto C dX6_codes_34 (tgt := 56) (by decide) ?_
      refine g_sub [] rfl ?_
      exact wX6_codes_b56 hN hcp hrec C hr h
  · have h := g_tt c3 h
    refine g_iconst (v := 1) C dX6_codes_14 (by decide) ?_
    obtain ⟨rfl, rfl⟩ := Prod.mk.inj (Option.some.inj h)
    exact g_reti C hr dX6_codes_15

set_option maxHeartbeats 2000000 in
set_option maxRecDepth 20000 in
theorem kX6_codes_body {l : Launch} {D : va_G} {g : gT} {N : Nat} {ad ln : Nat → Nat} (hN : 193 ≤ N) {cp : Nat} (hcp : g_cap ln cp) {rec : gM → Int32 → Option (gM × Int32)} {fu : Nat} (hrec : ∀ {A A' : gM} {x1 : Int32} {r : Int32}, rec A x1 = some (A', r) → gKi l yX6_codes cX6_codes 4 (some .int) (3 + 1 * fu) D g N ad ln A [gr 183, gi x1] A' r) {A A' : gM} {x1 : Int32} {r : Int32} (h : mX6_codes_body cp rec A x1 = some (A', r)) : gKi l yX6_codes cX6_codes 4 (some .int) ((3 + 1 * fu + 1)) D g N ad ln A [gr 183, gi x1] A' r := by
  refine g_meti (by decide) (Nat.le_of_ble_eq_true rfl) ?_
  intro p e s m args below meth c C hr
  refine g_sub [0, 1] rfl ?_
  exact wX6_codes_b0 hN hcp hrec C hr h
set_option maxHeartbeats 2000000 in
set_option maxRecDepth 20000 in
theorem kX6_codes {l : Launch} {D : va_G} {g : gT} {N : Nat} {ad ln : Nat → Nat} (hN : 193 ≤ N) {cp : Nat} (hcp : g_cap ln cp) : ∀ (f : Nat) {A A' : gM} {x1 : Int32} {r : Int32}, mX6_codes cp f A x1 = some (A', r) → gKi l yX6_codes cX6_codes 4 (some .int) (3 + 1 * f) D g N ad ln A [gr 183, gi x1] A' r
  | 0, A, A', x1, r, h => by cases h
  | f + 1, A, A', x1, r, h => kX6_codes_body hN hcp (fun h => kX6_codes hN hcp f h) h
def mX6_hasOwn_b72 (cp : Nat) (rec : gM → Int32 → Option (gM × Int32)) (A : gM) (s0 : Int32) : Option (gM × Int32) :=
  if (s0 : Int32) = 0 ∨ (s0 : Int32) = 1 then some (A, s0) else none
def mX6_hasOwn_b71 (cp : Nat) (rec : gM → Int32 → Option (gM × Int32)) (A : gM) : Option (gM × Int32) :=
  mX6_hasOwn_b72 cp rec A 0
def mX6_hasOwn_b40 (cp : Nat) (rec : gM → Int32 → Option (gM × Int32)) (A : gM) : Option (gM × Int32) :=
  mX6_hasOwn_b72 cp rec A 1
def mX6_hasOwn_b0 (cp : Nat) (rec : gM → Int32 → Option (gM × Int32)) (A : gM) (x1 : Int32) : Option (gM × Int32) :=
  (mX6_now cp A x1).bind fun q1 =>
  (mX6_isPair cp q1.1 q1.2).bind fun q2 =>
  if q2.2 = 0 then
  if g_in q1.2 cp = true then
  if (q2.1 185 q1.2.toNatClampNeg) = 4 then
  if g_in q1.2 cp = true then
  if (q2.1 188 q1.2.toNatClampNeg) = 0 then
  mX6_hasOwn_b71 cp rec q2.1
  else
  mX6_hasOwn_b72 cp rec q2.1 1
  else none
  else
  mX6_hasOwn_b71 cp rec q2.1
  else none
  else
  if g_in q1.2 cp = true then
  (rec q2.1 (q2.1 186 q1.2.toNatClampNeg)).bind fun q9 =>
  if q9.2 = 0 then
  if g_in q1.2 cp = true then
  (rec q9.1 (q9.1 187 q1.2.toNatClampNeg)).bind fun q12 =>
  if q12.2 = 0 then
  mX6_hasOwn_b72 cp rec q12.1 0
  else
  mX6_hasOwn_b40 cp rec q12.1
  else none
  else
  mX6_hasOwn_b40 cp rec q9.1
  else none
def mX6_hasOwn_body (cp : Nat) (rec : gM → Int32 → Option (gM × Int32)) (A : gM) (x1 : Int32) : Option (gM × Int32) := mX6_hasOwn_b0 cp rec A x1
def mX6_hasOwn (cp : Nat) : Nat → gM → Int32 → Option (gM × Int32)
  | 0 => fun _ _ => none
  | f + 1 => mX6_hasOwn_body cp (mX6_hasOwn cp f)
set_option maxHeartbeats 2000000 in
set_option maxRecDepth 20000 in
theorem wX6_hasOwn_b72 (hN : 193 ≤ N) {cp : Nat} (hcp : g_cap ln cp) {rec : gM → Int32 → Option (gM × Int32)} {fu : Nat} (hrec : ∀ {A A' : gM} {x1 : Int32} {r : Int32}, rec A x1 = some (A', r) → gKi l yX6_hasOwn cX6_hasOwn 3 (some .boolean) (3 + 1 * fu) D g N ad ln A [gr 183, gi x1] A' r) {A0 A' : gM} {r : Int32} (C : gC p R s m args meth c cX6_hasOwn RX6 3 D g (va_A (gw g ad ln A0 N) s.heap.size) (3 + 1 * fu + 1)) (hr : meth.sig.returnType = some .boolean)  {A : gM} {s0 : Int32} (h : mX6_hasOwn_b72 cp rec A s0 = some (A', r)) : gJ p l e R s m args below meth c (gEi below D g N ad ln A0 A' r args s) 3 D g (va_A (gw g ad ln A0 N) s.heap.size) N ad ln A [] 0 0 72 [gi s0] := by
  unfold mX6_hasOwn_b72 at h
  obtain ⟨hz1, h⟩ := g_gd h
  obtain ⟨rfl, rfl⟩ := Prod.mk.inj (Option.some.inj h)
  exact g_retz C hr hz1 dX6_hasOwn_72

set_option maxHeartbeats 2000000 in
set_option maxRecDepth 20000 in
theorem wX6_hasOwn_b71 (hN : 193 ≤ N) {cp : Nat} (hcp : g_cap ln cp) {rec : gM → Int32 → Option (gM × Int32)} {fu : Nat} (hrec : ∀ {A A' : gM} {x1 : Int32} {r : Int32}, rec A x1 = some (A', r) → gKi l yX6_hasOwn cX6_hasOwn 3 (some .boolean) (3 + 1 * fu) D g N ad ln A [gr 183, gi x1] A' r) {A0 A' : gM} {r : Int32} (C : gC p R s m args meth c cX6_hasOwn RX6 3 D g (va_A (gw g ad ln A0 N) s.heap.size) (3 + 1 * fu + 1)) (hr : meth.sig.returnType = some .boolean)  {A : gM} (h : mX6_hasOwn_b71 cp rec A = some (A', r)) : gJ p l e R s m args below meth c (gEi below D g N ad ln A0 A' r args s) 3 D g (va_A (gw g ad ln A0 N) s.heap.size) N ad ln A [] 0 0 71 [] := by
  unfold mX6_hasOwn_b71 at h
  refine g_iconst (v := 0) C dX6_hasOwn_71 (by decide) ?_
  refine g_sub [] rfl ?_
  exact wX6_hasOwn_b72 hN hcp hrec C hr h

set_option maxHeartbeats 2000000 in
set_option maxRecDepth 20000 in
theorem wX6_hasOwn_b40 (hN : 193 ≤ N) {cp : Nat} (hcp : g_cap ln cp) {rec : gM → Int32 → Option (gM × Int32)} {fu : Nat} (hrec : ∀ {A A' : gM} {x1 : Int32} {r : Int32}, rec A x1 = some (A', r) → gKi l yX6_hasOwn cX6_hasOwn 3 (some .boolean) (3 + 1 * fu) D g N ad ln A [gr 183, gi x1] A' r) {A0 A' : gM} {r : Int32} (C : gC p R s m args meth c cX6_hasOwn RX6 3 D g (va_A (gw g ad ln A0 N) s.heap.size) (3 + 1 * fu + 1)) (hr : meth.sig.returnType = some .boolean)  {A : gM} (h : mX6_hasOwn_b40 cp rec A = some (A', r)) : gJ p l e R s m args below meth c (gEi below D g N ad ln A0 A' r args s) 3 D g (va_A (gw g ad ln A0 N) s.heap.size) N ad ln A [] 0 0 40 [] := by
  unfold mX6_hasOwn_b40 at h
  refine g_iconst (v := 1) C dX6_hasOwn_40 (by decide) ?_
  refine g_goto C dX6_hasOwn_41 (tgt := 72) (by decide) ?_
  refine g_sub [] rfl ?_
  exact wX6_hasOwn_b72 hN hcp hrec C hr h

set_option maxHeartbeats 2000000 in
set_option maxRecDepth 20000 in
theorem wX6_hasOwn_b0 (hN : 193 ≤ N) {cp : Nat} (hcp : g_cap ln cp) {rec : gM → Int32 → Option (gM × Int32)} {fu : Nat} (hrec : ∀ {A A' : gM} {x1 : Int32} {r : Int32}, rec A x1 = some (A', r) → gKi l yX6_hasOwn cX6_hasOwn 3 (some .boolean) (3 + 1 * fu) D g N ad ln A [gr 183, gi x1] A' r) {A0 A' : gM} {r : Int32} (C : gC p R s m args meth c cX6_hasOwn RX6 3 D g (va_A (gw g ad ln A0 N) s.heap.size) (3 + 1 * fu + 1)) (hr : meth.sig.returnType = some .boolean)  {A : gM} {x1 : Int32} (h : mX6_hasOwn_b0 cp rec A x1 = some (A', r)) : gJ p l e R s m args below meth c (gEi below D g N ad ln A0 A' r args s) 3 D g (va_A (gw g ad ln A0 N) s.heap.size) N ad ln A [(0, gr 183), (1, gi x1)] 0 0 0 [] := by
  unfold mX6_hasOwn_b0 at h
  refine g_aload_n C 0 dX6_hasOwn_0 rfl ?_
  refine g_iload_n C 1 dX6_hasOwn_1 rfl ?_
  obtain ⟨q1, eq1, h⟩ := g_bd h
  refine g_calliV C 183 [gi x1] (kX6_now hN hcp eq1) qs_X6_89 (by omega) (by omega) rfl rfl rfl rfl (Nat.le_of_ble_eq_true rfl) ⟨Nat.zero_le _, Nat.zero_le _⟩ dX6_hasOwn_2 ?_
  refine g_istore_n C dX6_hasOwn_5 (by decide) rfl ?_
  refine g_aload_n C 1 dX6_hasOwn_6 rfl ?_
  refine g_iload_n C 0 dX6_hasOwn_7 rfl ?_
  obtain ⟨q2, eq2, h⟩ := g_bd h
  refine g_calliV C 183 [gi q1.2] (kX6_isPair hN hcp eq2) qs_X6_92 (by omega) (by omega) rfl rfl rfl rfl (Nat.le_of_ble_eq_true rfl) ⟨Nat.zero_le _, Nat.zero_le _⟩ dX6_hasOwn_8 ?_
  refine g_if_eq C dX6_hasOwn_11 (tgt := 48) (by decide) (fun c3 => ?_) (fun c3 => ?_)
  · have h := g_tt c3 h
    refine g_aload_n C 1 dX6_hasOwn_48 rfl ?_
    refine g_get (v := gr 185) C 183 4 (by omega) rfl rfl gu_6 (by decide) qf_X6_13 rfl dX6_hasOwn_49 ?_
    refine g_iload_n C 0 dX6_hasOwn_52 rfl ?_
    obtain ⟨hg4, h⟩ := g_gd h
    refine g_iald C 185 (by omega) rfl (show g_ln ln 185 = cp from hcp.1) hg4 dX6_hasOwn_53 ?_
    refine g_iconst (v := 4) C dX6_hasOwn_54 (by decide) ?_
    refine g_icmp_ne C dX6_hasOwn_55 (tgt := 71) (by decide) (fun c5 => ?_) (fun c5 => ?_)
    · have h := g_ff c5 h
      refine g_sub [] rfl ?_
      exact wX6_hasOwn_b71 hN hcp hrec C hr h
    · have h := g_tt c5 h
      refine g_aload_n C 1 dX6_hasOwn_58 rfl ?_
      refine g_get (v := gr 188) C 183 7 (by omega) rfl rfl gu_6 (by decide) qf_X6_22 rfl dX6_hasOwn_59 ?_
      refine g_iload_n C 0 dX6_hasOwn_62 rfl ?_
      obtain ⟨hg6, h⟩ := g_gd h
      refine g_zald C (by omega) (by rw [hcp.2.2.2.1]; exact hg6) dX6_hasOwn_63 ?_
      refine g_if_eq C dX6_hasOwn_64 (tgt := 71) (by decide) (fun c7 => ?_) (fun c7 => ?_)
      · have h := g_tt c7 h
        refine g_sub [] rfl ?_
        exact wX6_hasOwn_b71 hN hcp hrec C hr h
      · have h := g_ff c7 h
        refine g_iconst (v := 1) C dX6_hasOwn_67 (by decide) ?_
        refine g_goto C dX6_hasOwn_68 (tgt := 72) (by decide) ?_
        refine g_sub [] rfl ?_
        exact wX6_hasOwn_b72 hN hcp hrec C hr h
  · have h := g_ff c3 h
    refine g_aload_n C 1 dX6_hasOwn_14 rfl ?_
    refine g_aload_n C 1 dX6_hasOwn_15 rfl ?_
    refine g_get (v := gr 186) C 183 5 (by omega) rfl rfl gu_6 (by decide) qf_X6_16 rfl dX6_hasOwn_16 ?_
    refine g_iload_n C 0 dX6_hasOwn_19 rfl ?_
    obtain ⟨hg8, h⟩ := g_gd h
    refine g_iald C 186 (by omega) rfl (show g_ln ln 186 = cp from hcp.2.1) hg8 dX6_hasOwn_20 ?_
    obtain ⟨q9, eq9, h⟩ := g_bd h
    refine g_calliV C 183 [gi (q2.1 186 q1.2.toNatClampNeg)] (hrec eq9) qs_X6_129 (by omega) (by omega) rfl rfl rfl rfl (Nat.le_of_ble_eq_true rfl) ⟨Nat.zero_le _, Nat.zero_le _⟩ dX6_hasOwn_21 ?_
    refine g_if_ne C dX6_hasOwn_24 (tgt := 40) (by decide) (fun c10 => ?_) (fun c10 => ?_)
    · have h := g_ff c10 h
      refine g_sub [] rfl ?_
      exact wX6_hasOwn_b40 hN hcp hrec C hr h
    · have h := g_tt c10 h
      refine g_aload_n C 1 dX6_hasOwn_27 rfl ?_
      refine g_aload_n C 1 dX6_hasOwn_28 rfl ?_
      refine g_get (v := gr 187) C 183 6 (by omega) rfl rfl gu_6 (by decide) qf_X6_19 rfl dX6_hasOwn_29 ?_
      refine g_iload_n C 0 dX6_hasOwn_32 rfl ?_
      obtain ⟨hg11, h⟩ := g_gd h
      refine g_iald C 187 (by omega) rfl (show g_ln ln 187 = cp from hcp.2.2.1) hg11 dX6_hasOwn_33 ?_
      obtain ⟨q12, eq12, h⟩ := g_bd h
      refine g_calliV C 183 [gi (q9.1 187 q1.2.toNatClampNeg)] (hrec eq12) qs_X6_129 (by omega) (by omega) rfl rfl rfl rfl (Nat.le_of_ble_eq_true rfl) ⟨Nat.zero_le _, Nat.zero_le _⟩ dX6_hasOwn_34 ?_
      refine g_if_eq C dX6_hasOwn_37 (tgt := 44) (by decide) (fun c13 => ?_) (fun c13 => ?_)
      · have h := g_tt c13 h
        refine g_iconst (v := 0) C dX6_hasOwn_44 (by decide) ?_
        refine g_goto C dX6_hasOwn_45 (tgt := 72) (by decide) ?_
        refine g_sub [] rfl ?_
        exact wX6_hasOwn_b72 hN hcp hrec C hr h
      · have h := g_ff c13 h
        refine g_sub [] rfl ?_
        exact wX6_hasOwn_b40 hN hcp hrec C hr h

set_option maxHeartbeats 2000000 in
set_option maxRecDepth 20000 in
theorem kX6_hasOwn_body {l : Launch} {D : va_G} {g : gT} {N : Nat} {ad ln : Nat → Nat} (hN : 193 ≤ N) {cp : Nat} (hcp : g_cap ln cp) {rec : gM → Int32 → Option (gM × Int32)} {fu : Nat} (hrec : ∀ {A A' : gM} {x1 : Int32} {r : Int32}, rec A x1 = some (A', r) → gKi l yX6_hasOwn cX6_hasOwn 3 (some .boolean) (3 + 1 * fu) D g N ad ln A [gr 183, gi x1] A' r) {A A' : gM} {x1 : Int32} {r : Int32} (h : mX6_hasOwn_body cp rec A x1 = some (A', r)) : gKi l yX6_hasOwn cX6_hasOwn 3 (some .boolean) ((3 + 1 * fu + 1)) D g N ad ln A [gr 183, gi x1] A' r := by
  refine g_meti (by decide) (Nat.le_of_ble_eq_true rfl) ?_
  intro p e s m args below meth c C hr
  refine g_sub [0, 1] rfl ?_
  exact wX6_hasOwn_b0 hN hcp hrec C hr h
set_option maxHeartbeats 2000000 in
set_option maxRecDepth 20000 in
theorem kX6_hasOwn {l : Launch} {D : va_G} {g : gT} {N : Nat} {ad ln : Nat → Nat} (hN : 193 ≤ N) {cp : Nat} (hcp : g_cap ln cp) : ∀ (f : Nat) {A A' : gM} {x1 : Int32} {r : Int32}, mX6_hasOwn cp f A x1 = some (A', r) → gKi l yX6_hasOwn cX6_hasOwn 3 (some .boolean) (3 + 1 * f) D g N ad ln A [gr 183, gi x1] A' r
  | 0, A, A', x1, r, h => by cases h
  | f + 1, A, A', x1, r, h => kX6_hasOwn_body hN hcp (fun h => kX6_hasOwn hN hcp f h) h
def mX6_join_b107 (cp : Nat) (rec : gM → Int32 → Int32 → Int32 → Option (gM × Int32)) (fu : Nat) (A : gM) (s0 : Int32) : Option (gM × Int32) :=
  if (s0 : Int32) = 0 ∨ (s0 : Int32) = 1 then some (A, s0) else none
def mX6_join_b79 (cp : Nat) (rec : gM → Int32 → Int32 → Int32 → Option (gM × Int32)) (fu : Nat) (A : gM) (x3 : Int32) (x6 : Int32) (s0 : Int32) : Option (gM × Int32) :=
  (mX6_has cp fu A s0 x6).bind fun q1 =>
  if q1.2 = 0 then
  if g_in x6 cp = true then g_let (g_up q1.1 186 x6.toNatClampNeg s0) fun A4 =>
  if (1 : Int32) = 0 ∨ (1 : Int32) = 1 then some (A4, 1) else none
  else none
  else
  (mX6_failed cp q1.1 3 x3).bind fun q6 =>
  if q6.2 = (-1) then
  mX6_join_b107 cp rec fu q6.1 0
  else
  mX6_join_b107 cp rec fu q6.1 1
def mX6_join_b63 (cp : Nat) (rec : gM → Int32 → Int32 → Int32 → Option (gM × Int32)) (fu : Nat) (A : gM) (x3 : Int32) (x4 : Int32) (x5 : Int32) (s0 : Int32) : Option (gM × Int32) :=
  if s0 = x4 then
  mX6_join_b79 cp rec fu A x3 s0 x5
  else
  mX6_join_b79 cp rec fu A x3 s0 x4
def mX6_join_b45 (cp : Nat) (rec : gM → Int32 → Int32 → Int32 → Option (gM × Int32)) (fu : Nat) (A : gM) (x3 : Int32) (x4 : Int32) (x5 : Int32) : Option (gM × Int32) :=
  if g_in x4 cp = true then
  if (A 185 x4.toNatClampNeg) = 4 then
  mX6_join_b63 cp rec fu A x3 x4 x5 x4
  else
  mX6_join_b63 cp rec fu A x3 x4 x5 x5
  else none
def mX6_join_b210 (cp : Nat) (rec : gM → Int32 → Int32 → Int32 → Option (gM × Int32)) (fu : Nat) (A : gM) (s0 : Int32) : Option (gM × Int32) :=
  if (s0 : Int32) = 0 ∨ (s0 : Int32) = 1 then some (A, s0) else none
def mX6_join_b205 (cp : Nat) (rec : gM → Int32 → Int32 → Int32 → Option (gM × Int32)) (fu : Nat) (A : gM) : Option (gM × Int32) :=
  mX6_join_b210 cp rec fu A 1
def mX6_join_b209 (cp : Nat) (rec : gM → Int32 → Int32 → Int32 → Option (gM × Int32)) (fu : Nat) (A : gM) : Option (gM × Int32) :=
  mX6_join_b210 cp rec fu A 0
def mX6_join_b151 (cp : Nat) (rec : gM → Int32 → Int32 → Int32 → Option (gM × Int32)) (fu : Nat) (A : gM) (s0 : Int32) : Option (gM × Int32) :=
  if (s0 : Int32) = 0 ∨ (s0 : Int32) = 1 then some (A, s0) else none
def mX6_join_b0 (cp : Nat) (rec : gM → Int32 → Int32 → Int32 → Option (gM × Int32)) (fu : Nat) (A : gM) (x1 : Int32) (x2 : Int32) (x3 : Int32) : Option (gM × Int32) :=
  (mX6_now cp A x1).bind fun q1 =>
  (mX6_now cp q1.1 x2).bind fun q2 =>
  if q1.2 = q2.2 then
  if (1 : Int32) = 0 ∨ (1 : Int32) = 1 then some (q2.1, 1) else none
  else
  if g_in q1.2 cp = true then
  if (q2.1 185 q1.2.toNatClampNeg) = 4 then
  mX6_join_b45 cp rec fu q2.1 x3 q1.2 q2.2
  else
  if g_in q2.2 cp = true then
  if (q2.1 185 q2.2.toNatClampNeg) = 4 then
  mX6_join_b45 cp rec fu q2.1 x3 q1.2 q2.2
  else
  if g_in q1.2 cp = true then
  if g_in q2.2 cp = true then
  if (q2.1 185 q1.2.toNatClampNeg) = (q2.1 185 q2.2.toNatClampNeg) then
  (mX6_isPair cp q2.1 q1.2).bind fun q11 =>
  if q11.2 = 0 then
  mX6_join_b205 cp rec fu q11.1
  else
  if g_in q1.2 cp = true then
  if g_in q2.2 cp = true then
  (rec q11.1 (q11.1 186 q1.2.toNatClampNeg) (q11.1 186 q2.2.toNatClampNeg) x3).bind fun q15 =>
  if q15.2 = 0 then
  mX6_join_b209 cp rec fu q15.1
  else
  if g_in q1.2 cp = true then
  if g_in q2.2 cp = true then
  (rec q15.1 (q15.1 187 q1.2.toNatClampNeg) (q15.1 187 q2.2.toNatClampNeg) x3).bind fun q19 =>
  if q19.2 = 0 then
  mX6_join_b209 cp rec fu q19.1
  else
  mX6_join_b205 cp rec fu q19.1
  else none
  else none
  else none
  else none
  else
  (mX6_failed cp q2.1 2 x3).bind fun q21 =>
  if q21.2 = (-1) then
  mX6_join_b151 cp rec fu q21.1 0
  else
  mX6_join_b151 cp rec fu q21.1 1
  else none
  else none
  else none
  else none
def mX6_join_body (cp : Nat) (rec : gM → Int32 → Int32 → Int32 → Option (gM × Int32)) (fu : Nat) (A : gM) (x1 : Int32) (x2 : Int32) (x3 : Int32) : Option (gM × Int32) := mX6_join_b0 cp rec fu A x1 x2 x3
def mX6_join (cp : Nat) : Nat → gM → Int32 → Int32 → Int32 → Option (gM × Int32)
  | 0 => fun _ _ _ _ => none
  | f + 1 => mX6_join_body cp (mX6_join cp f) f
set_option maxHeartbeats 2000000 in
set_option maxRecDepth 20000 in
theorem wX6_join_b107 (hN : 193 ≤ N) {cp : Nat} (hcp : g_cap ln cp) {rec : gM → Int32 → Int32 → Int32 → Option (gM × Int32)} {fu : Nat} (hrec : ∀ {A A' : gM} {x1 : Int32} {x2 : Int32} {x3 : Int32} {r : Int32}, rec A x1 x2 x3 = some (A', r) → gKi l yX6_join cX6_join 8 (some .boolean) (5 + 1 * fu) D g N ad ln A [gr 183, gi x1, gi x2, gi x3] A' r) {A0 A' : gM} {r : Int32} (C : gC p R s m args meth c cX6_join RX6 8 D g (va_A (gw g ad ln A0 N) s.heap.size) (5 + 1 * fu + 1)) (hr : meth.sig.returnType = some .boolean)  {A : gM} {s0 : Int32} (h : mX6_join_b107 cp rec fu A s0 = some (A', r)) : gJ p l e R s m args below meth c (gEi below D g N ad ln A0 A' r args s) 8 D g (va_A (gw g ad ln A0 N) s.heap.size) N ad ln A [] 0 0 107 [gi s0] := by
  unfold mX6_join_b107 at h
  obtain ⟨hz1, h⟩ := g_gd h
  obtain ⟨rfl, rfl⟩ := Prod.mk.inj (Option.some.inj h)
  exact g_retz C hr hz1 dX6_join_107

set_option maxHeartbeats 2000000 in
set_option maxRecDepth 20000 in
theorem wX6_join_b79 (hN : 193 ≤ N) {cp : Nat} (hcp : g_cap ln cp) {rec : gM → Int32 → Int32 → Int32 → Option (gM × Int32)} {fu : Nat} (hrec : ∀ {A A' : gM} {x1 : Int32} {x2 : Int32} {x3 : Int32} {r : Int32}, rec A x1 x2 x3 = some (A', r) → gKi l yX6_join cX6_join 8 (some .boolean) (5 + 1 * fu) D g N ad ln A [gr 183, gi x1, gi x2, gi x3] A' r) {A0 A' : gM} {r : Int32} (C : gC p R s m args meth c cX6_join RX6 8 D g (va_A (gw g ad ln A0 N) s.heap.size) (5 + 1 * fu + 1)) (hr : meth.sig.returnType = some .boolean)  {A : gM} {x3 : Int32} {x6 : Int32} {s0 : Int32} (h : mX6_join_b79 cp rec fu A x3 x6 s0 = some (A', r)) : gJ p l e R s m args below meth c (gEi below D g N ad ln A0 A' r args s) 8 D g (va_A (gw g ad ln A0 N) s.heap.size) N ad ln A [(0, gr 183), (3, gi x3), (6, gi x6)] 0 0 79 [gi s0] := by
  unfold mX6_join_b79 at h
  refine g_istore C dX6_join_79 (by decide) rfl ?_
  refine g_aload_n C 1 dX6_join_81 rfl ?_
  refine g_iload C 0 dX6_join_82 rfl ?_
  refine g_iload C 3 dX6_join_84 rfl ?_
  obtain ⟨q1, eq1, h⟩ := g_bd h
  refine g_calliV C 183 [gi s0, gi x6] (kX6_has hN hcp fu eq1) qs_X6_95 (by omega) (by omega) rfl rfl rfl rfl (Nat.le_of_ble_eq_true rfl) ⟨Nat.zero_le _, Nat.zero_le _⟩ dX6_join_86 ?_
  refine g_if_eq C dX6_join_89 (tgt := 108) (by decide) (fun c2 => ?_) (fun c2 => ?_)
  · have h := g_tt c2 h
    refine g_aload_n C 1 dX6_join_108 rfl ?_
    refine g_get (v := gr 186) C 183 5 (by omega) rfl rfl gu_6 (by decide) qf_X6_16 rfl dX6_join_109 ?_
    refine g_iload C 3 dX6_join_112 rfl ?_
    refine g_iload C 0 dX6_join_114 rfl ?_
    obtain ⟨hg3, h⟩ := g_gd h
    obtain ⟨A4, eA4, h⟩ := g_lt h
    refine g_iast C 186 (by omega) rfl (show g_ln ln 186 = cp from hcp.2.1) hg3 eA4 dX6_join_116 ?_
    refine g_iconst (v := 1) C dX6_join_117 (by decide) ?_
    obtain ⟨hz5, h⟩ := g_gd h
    obtain ⟨rfl, rfl⟩ := Prod.mk.inj (Option.some.inj h)
    exact g_retz C hr hz5 dX6_join_118
  · have h := g_ff c2 h
    refine g_aload_n C 1 dX6_join_92 rfl ?_
    refine g_iconst (v := 3) C dX6_join_93 (by decide) ?_
    refine g_iload_n C 2 dX6_join_94 rfl ?_
    obtain ⟨q6, eq6, h⟩ := g_bd h
    refine g_calliV C 183 [gi 3, gi x3] (kX6_failed hN hcp eq6) qs_X6_105 (by omega) (by omega) rfl rfl rfl rfl (Nat.le_of_ble_eq_true rfl) ⟨Nat.zero_le _, Nat.zero_le _⟩ dX6_join_95 ?_
    refine g_iconst (v := (-1)) C dX6_join_98 (by decide) ?_
    refine g_icmp_eq C dX6_join_99 (tgt := 106) (by decide) (fun c7 => ?_) (fun c7 => ?_)
    · have h := g_tt c7 h
      refine g_iconst (v := 0) C dX6_join_106 (by decide) ?_
      refine g_sub [] rfl ?_
      exact wX6_join_b107 hN hcp hrec C hr h
    · have h := g_ff c7 h
      refine g_iconst (v := 1) C dX6_join_102 (by decide) ?_
      refine g_goto C dX6_join_103 (tgt := 107) (by decide) ?_
      refine g_sub [] rfl ?_
      exact wX6_join_b107 hN hcp hrec C hr h

set_option maxHeartbeats 2000000 in
set_option maxRecDepth 20000 in
theorem wX6_join_b63 (hN : 193 ≤ N) {cp : Nat} (hcp : g_cap ln cp) {rec : gM → Int32 → Int32 → Int32 → Option (gM × Int32)} {fu : Nat} (hrec : ∀ {A A' : gM} {x1 : Int32} {x2 : Int32} {x3 : Int32} {r : Int32}, rec A x1 x2 x3 = some (A', r) → gKi l yX6_join cX6_join 8 (some .boolean) (5 + 1 * fu) D g N ad ln A [gr 183, gi x1, gi x2, gi x3] A' r) {A0 A' : gM} {r : Int32} (C : gC p R s m args meth c cX6_join RX6 8 D g (va_A (gw g ad ln A0 N) s.heap.size) (5 + 1 * fu + 1)) (hr : meth.sig.returnType = some .boolean)  {A : gM} {x3 : Int32} {x4 : Int32} {x5 : Int32} {s0 : Int32} (h : mX6_join_b63 cp rec fu A x3 x4 x5 s0 = some (A', r)) : gJ p l e R s m args below meth c (gEi below D g N ad ln A0 A' r args s) 8 D g (va_A (gw g ad ln A0 N) s.heap.size) N ad ln A [(0, gr 183), (3, gi x3), (4, gi x4), (5, gi x5)] 0 0 63 [gi s0] := by
  unfold mX6_join_b63 at h
  refine g_istore C dX6_join_63 (by decide) rfl ?_
  refine g_iload C 0 dX6_join_65 rfl ?_
  refine g_iload C 3 dX6_join_67 rfl ?_
  refine g_icmp_ne C dX6_join_69 (tgt := 77) (by decide) (fun c1 => ?_) (fun c1 => ?_)
  · have h := g_ff c1 h
    refine g_iload C 3 dX6_join_77 rfl ?_
    refine g_sub [1, 2, 0] rfl ?_
    exact wX6_join_b79 hN hcp hrec C hr h
  · have h := g_tt c1 h
    refine g_iload C 4 dX6_join_72 rfl ?_
    refine g_goto C dX6_join_74 (tgt := 79) (by decide) ?_
    refine g_sub [1, 2, 0] rfl ?_
    exact wX6_join_b79 hN hcp hrec C hr h

set_option maxHeartbeats 2000000 in
set_option maxRecDepth 20000 in
theorem wX6_join_b45 (hN : 193 ≤ N) {cp : Nat} (hcp : g_cap ln cp) {rec : gM → Int32 → Int32 → Int32 → Option (gM × Int32)} {fu : Nat} (hrec : ∀ {A A' : gM} {x1 : Int32} {x2 : Int32} {x3 : Int32} {r : Int32}, rec A x1 x2 x3 = some (A', r) → gKi l yX6_join cX6_join 8 (some .boolean) (5 + 1 * fu) D g N ad ln A [gr 183, gi x1, gi x2, gi x3] A' r) {A0 A' : gM} {r : Int32} (C : gC p R s m args meth c cX6_join RX6 8 D g (va_A (gw g ad ln A0 N) s.heap.size) (5 + 1 * fu + 1)) (hr : meth.sig.returnType = some .boolean)  {A : gM} {x3 : Int32} {x4 : Int32} {x5 : Int32} (h : mX6_join_b45 cp rec fu A x3 x4 x5 = some (A', r)) : gJ p l e R s m args below meth c (gEi below D g N ad ln A0 A' r args s) 8 D g (va_A (gw g ad ln A0 N) s.heap.size) N ad ln A [(0, gr 183), (3, gi x3), (4, gi x4), (5, gi x5)] 0 0 45 [] := by
  unfold mX6_join_b45 at h
  refine g_aload_n C 0 dX6_join_45 rfl ?_
  refine g_get (v := gr 185) C 183 4 (by omega) rfl rfl gu_6 (by decide) qf_X6_13 rfl dX6_join_46 ?_
  refine g_iload C 2 dX6_join_49 rfl ?_
  obtain ⟨hg1, h⟩ := g_gd h
  refine g_iald C 185 (by omega) rfl (show g_ln ln 185 = cp from hcp.1) hg1 dX6_join_51 ?_
  refine g_iconst (v := 4) C dX6_join_52 (by decide) ?_
  refine g_icmp_ne C dX6_join_53 (tgt := 61) (by decide) (fun c2 => ?_) (fun c2 => ?_)
  · have h := g_ff c2 h
    refine g_iload C 3 dX6_join_61 rfl ?_
    refine g_sub [0, 1, 2, 3] rfl ?_
    exact wX6_join_b63 hN hcp hrec C hr h
  · have h := g_tt c2 h
    refine g_iload C 2 dX6_join_56 rfl ?_
    refine g_goto C dX6_join_58 (tgt := 63) (by decide) ?_
    refine g_sub [0, 1, 2, 3] rfl ?_
    exact wX6_join_b63 hN hcp hrec C hr h

set_option maxHeartbeats 2000000 in
set_option maxRecDepth 20000 in
theorem wX6_join_b210 (hN : 193 ≤ N) {cp : Nat} (hcp : g_cap ln cp) {rec : gM → Int32 → Int32 → Int32 → Option (gM × Int32)} {fu : Nat} (hrec : ∀ {A A' : gM} {x1 : Int32} {x2 : Int32} {x3 : Int32} {r : Int32}, rec A x1 x2 x3 = some (A', r) → gKi l yX6_join cX6_join 8 (some .boolean) (5 + 1 * fu) D g N ad ln A [gr 183, gi x1, gi x2, gi x3] A' r) {A0 A' : gM} {r : Int32} (C : gC p R s m args meth c cX6_join RX6 8 D g (va_A (gw g ad ln A0 N) s.heap.size) (5 + 1 * fu + 1)) (hr : meth.sig.returnType = some .boolean)  {A : gM} {s0 : Int32} (h : mX6_join_b210 cp rec fu A s0 = some (A', r)) : gJ p l e R s m args below meth c (gEi below D g N ad ln A0 A' r args s) 8 D g (va_A (gw g ad ln A0 N) s.heap.size) N ad ln A [] 0 0 210 [gi s0] := by
  unfold mX6_join_b210 at h
  obtain ⟨hz1, h⟩ := g_gd h
  obtain ⟨rfl, rfl⟩ := Prod.mk.inj (Option.some.inj h)
  exact g_retz C hr hz1 dX6_join_210

set_option maxHeartbeats 2000000 in
set_option maxRecDepth 20000 in
theorem wX6_join_b205 (hN : 193 ≤ N) {cp : Nat} (hcp : g_cap ln cp) {rec : gM → Int32 → Int32 → Int32 → Option (gM × Int32)} {fu : Nat} (hrec : ∀ {A A' : gM} {x1 : Int32} {x2 : Int32} {x3 : Int32} {r : Int32}, rec A x1 x2 x3 = some (A', r) → gKi l yX6_join cX6_join 8 (some .boolean) (5 + 1 * fu) D g N ad ln A [gr 183, gi x1, gi x2, gi x3] A' r) {A0 A' : gM} {r : Int32} (C : gC p R s m args meth c cX6_join RX6 8 D g (va_A (gw g ad ln A0 N) s.heap.size) (5 + 1 * fu + 1)) (hr : meth.sig.returnType = some .boolean)  {A : gM} (h : mX6_join_b205 cp rec fu A = some (A', r)) : gJ p l e R s m args below meth c (gEi below D g N ad ln A0 A' r args s) 8 D g (va_A (gw g ad ln A0 N) s.heap.size) N ad ln A [] 0 0 205 [] := by
  unfold mX6_join_b205 at h
  refine g_iconst (v := 1) C dX6_join_205 (by decide) ?_
  refine g_goto C dX6_join_206 (tgt := 210) (by decide) ?_
  refine g_sub [] rfl ?_
  exact wX6_join_b210 hN hcp hrec C hr h

set_option maxHeartbeats 2000000 in
set_option maxRecDepth 20000 in
theorem wX6_join_b209 (hN : 193 ≤ N) {cp : Nat} (hcp : g_cap ln cp) {rec : gM → Int32 → Int32 → Int32 → Option (gM × Int32)} {fu : Nat} (hrec : ∀ {A A' : gM} {x1 : Int32} {x2 : Int32} {x3 : Int32} {r : Int32}, rec A x1 x2 x3 = some (A', r) → gKi l yX6_join cX6_join 8 (some .boolean) (5 + 1 * fu) D g N ad ln A [gr 183, gi x1, gi x2, gi x3] A' r) {A0 A' : gM} {r : Int32} (C : gC p R s m args meth c cX6_join RX6 8 D g (va_A (gw g ad ln A0 N) s.heap.size) (5 + 1 * fu + 1)) (hr : meth.sig.returnType = some .boolean)  {A : gM} (h : mX6_join_b209 cp rec fu A = some (A', r)) : gJ p l e R s m args below meth c (gEi below D g N ad ln A0 A' r args s) 8 D g (va_A (gw g ad ln A0 N) s.heap.size) N ad ln A [] 0 0 209 [] := by
  unfold mX6_join_b209 at h
  refine g_iconst (v := 0) C dX6_join_209 (by decide) ?_
  refine g_sub [] rfl ?_
  exact wX6_join_b210 hN hcp hrec C hr h

set_option maxHeartbeats 2000000 in
set_option maxRecDepth 20000 in
theorem wX6_join_b151 (hN : 193 ≤ N) {cp : Nat} (hcp : g_cap ln cp) {rec : gM → Int32 → Int32 → Int32 → Option (gM × Int32)} {fu : Nat} (hrec : ∀ {A A' : gM} {x1 : Int32} {x2 : Int32} {x3 : Int32} {r : Int32}, rec A x1 x2 x3 = some (A', r) → gKi l yX6_join cX6_join 8 (some .boolean) (5 + 1 * fu) D g N ad ln A [gr 183, gi x1, gi x2, gi x3] A' r) {A0 A' : gM} {r : Int32} (C : gC p R s m args meth c cX6_join RX6 8 D g (va_A (gw g ad ln A0 N) s.heap.size) (5 + 1 * fu + 1)) (hr : meth.sig.returnType = some .boolean)  {A : gM} {s0 : Int32} (h : mX6_join_b151 cp rec fu A s0 = some (A', r)) : gJ p l e R s m args below meth c (gEi below D g N ad ln A0 A' r args s) 8 D g (va_A (gw g ad ln A0 N) s.heap.size) N ad ln A [] 0 0 151 [gi s0] := by
  unfold mX6_join_b151 at h
  obtain ⟨hz1, h⟩ := g_gd h
  obtain ⟨rfl, rfl⟩ := Prod.mk.inj (Option.some.inj h)
  exact g_retz C hr hz1 dX6_join_151

set_option maxHeartbeats 2000000 in
set_option maxRecDepth 20000 in
theorem wX6_join_b0 (hN : 193 ≤ N) {cp : Nat} (hcp : g_cap ln cp) {rec : gM → Int32 → Int32 → Int32 → Option (gM × Int32)} {fu : Nat} (hrec : ∀ {A A' : gM} {x1 : Int32} {x2 : Int32} {x3 : Int32} {r : Int32}, rec A x1 x2 x3 = some (A', r) → gKi l yX6_join cX6_join 8 (some .boolean) (5 + 1 * fu) D g N ad ln A [gr 183, gi x1, gi x2, gi x3] A' r) {A0 A' : gM} {r : Int32} (C : gC p R s m args meth c cX6_join RX6 8 D g (va_A (gw g ad ln A0 N) s.heap.size) (5 + 1 * fu + 1)) (hr : meth.sig.returnType = some .boolean)  {A : gM} {x1 : Int32} {x2 : Int32} {x3 : Int32} (h : mX6_join_b0 cp rec fu A x1 x2 x3 = some (A', r)) : gJ p l e R s m args below meth c (gEi below D g N ad ln A0 A' r args s) 8 D g (va_A (gw g ad ln A0 N) s.heap.size) N ad ln A [(0, gr 183), (1, gi x1), (2, gi x2), (3, gi x3)] 0 0 0 [] := by
  unfold mX6_join_b0 at h
  refine g_aload_n C 0 dX6_join_0 rfl ?_
  refine g_iload_n C 1 dX6_join_1 rfl ?_
  obtain ⟨q1, eq1, h⟩ := g_bd h
  refine g_calliV C 183 [gi x1] (kX6_now hN hcp eq1) qs_X6_89 (by omega) (by omega) rfl rfl rfl rfl (Nat.le_of_ble_eq_true rfl) ⟨Nat.zero_le _, Nat.zero_le _⟩ dX6_join_2 ?_
  refine g_istore C dX6_join_5 (by decide) rfl ?_
  refine g_aload_n C 1 dX6_join_7 rfl ?_
  refine g_iload_n C 3 dX6_join_8 rfl ?_
  obtain ⟨q2, eq2, h⟩ := g_bd h
  refine g_calliV C 183 [gi x2] (kX6_now hN hcp eq2) qs_X6_89 (by omega) (by omega) rfl rfl rfl rfl (Nat.le_of_ble_eq_true rfl) ⟨Nat.zero_le _, Nat.zero_le _⟩ dX6_join_9 ?_
  refine g_istore C dX6_join_12 (by decide) rfl ?_
  refine g_iload C 1 dX6_join_14 rfl ?_
  refine g_iload C 0 dX6_join_16 rfl ?_
  refine g_icmp_ne C dX6_join_18 (tgt := 23) (by decide) (fun c3 => ?_) (fun c3 => ?_)
  · have h := g_ff c3 h
    refine g_aload_n C 2 dX6_join_23 rfl ?_
    refine g_get (v := gr 185) C 183 4 (by omega) rfl rfl gu_6 (by decide) qf_X6_13 rfl dX6_join_24 ?_
    refine g_iload C 1 dX6_join_27 rfl ?_
    obtain ⟨hg4, h⟩ := g_gd h
    refine g_iald C 185 (by omega) rfl (show g_ln ln 185 = cp from hcp.1) hg4 dX6_join_29 ?_
    refine g_iconst (v := 4) C dX6_join_30 (by decide) ?_
    refine g_icmp_eq C dX6_join_31 (tgt := 45) (by decide) (fun c5 => ?_) (fun c5 => ?_)
    · have h := g_tt c5 h
      refine g_sub [2, 5, 1, 0] rfl ?_
      exact wX6_join_b45 hN hcp hrec C hr h
    · have h := g_ff c5 h
      refine g_aload_n C 2 dX6_join_34 rfl ?_
      refine g_get (v := gr 185) C 183 4 (by omega) rfl rfl gu_6 (by decide) qf_X6_13 rfl dX6_join_35 ?_
      refine g_iload C 0 dX6_join_38 rfl ?_
      obtain ⟨hg6, h⟩ := g_gd h
      refine g_iald C 185 (by omega) rfl (show g_ln ln 185 = cp from hcp.1) hg6 dX6_join_40 ?_
      refine g_iconst (v := 4) C dX6_join_41 (by decide) ?_
      refine g_icmp_ne C dX6_join_42 (tgt := 119) (by decide) (fun c7 => ?_) (fun c7 => ?_)
      · have h := g_ff c7 h
        refine g_aload_n C 2 dX6_join_119 rfl ?_
        refine g_get (v := gr 185) C 183 4 (by omega) rfl rfl gu_6 (by decide) qf_X6_13 rfl dX6_join_120 ?_
        refine g_iload C 1 dX6_join_123 rfl ?_
        obtain ⟨hg8, h⟩ := g_gd h
        refine g_iald C 185 (by omega) rfl (show g_ln ln 185 = cp from hcp.1) hg8 dX6_join_125 ?_
        refine g_aload_n C 2 dX6_join_126 rfl ?_
        refine g_get (v := gr 185) C 183 4 (by omega) rfl rfl gu_6 (by decide) qf_X6_13 rfl dX6_join_127 ?_
        refine g_iload C 0 dX6_join_130 rfl ?_
        obtain ⟨hg9, h⟩ := g_gd h
        refine g_iald C 185 (by omega) rfl (show g_ln ln 185 = cp from hcp.1) hg9 dX6_join_132 ?_
        refine g_icmp_eq C dX6_join_133 (tgt := 152) (by decide) (fun c10 => ?_) (fun c10 => ?_)
        · have h := g_tt c10 h
          refine g_aload_n C 2 dX6_join_152 rfl ?_
          refine g_iload C 1 dX6_join_153 rfl ?_
          obtain ⟨q11, eq11, h⟩ := g_bd h
          refine g_calliV C 183 [gi q1.2] (kX6_isPair hN hcp eq11) qs_X6_92 (by omega) (by omega) rfl rfl rfl rfl (Nat.le_of_ble_eq_true rfl) ⟨Nat.zero_le _, Nat.zero_le _⟩ dX6_join_155 ?_
          refine g_if_eq C dX6_join_158 (tgt := 205) (by decide) (fun c12 => ?_) (fun c12 => ?_)
          · have h := g_tt c12 h
            refine g_sub [] rfl ?_
            exact wX6_join_b205 hN hcp hrec C hr h
          · have h := g_ff c12 h
            refine g_aload_n C 2 dX6_join_161 rfl ?_
            refine g_aload_n C 2 dX6_join_162 rfl ?_
            refine g_get (v := gr 186) C 183 5 (by omega) rfl rfl gu_6 (by decide) qf_X6_16 rfl dX6_join_163 ?_
            refine g_iload C 1 dX6_join_166 rfl ?_
            obtain ⟨hg13, h⟩ := g_gd h
            refine g_iald C 186 (by omega) rfl (show g_ln ln 186 = cp from hcp.2.1) hg13 dX6_join_168 ?_
            refine g_aload_n C 2 dX6_join_169 rfl ?_
            refine g_get (v := gr 186) C 183 5 (by omega) rfl rfl gu_6 (by decide) qf_X6_16 rfl dX6_join_170 ?_
            refine g_iload C 0 dX6_join_173 rfl ?_
            obtain ⟨hg14, h⟩ := g_gd h
            refine g_iald C 186 (by omega) rfl (show g_ln ln 186 = cp from hcp.2.1) hg14 dX6_join_175 ?_
            refine g_iload_n C 5 dX6_join_176 rfl ?_
            obtain ⟨q15, eq15, h⟩ := g_bd h
            refine g_calliV C 183 [gi (q11.1 186 q1.2.toNatClampNeg), gi (q11.1 186 q2.2.toNatClampNeg), gi x3] (hrec eq15) qs_X6_108 (by omega) (by omega) rfl rfl rfl rfl (Nat.le_of_ble_eq_true rfl) ⟨Nat.zero_le _, Nat.zero_le _⟩ dX6_join_177 ?_
            refine g_if_eq C dX6_join_180 (tgt := 209) (by decide) (fun c16 => ?_) (fun c16 => ?_)
            · have h := g_tt c16 h
              refine g_sub [] rfl ?_
              exact wX6_join_b209 hN hcp hrec C hr h
            · have h := g_ff c16 h
              refine g_aload_n C 2 dX6_join_183 rfl ?_
              refine g_aload_n C 2 dX6_join_184 rfl ?_
              refine g_get (v := gr 187) C 183 6 (by omega) rfl rfl gu_6 (by decide) qf_X6_19 rfl dX6_join_185 ?_
              refine g_iload C 1 dX6_join_188 rfl ?_
              obtain ⟨hg17, h⟩ := g_gd h
              refine g_iald C 187 (by omega) rfl (show g_ln ln 187 = cp from hcp.2.2.1) hg17 dX6_join_190 ?_
              refine g_aload_n C 2 dX6_join_191 rfl ?_
              refine g_get (v := gr 187) C 183 6 (by omega) rfl rfl gu_6 (by decide) qf_X6_19 rfl dX6_join_192 ?_
              refine g_iload C 0 dX6_join_195 rfl ?_
              obtain ⟨hg18, h⟩ := g_gd h
              refine g_iald C 187 (by omega) rfl (show g_ln ln 187 = cp from hcp.2.2.1) hg18 dX6_join_197 ?_
              refine g_iload_n C 5 dX6_join_198 rfl ?_
              obtain ⟨q19, eq19, h⟩ := g_bd h
              refine g_calliV C 183 [gi (q15.1 187 q1.2.toNatClampNeg), gi (q15.1 187 q2.2.toNatClampNeg), gi x3] (hrec eq19) qs_X6_108 (by omega) (by omega) rfl rfl rfl rfl (Nat.le_of_ble_eq_true rfl) ⟨Nat.zero_le _, Nat.zero_le _⟩ dX6_join_199 ?_
              refine g_if_eq C dX6_join_202 (tgt := 209) (by decide) (fun c20 => ?_) (fun c20 => ?_)
              · have h := g_tt c20 h
                refine g_sub [] rfl ?_
                exact wX6_join_b209 hN hcp hrec C hr h
              · have h := g_ff c20 h
                refine g_sub [] rfl ?_
                exact wX6_join_b205 hN hcp hrec C hr h
        · have h := g_ff c10 h
          refine g_aload_n C 2 dX6_join_136 rfl ?_
          refine g_iconst (v := 2) C dX6_join_137 (by decide) ?_
          refine g_iload_n C 5 dX6_join_138 rfl ?_
          obtain ⟨q21, eq21, h⟩ := g_bd h
          refine g_calliV C 183 [gi 2, gi x3] (kX6_failed hN hcp eq21) qs_X6_105 (by omega) (by omega) rfl rfl rfl rfl (Nat.le_of_ble_eq_true rfl) ⟨Nat.zero_le _, Nat.zero_le _⟩ dX6_join_139 ?_
          refine g_iconst (v := (-1)) C dX6_join_142 (by decide) ?_
          refine g_icmp_eq C dX6_join_143 (tgt := 150) (by decide) (fun c22 => ?_) (fun c22 => ?_)
          · have h := g_tt c22 h
            refine g_iconst (v := 0) C dX6_join_150 (by decide) ?_
            refine g_sub [] rfl ?_
            exact wX6_join_b151 hN hcp hrec C hr h
          · have h := g_ff c22 h
            refine g_iconst (v := 1) C dX6_join_146 (by decide) ?_
            refine g_goto C dX6_join_147 (tgt := 151) (by decide) ?_
            refine g_sub [] rfl ?_
            exact wX6_join_b151 hN hcp hrec C hr h
      · have h := g_tt c7 h
        refine g_sub [2, 5, 1, 0] rfl ?_
        exact wX6_join_b45 hN hcp hrec C hr h
  · have h := g_tt c3 h
    refine g_iconst (v := 1) C dX6_join_21 (by decide) ?_
    obtain ⟨hz23, h⟩ := g_gd h
    obtain ⟨rfl, rfl⟩ := Prod.mk.inj (Option.some.inj h)
    exact g_retz C hr hz23 dX6_join_22

set_option maxHeartbeats 2000000 in
set_option maxRecDepth 20000 in
theorem kX6_join_body {l : Launch} {D : va_G} {g : gT} {N : Nat} {ad ln : Nat → Nat} (hN : 193 ≤ N) {cp : Nat} (hcp : g_cap ln cp) {rec : gM → Int32 → Int32 → Int32 → Option (gM × Int32)} {fu : Nat} (hrec : ∀ {A A' : gM} {x1 : Int32} {x2 : Int32} {x3 : Int32} {r : Int32}, rec A x1 x2 x3 = some (A', r) → gKi l yX6_join cX6_join 8 (some .boolean) (5 + 1 * fu) D g N ad ln A [gr 183, gi x1, gi x2, gi x3] A' r) {A A' : gM} {x1 : Int32} {x2 : Int32} {x3 : Int32} {r : Int32} (h : mX6_join_body cp rec fu A x1 x2 x3 = some (A', r)) : gKi l yX6_join cX6_join 8 (some .boolean) ((5 + 1 * fu + 1)) D g N ad ln A [gr 183, gi x1, gi x2, gi x3] A' r := by
  refine g_meti (by decide) (Nat.le_of_ble_eq_true rfl) ?_
  intro p e s m args below meth c C hr
  refine g_sub [0, 1, 2, 3] rfl ?_
  exact wX6_join_b0 hN hcp hrec C hr h
set_option maxHeartbeats 2000000 in
set_option maxRecDepth 20000 in
theorem kX6_join {l : Launch} {D : va_G} {g : gT} {N : Nat} {ad ln : Nat → Nat} (hN : 193 ≤ N) {cp : Nat} (hcp : g_cap ln cp) : ∀ (f : Nat) {A A' : gM} {x1 : Int32} {x2 : Int32} {x3 : Int32} {r : Int32}, mX6_join cp f A x1 x2 x3 = some (A', r) → gKi l yX6_join cX6_join 8 (some .boolean) (5 + 1 * f) D g N ad ln A [gr 183, gi x1, gi x2, gi x3] A' r
  | 0, A, A', x1, x2, x3, r, h => by cases h
  | f + 1, A, A', x1, x2, x3, r, h => kX6_join_body hN hcp (fun h => kX6_join hN hcp f h) h
def mX6_isAround_b2 (cp : Nat) (K2 : gM → Int32 → Int32 → Option (gM × Int32)) (A : gM) (x1 : Int32) (x2 : Int32) : Option (gM × Int32) :=
  if (A 183 9) ≤ x2 then
  if (0 : Int32) = 0 ∨ (0 : Int32) = 1 then some (A, 0) else none
  else
  if g_in x2 61 = true then
  (mX6_has cp 1250 A (A 191 x2.toNatClampNeg) x1).bind fun q4 =>
  if q4.2 = 0 then
  g_let (x2 + 1) fun v6 =>
  K2 q4.1 x1 v6
  else
  if (1 : Int32) = 0 ∨ (1 : Int32) = 1 then some (q4.1, 1) else none
  else none
def mX6_isAround_L2 (cp : Nat) : Nat → gM → Int32 → Int32 → Option (gM × Int32)
  | 0 => fun _ _ _ => none
  | f + 1 => mX6_isAround_b2 cp (mX6_isAround_L2 cp f)
def mX6_isAround_b0 (cp : Nat) (A : gM) (x1 : Int32) : Option (gM × Int32) :=
  mX6_isAround_L2 cp gF A x1 0
def mX6_isAround (cp : Nat) (A : gM) (x1 : Int32) : Option (gM × Int32) := mX6_isAround_b0 cp A x1
set_option maxHeartbeats 2000000 in
set_option maxRecDepth 20000 in
theorem wX6_isAround_b2 (hN : 193 ≤ N) {cp : Nat} (hcp : g_cap ln cp) {A0 A' : gM} {r : Int32} (C : gC p R s m args meth c cX6_isAround RX6 3 D g (va_A (gw g ad ln A0 N) s.heap.size) 1254) (hr : meth.sig.returnType = some .boolean) {K2 : gM → Int32 → Int32 → Option (gM × Int32)} (hK2 : ∀ {A : gM} {x1 : Int32} {x2 : Int32}, K2 A x1 x2 = some (A', r) → gJ p l e R s m args below meth c (gEi below D g N ad ln A0 A' r args s) 3 D g (va_A (gw g ad ln A0 N) s.heap.size) N ad ln A [(0, gr 183), (1, gi x1), (2, gi x2)] 0 0 2 []) {A : gM} {x1 : Int32} {x2 : Int32} (h : mX6_isAround_b2 cp K2 A x1 x2 = some (A', r)) : gJ p l e R s m args below meth c (gEi below D g N ad ln A0 A' r args s) 3 D g (va_A (gw g ad ln A0 N) s.heap.size) N ad ln A [(0, gr 183), (1, gi x1), (2, gi x2)] 0 0 2 [] := by
  unfold mX6_isAround_b2 at h
  refine g_iload_n C 2 dX6_isAround_2 rfl ?_
  refine g_aload_n C 0 dX6_isAround_3 rfl ?_
  refine g_get (v := gi (A 183 9)) C 183 9 (by omega) rfl rfl gu_6 (by decide) qf_X6_119 rfl dX6_isAround_4 ?_
  refine g_icmp_ge C dX6_isAround_7 (tgt := 32) (by decide) (fun c1 => ?_) (fun c1 => ?_)
  · have h := g_tt c1 h
    refine g_iconst (v := 0) C dX6_isAround_32 (by decide) ?_
    obtain ⟨hz2, h⟩ := g_gd h
    obtain ⟨rfl, rfl⟩ := Prod.mk.inj (Option.some.inj h)
    exact g_retz C hr hz2 dX6_isAround_33
  · have h := g_ff c1 h
    refine g_aload_n C 0 dX6_isAround_10 rfl ?_
    refine g_aload_n C 0 dX6_isAround_11 rfl ?_
    refine g_get (v := gr 191) C 183 11 (by omega) rfl rfl gu_6 (by decide) qf_X6_32 rfl dX6_isAround_12 ?_
    refine g_iload_n C 2 dX6_isAround_15 rfl ?_
    obtain ⟨hg3, h⟩ := g_gd h
    refine g_iald C 191 (by omega) rfl rfl hg3 dX6_isAround_16 ?_
    refine g_iload_n C 1 dX6_isAround_17 rfl ?_
    obtain ⟨q4, eq4, h⟩ := g_bd h
    refine g_calliV C 183 [gi (A 191 x2.toNatClampNeg), gi x1] (kX6_has hN hcp 1250 eq4) qs_X6_95 (by omega) (by omega) rfl rfl rfl rfl (Nat.le_of_ble_eq_true rfl) ⟨Nat.zero_le _, Nat.zero_le _⟩ dX6_isAround_18 ?_
    refine g_if_eq C dX6_isAround_21 (tgt := 26) (by decide) (fun c5 => ?_) (fun c5 => ?_)
    · have h := g_tt c5 h
      obtain ⟨v6, ev6, h⟩ := g_lt h
      refine g_iinc C 2 dX6_isAround_26 rfl ev6 (by decide) rfl ?_
      refine g_goto C dX6_isAround_29 (tgt := 2) (by decide) ?_
      refine g_sub [1, 2, 0] rfl ?_
      exact hK2 h
    · have h := g_ff c5 h
      refine g_iconst (v := 1) C dX6_isAround_24 (by decide) ?_
      obtain ⟨hz7, h⟩ := g_gd h
      obtain ⟨rfl, rfl⟩ := Prod.mk.inj (Option.some.inj h)
      exact g_retz C hr hz7 dX6_isAround_25

set_option maxHeartbeats 2000000 in
set_option maxRecDepth 20000 in
theorem wX6_isAround_L2 (hN : 193 ≤ N) {cp : Nat} (hcp : g_cap ln cp) {A0 A' : gM} {r : Int32} (C : gC p R s m args meth c cX6_isAround RX6 3 D g (va_A (gw g ad ln A0 N) s.heap.size) 1254) (hr : meth.sig.returnType = some .boolean)  : ∀ (f : Nat) {A : gM} {x1 : Int32} {x2 : Int32}, mX6_isAround_L2 cp f A x1 x2 = some (A', r) → gJ p l e R s m args below meth c (gEi below D g N ad ln A0 A' r args s) 3 D g (va_A (gw g ad ln A0 N) s.heap.size) N ad ln A [(0, gr 183), (1, gi x1), (2, gi x2)] 0 0 2 []
  | 0, A, x1, x2, h => by cases h
  | f + 1, A, x1, x2, h => wX6_isAround_b2 hN hcp C hr (fun {A} {x1} {x2} h => wX6_isAround_L2 hN hcp C hr f h) h
set_option maxHeartbeats 2000000 in
set_option maxRecDepth 20000 in
theorem wX6_isAround_b0 (hN : 193 ≤ N) {cp : Nat} (hcp : g_cap ln cp) {A0 A' : gM} {r : Int32} (C : gC p R s m args meth c cX6_isAround RX6 3 D g (va_A (gw g ad ln A0 N) s.heap.size) 1254) (hr : meth.sig.returnType = some .boolean)  {A : gM} {x1 : Int32} (h : mX6_isAround_b0 cp A x1 = some (A', r)) : gJ p l e R s m args below meth c (gEi below D g N ad ln A0 A' r args s) 3 D g (va_A (gw g ad ln A0 N) s.heap.size) N ad ln A [(0, gr 183), (1, gi x1)] 0 0 0 [] := by
  unfold mX6_isAround_b0 at h
  refine g_iconst (v := 0) C dX6_isAround_0 (by decide) ?_
  refine g_istore_n C dX6_isAround_1 (by decide) rfl ?_
  refine g_sub [1, 2, 0] rfl ?_
  exact wX6_isAround_L2 hN hcp C hr gF h

set_option maxHeartbeats 2000000 in
set_option maxRecDepth 20000 in
theorem kX6_isAround {l : Launch} {D : va_G} {g : gT} {N : Nat} {ad ln : Nat → Nat} (hN : 193 ≤ N) {cp : Nat} (hcp : g_cap ln cp) {A A' : gM} {x1 : Int32} {r : Int32} (h : mX6_isAround cp A x1 = some (A', r)) : gKi l yX6_isAround cX6_isAround 3 (some .boolean) (1254) D g N ad ln A [gr 183, gi x1] A' r := by
  refine g_meti (by decide) (Nat.le_of_ble_eq_true rfl) ?_
  intro p e s m args below meth c C hr
  refine g_sub [0, 1] rfl ?_
  exact wX6_isAround_b0 hN hcp C hr h
def mX6_own_b66 (cp : Nat) (rec : gM → Int32 → Option (gM)) (A : gM) : Option (gM) :=
  some A
def mX6_own_b65 (cp : Nat) (rec : gM → Int32 → Option (gM)) (A : gM) (s1 : Int32) (s2 : Int32) : Option (gM) :=
  if g_in s1 cp = true then g_let (g_up A 188 s1.toNatClampNeg (vp_nar .boolean s2)) fun A2 =>
  mX6_own_b66 cp rec A2
  else none
def mX6_own_b0 (cp : Nat) (rec : gM → Int32 → Option (gM)) (A : gM) (x1 : Int32) : Option (gM) :=
  (mX6_now cp A x1).bind fun q1 =>
  (mX6_isPair cp q1.1 q1.2).bind fun q2 =>
  if q2.2 = 0 then
  if g_in q1.2 cp = true then
  if (q2.1 185 q1.2.toNatClampNeg) = 4 then
  (mX6_isAround cp q2.1 q1.2).bind fun q6 =>
  if q6.2 = 0 then
  mX6_own_b65 cp rec q6.1 q1.2 1
  else
  mX6_own_b65 cp rec q6.1 q1.2 0
  else
  mX6_own_b66 cp rec q2.1
  else none
  else
  if g_in q1.2 cp = true then
  (rec q2.1 (q2.1 186 q1.2.toNatClampNeg)).bind fun q9 =>
  if g_in q1.2 cp = true then
  (rec q9 (q9 187 q1.2.toNatClampNeg)).bind fun q11 =>
  mX6_own_b66 cp rec q11
  else none
  else none
def mX6_own_body (cp : Nat) (rec : gM → Int32 → Option (gM)) (A : gM) (x1 : Int32) : Option (gM) := mX6_own_b0 cp rec A x1
def mX6_own (cp : Nat) : Nat → gM → Int32 → Option (gM)
  | 0 => fun _ _ => none
  | f + 1 => mX6_own_body cp (mX6_own cp f)
set_option maxHeartbeats 2000000 in
set_option maxRecDepth 20000 in
theorem wX6_own_b66 (hN : 193 ≤ N) {cp : Nat} (hcp : g_cap ln cp) {rec : gM → Int32 → Option (gM)} {fu : Nat} (hrec : ∀ {A A' : gM} {x1 : Int32}, rec A x1 = some A' → gKv l yX6_own cX6_own 3 (none) (1260 + 1 * fu) D g N ad ln A [gr 183, gi x1] A') {A0 A' : gM} (C : gC p R s m args meth c cX6_own RX6 3 D g (va_A (gw g ad ln A0 N) s.heap.size) (1260 + 1 * fu + 1)) (hr : meth.sig.returnType = none)  {A : gM} (h : mX6_own_b66 cp rec A = some A') : gJ p l e R s m args below meth c (gEv below D g N ad ln A0 A' args s) 3 D g (va_A (gw g ad ln A0 N) s.heap.size) N ad ln A [] 0 0 66 [] := by
  unfold mX6_own_b66 at h
  obtain rfl := Option.some.inj h
  exact g_retv C hr dX6_own_66

set_option maxHeartbeats 2000000 in
set_option maxRecDepth 20000 in
theorem wX6_own_b65 (hN : 193 ≤ N) {cp : Nat} (hcp : g_cap ln cp) {rec : gM → Int32 → Option (gM)} {fu : Nat} (hrec : ∀ {A A' : gM} {x1 : Int32}, rec A x1 = some A' → gKv l yX6_own cX6_own 3 (none) (1260 + 1 * fu) D g N ad ln A [gr 183, gi x1] A') {A0 A' : gM} (C : gC p R s m args meth c cX6_own RX6 3 D g (va_A (gw g ad ln A0 N) s.heap.size) (1260 + 1 * fu + 1)) (hr : meth.sig.returnType = none)  {A : gM} {s1 : Int32} {s2 : Int32} (h : mX6_own_b65 cp rec A s1 s2 = some A') : gJ p l e R s m args below meth c (gEv below D g N ad ln A0 A' args s) 3 D g (va_A (gw g ad ln A0 N) s.heap.size) N ad ln A [] 0 0 65 [gi s2, gi s1, gr 188] := by
  unfold mX6_own_b65 at h
  obtain ⟨hg1, h⟩ := g_gd h
  obtain ⟨A2, eA2, h⟩ := g_lt h
  refine g_zast C (by omega) (by rw [hcp.2.2.2.1]; exact hg1) eA2 dX6_own_65 ?_
  refine g_sub [] rfl ?_
  exact wX6_own_b66 hN hcp hrec C hr h

set_option maxHeartbeats 2000000 in
set_option maxRecDepth 20000 in
theorem wX6_own_b0 (hN : 193 ≤ N) {cp : Nat} (hcp : g_cap ln cp) {rec : gM → Int32 → Option (gM)} {fu : Nat} (hrec : ∀ {A A' : gM} {x1 : Int32}, rec A x1 = some A' → gKv l yX6_own cX6_own 3 (none) (1260 + 1 * fu) D g N ad ln A [gr 183, gi x1] A') {A0 A' : gM} (C : gC p R s m args meth c cX6_own RX6 3 D g (va_A (gw g ad ln A0 N) s.heap.size) (1260 + 1 * fu + 1)) (hr : meth.sig.returnType = none)  {A : gM} {x1 : Int32} (h : mX6_own_b0 cp rec A x1 = some A') : gJ p l e R s m args below meth c (gEv below D g N ad ln A0 A' args s) 3 D g (va_A (gw g ad ln A0 N) s.heap.size) N ad ln A [(0, gr 183), (1, gi x1)] 0 0 0 [] := by
  unfold mX6_own_b0 at h
  refine g_aload_n C 0 dX6_own_0 rfl ?_
  refine g_iload_n C 1 dX6_own_1 rfl ?_
  obtain ⟨q1, eq1, h⟩ := g_bd h
  refine g_calliV C 183 [gi x1] (kX6_now hN hcp eq1) qs_X6_89 (by omega) (by omega) rfl rfl rfl rfl (Nat.le_of_ble_eq_true rfl) ⟨Nat.zero_le _, Nat.zero_le _⟩ dX6_own_2 ?_
  refine g_istore_n C dX6_own_5 (by decide) rfl ?_
  refine g_aload_n C 1 dX6_own_6 rfl ?_
  refine g_iload_n C 0 dX6_own_7 rfl ?_
  obtain ⟨q2, eq2, h⟩ := g_bd h
  refine g_calliV C 183 [gi q1.2] (kX6_isPair hN hcp eq2) qs_X6_92 (by omega) (by omega) rfl rfl rfl rfl (Nat.le_of_ble_eq_true rfl) ⟨Nat.zero_le _, Nat.zero_le _⟩ dX6_own_8 ?_
  refine g_if_eq C dX6_own_11 (tgt := 37) (by decide) (fun c3 => ?_) (fun c3 => ?_)
  · have h := g_tt c3 h
    refine g_aload_n C 1 dX6_own_37 rfl ?_
    refine g_get (v := gr 185) C 183 4 (by omega) rfl rfl gu_6 (by decide) qf_X6_13 rfl dX6_own_38 ?_
    refine g_iload_n C 0 dX6_own_41 rfl ?_
    obtain ⟨hg4, h⟩ := g_gd h
    refine g_iald C 185 (by omega) rfl (show g_ln ln 185 = cp from hcp.1) hg4 dX6_own_42 ?_
    refine g_iconst (v := 4) C dX6_own_43 (by decide) ?_
    refine g_icmp_ne C dX6_own_44 (tgt := 66) (by decide) (fun c5 => ?_) (fun c5 => ?_)
    · have h := g_ff c5 h
      refine g_sub [] rfl ?_
      exact wX6_own_b66 hN hcp hrec C hr h
    · have h := g_tt c5 h
      refine g_aload_n C 1 dX6_own_47 rfl ?_
      refine g_get (v := gr 188) C 183 7 (by omega) rfl rfl gu_6 (by decide) qf_X6_22 rfl dX6_own_48 ?_
      refine g_iload_n C 0 dX6_own_51 rfl ?_
      refine g_aload_n C 1 dX6_own_52 rfl ?_
      refine g_iload_n C 0 dX6_own_53 rfl ?_
      obtain ⟨q6, eq6, h⟩ := g_bd h
      refine g_calliV C 183 [gi q1.2] (kX6_isAround hN hcp eq6) qs_X6_126 (by omega) (by omega) rfl rfl rfl rfl (Nat.le_of_ble_eq_true rfl) ⟨Nat.zero_le _, Nat.zero_le _⟩ dX6_own_54 ?_
      refine g_if_ne C dX6_own_57 (tgt := 64) (by decide) (fun c7 => ?_) (fun c7 => ?_)
      · have h := g_ff c7 h
        refine g_iconst (v := 0) C dX6_own_64 (by decide) ?_
        refine g_sub [] rfl ?_
        exact wX6_own_b65 hN hcp hrec C hr h
      · have h := g_tt c7 h
        refine g_iconst (v := 1) C dX6_own_60 (by decide) ?_
        refine g_goto C dX6_own_61 (tgt := 65) (by decide) ?_
        refine g_sub [] rfl ?_
        exact wX6_own_b65 hN hcp hrec C hr h
  · have h := g_ff c3 h
    refine g_aload_n C 1 dX6_own_14 rfl ?_
    refine g_aload_n C 1 dX6_own_15 rfl ?_
    refine g_get (v := gr 186) C 183 5 (by omega) rfl rfl gu_6 (by decide) qf_X6_16 rfl dX6_own_16 ?_
    refine g_iload_n C 0 dX6_own_19 rfl ?_
    obtain ⟨hg8, h⟩ := g_gd h
    refine g_iald C 186 (by omega) rfl (show g_ln ln 186 = cp from hcp.2.1) hg8 dX6_own_20 ?_
    obtain ⟨q9, eq9, h⟩ := g_bd h
    refine g_callvV C 183 [gi (q2.1 186 q1.2.toNatClampNeg)] (hrec eq9) qs_X6_122 (by omega) (by omega) rfl rfl rfl rfl (Nat.le_of_ble_eq_true rfl) ⟨Nat.zero_le _, Nat.zero_le _⟩ dX6_own_21 ?_
    refine g_aload_n C 1 dX6_own_24 rfl ?_
    refine g_aload_n C 1 dX6_own_25 rfl ?_
    refine g_get (v := gr 187) C 183 6 (by omega) rfl rfl gu_6 (by decide) qf_X6_19 rfl dX6_own_26 ?_
    refine g_iload_n C 0 dX6_own_29 rfl ?_
    obtain ⟨hg10, h⟩ := g_gd h
    refine g_iald C 187 (by omega) rfl (show g_ln ln 187 = cp from hcp.2.2.1) hg10 dX6_own_30 ?_
    obtain ⟨q11, eq11, h⟩ := g_bd h
    refine g_callvV C 183 [gi (q9 187 q1.2.toNatClampNeg)] (hrec eq11) qs_X6_122 (by omega) (by omega) rfl rfl rfl rfl (Nat.le_of_ble_eq_true rfl) ⟨Nat.zero_le _, Nat.zero_le _⟩ dX6_own_31 ?_
    refine g_goto C dX6_own_34 (tgt := 66) (by decide) ?_
    refine g_sub [] rfl ?_
    exact wX6_own_b66 hN hcp hrec C hr h

set_option maxHeartbeats 2000000 in
set_option maxRecDepth 20000 in
theorem kX6_own_body {l : Launch} {D : va_G} {g : gT} {N : Nat} {ad ln : Nat → Nat} (hN : 193 ≤ N) {cp : Nat} (hcp : g_cap ln cp) {rec : gM → Int32 → Option (gM)} {fu : Nat} (hrec : ∀ {A A' : gM} {x1 : Int32}, rec A x1 = some A' → gKv l yX6_own cX6_own 3 (none) (1260 + 1 * fu) D g N ad ln A [gr 183, gi x1] A') {A A' : gM} {x1 : Int32} (h : mX6_own_body cp rec A x1 = some A') : gKv l yX6_own cX6_own 3 (none) ((1260 + 1 * fu + 1)) D g N ad ln A [gr 183, gi x1] A' := by
  refine g_metv (by decide) (Nat.le_of_ble_eq_true rfl) ?_
  intro p e s m args below meth c C hr
  refine g_sub [0, 1] rfl ?_
  exact wX6_own_b0 hN hcp hrec C hr h
set_option maxHeartbeats 2000000 in
set_option maxRecDepth 20000 in
theorem kX6_own {l : Launch} {D : va_G} {g : gT} {N : Nat} {ad ln : Nat → Nat} (hN : 193 ≤ N) {cp : Nat} (hcp : g_cap ln cp) : ∀ (f : Nat) {A A' : gM} {x1 : Int32}, mX6_own cp f A x1 = some A' → gKv l yX6_own cX6_own 3 (none) (1260 + 1 * f) D g N ad ln A [gr 183, gi x1] A'
  | 0, A, A', x1, h => by cases h
  | f + 1, A, A', x1, h => kX6_own_body hN hcp (fun h => kX6_own hN hcp f h) h
def mX6_write_b122 (cp : Nat) (rec : gM → Int32 → Nat → Nat → Int32 → Nat → Nat → Option (gM × Int32)) (A : gM) (x3 : Int32) : Option (gM × Int32) :=
  some (A, (x3 + 1))
def mX6_write_b107 (cp : Nat) (rec : gM → Int32 → Nat → Nat → Int32 → Nat → Nat → Option (gM × Int32)) (A : gM) (x2 : Nat) (wx2 : Nat) (x3 : Int32) (x4 : Nat) (wx4 : Nat) (x5 : Int32) (x6 : Int32) : Option (gM × Int32) :=
  if g_in x6 wx4 = true then g_let (g_up A x4 x6.toNatClampNeg x5) fun A2 =>
  if g_in x3 wx2 = true then g_let (g_up A2 x2 x3.toNatClampNeg (10 + x6)) fun A4 =>
  mX6_write_b122 cp rec A4 x3
  else none
  else none
def mX6_write_b82 (cp : Nat) (rec : gM → Int32 → Nat → Nat → Int32 → Nat → Nat → Option (gM × Int32)) (K82 : gM → Nat → Nat → Int32 → Nat → Nat → Int32 → Int32 → Option (gM × Int32)) (A : gM) (x2 : Nat) (wx2 : Nat) (x3 : Int32) (x4 : Nat) (wx4 : Nat) (x5 : Int32) (x6 : Int32) : Option (gM × Int32) :=
  if g_in x6 wx4 = true then
  if (A x4 x6.toNatClampNeg) = x5 then
  mX6_write_b107 cp rec A x2 wx2 x3 x4 wx4 x5 x6
  else
  if g_in x6 wx4 = true then
  if (A x4 x6.toNatClampNeg) = (-1) then
  mX6_write_b107 cp rec A x2 wx2 x3 x4 wx4 x5 x6
  else
  g_let (x6 + 1) fun v5 =>
  K82 A x2 wx2 x3 x4 wx4 x5 v5
  else none
  else none
def mX6_write_L82 (cp : Nat) (rec : gM → Int32 → Nat → Nat → Int32 → Nat → Nat → Option (gM × Int32)) : Nat → gM → Nat → Nat → Int32 → Nat → Nat → Int32 → Int32 → Option (gM × Int32)
  | 0 => fun _ _ _ _ _ _ _ _ => none
  | f + 1 => mX6_write_b82 cp rec (mX6_write_L82 cp rec f)
def mX6_write_b0 (cp : Nat) (rec : gM → Int32 → Nat → Nat → Int32 → Nat → Nat → Option (gM × Int32)) (A : gM) (x1 : Int32) (x2 : Nat) (wx2 : Nat) (x3 : Int32) (x4 : Nat) (wx4 : Nat) : Option (gM × Int32) :=
  (mX6_now cp A x1).bind fun q1 =>
  (mX6_isPair cp q1.1 q1.2).bind fun q2 =>
  if q2.2 = 0 then
  if g_in q1.2 cp = true then
  if g_in x3 wx2 = true then g_let (g_up q2.1 x2 x3.toNatClampNeg (q2.1 185 q1.2.toNatClampNeg)) fun A6 =>
  if g_in q1.2 cp = true then
  if (A6 185 q1.2.toNatClampNeg) = 4 then
  mX6_write_L82 cp rec gF A6 x2 wx2 x3 x4 wx4 q1.2 0
  else
  mX6_write_b122 cp rec A6 x3
  else none
  else none
  else none
  else
  if g_in q1.2 cp = true then
  if g_in x3 wx2 = true then g_let (g_up q2.1 x2 x3.toNatClampNeg (q2.1 185 q1.2.toNatClampNeg)) fun A11 =>
  if g_in q1.2 cp = true then
  if g_in q1.2 cp = true then
  (rec A11 (A11 186 q1.2.toNatClampNeg) x2 wx2 (x3 + 1) x4 wx4).bind fun q14 =>
  (rec q14.1 (A11 187 q1.2.toNatClampNeg) x2 wx2 q14.2 x4 wx4).bind fun q15 =>
  some (q15.1, q15.2)
  else none
  else none
  else none
  else none
def mX6_write_body (cp : Nat) (rec : gM → Int32 → Nat → Nat → Int32 → Nat → Nat → Option (gM × Int32)) (A : gM) (x1 : Int32) (x2 : Nat) (wx2 : Nat) (x3 : Int32) (x4 : Nat) (wx4 : Nat) : Option (gM × Int32) := mX6_write_b0 cp rec A x1 x2 wx2 x3 x4 wx4
def mX6_write (cp : Nat) : Nat → gM → Int32 → Nat → Nat → Int32 → Nat → Nat → Option (gM × Int32)
  | 0 => fun _ _ _ _ _ _ _ => none
  | f + 1 => mX6_write_body cp (mX6_write cp f)
set_option maxHeartbeats 2000000 in
set_option maxRecDepth 20000 in
theorem wX6_write_b122 (hN : 193 ≤ N) {cp : Nat} (hcp : g_cap ln cp) {rec : gM → Int32 → Nat → Nat → Int32 → Nat → Nat → Option (gM × Int32)} {fu : Nat} (hrec : ∀ {A A' : gM} {x1 : Int32} {x2 : Nat} {wx2 : Nat} {x3 : Int32} {x4 : Nat} {wx4 : Nat} {r : Int32} (_ : (x2 < N ∧ g_isI x2 = true ∧ g_ln ln x2 = wx2)) (_ : (x4 < N ∧ g_isI x4 = true ∧ g_ln ln x4 = wx4)), rec A x1 x2 wx2 x3 x4 wx4 = some (A', r) → gKi l yX6_write cX6_write 7 (some .int) (3 + 1 * fu) D g N ad ln A [gr 183, gi x1, gr x2, gi x3, gr x4] A' r) {A0 A' : gM} {r : Int32} (C : gC p R s m args meth c cX6_write RX6 7 D g (va_A (gw g ad ln A0 N) s.heap.size) (3 + 1 * fu + 1)) (hr : meth.sig.returnType = some .int)  {A : gM} {x3 : Int32} (h : mX6_write_b122 cp rec A x3 = some (A', r)) : gJ p l e R s m args below meth c (gEi below D g N ad ln A0 A' r args s) 7 D g (va_A (gw g ad ln A0 N) s.heap.size) N ad ln A [(3, gi x3)] 0 0 122 [] := by
  unfold mX6_write_b122 at h
  refine g_iload_n C 0 dX6_write_122 rfl ?_
  refine g_iconst (v := 1) C dX6_write_123 (by decide) ?_
  refine g_iadd C dX6_write_124 ?_
  obtain ⟨rfl, rfl⟩ := Prod.mk.inj (Option.some.inj h)
  exact g_reti C hr dX6_write_125

set_option maxHeartbeats 2000000 in
set_option maxRecDepth 20000 in
theorem wX6_write_b107 (hN : 193 ≤ N) {cp : Nat} (hcp : g_cap ln cp) {rec : gM → Int32 → Nat → Nat → Int32 → Nat → Nat → Option (gM × Int32)} {fu : Nat} (hrec : ∀ {A A' : gM} {x1 : Int32} {x2 : Nat} {wx2 : Nat} {x3 : Int32} {x4 : Nat} {wx4 : Nat} {r : Int32} (_ : (x2 < N ∧ g_isI x2 = true ∧ g_ln ln x2 = wx2)) (_ : (x4 < N ∧ g_isI x4 = true ∧ g_ln ln x4 = wx4)), rec A x1 x2 wx2 x3 x4 wx4 = some (A', r) → gKi l yX6_write cX6_write 7 (some .int) (3 + 1 * fu) D g N ad ln A [gr 183, gi x1, gr x2, gi x3, gr x4] A' r) {A0 A' : gM} {r : Int32} (C : gC p R s m args meth c cX6_write RX6 7 D g (va_A (gw g ad ln A0 N) s.heap.size) (3 + 1 * fu + 1)) (hr : meth.sig.returnType = some .int)  {A : gM} {x2 : Nat} {wx2 : Nat} {x3 : Int32} {x4 : Nat} {wx4 : Nat} {x5 : Int32} {x6 : Int32} (hwx2 : (x2 < N ∧ g_isI x2 = true ∧ g_ln ln x2 = wx2)) (hwx4 : (x4 < N ∧ g_isI x4 = true ∧ g_ln ln x4 = wx4)) (h : mX6_write_b107 cp rec A x2 wx2 x3 x4 wx4 x5 x6 = some (A', r)) : gJ p l e R s m args below meth c (gEi below D g N ad ln A0 A' r args s) 7 D g (va_A (gw g ad ln A0 N) s.heap.size) N ad ln A [(2, gr x2), (3, gi x3), (4, gr x4), (5, gi x5), (6, gi x6)] 0 0 107 [] := by
  unfold mX6_write_b107 at h
  refine g_aload C 2 dX6_write_107 rfl ?_
  refine g_iload C 4 dX6_write_109 rfl ?_
  refine g_iload C 3 dX6_write_111 rfl ?_
  obtain ⟨hg1, h⟩ := g_gd h
  obtain ⟨A2, eA2, h⟩ := g_lt h
  refine g_iast C x4 hwx4.1 hwx4.2.1 hwx4.2.2 hg1 eA2 dX6_write_113 ?_
  refine g_aload_n C 0 dX6_write_114 rfl ?_
  refine g_iload_n C 1 dX6_write_115 rfl ?_
  refine g_bipush (v := 10) C dX6_write_116 (by decide) ?_
  refine g_iload C 4 dX6_write_118 rfl ?_
  refine g_iadd C dX6_write_120 ?_
  obtain ⟨hg3, h⟩ := g_gd h
  obtain ⟨A4, eA4, h⟩ := g_lt h
  refine g_iast C x2 hwx2.1 hwx2.2.1 hwx2.2.2 hg3 eA4 dX6_write_121 ?_
  refine g_sub [1] rfl ?_
  exact wX6_write_b122 hN hcp hrec C hr h

set_option maxHeartbeats 2000000 in
set_option maxRecDepth 20000 in
theorem wX6_write_b82 (hN : 193 ≤ N) {cp : Nat} (hcp : g_cap ln cp) {rec : gM → Int32 → Nat → Nat → Int32 → Nat → Nat → Option (gM × Int32)} {fu : Nat} (hrec : ∀ {A A' : gM} {x1 : Int32} {x2 : Nat} {wx2 : Nat} {x3 : Int32} {x4 : Nat} {wx4 : Nat} {r : Int32} (_ : (x2 < N ∧ g_isI x2 = true ∧ g_ln ln x2 = wx2)) (_ : (x4 < N ∧ g_isI x4 = true ∧ g_ln ln x4 = wx4)), rec A x1 x2 wx2 x3 x4 wx4 = some (A', r) → gKi l yX6_write cX6_write 7 (some .int) (3 + 1 * fu) D g N ad ln A [gr 183, gi x1, gr x2, gi x3, gr x4] A' r) {A0 A' : gM} {r : Int32} (C : gC p R s m args meth c cX6_write RX6 7 D g (va_A (gw g ad ln A0 N) s.heap.size) (3 + 1 * fu + 1)) (hr : meth.sig.returnType = some .int) {K82 : gM → Nat → Nat → Int32 → Nat → Nat → Int32 → Int32 → Option (gM × Int32)} (hK82 : ∀ {A : gM} {x2 : Nat} {wx2 : Nat} {x3 : Int32} {x4 : Nat} {wx4 : Nat} {x5 : Int32} {x6 : Int32} (_ : (x2 < N ∧ g_isI x2 = true ∧ g_ln ln x2 = wx2)) (_ : (x4 < N ∧ g_isI x4 = true ∧ g_ln ln x4 = wx4)), K82 A x2 wx2 x3 x4 wx4 x5 x6 = some (A', r) → gJ p l e R s m args below meth c (gEi below D g N ad ln A0 A' r args s) 7 D g (va_A (gw g ad ln A0 N) s.heap.size) N ad ln A [(2, gr x2), (3, gi x3), (4, gr x4), (5, gi x5), (6, gi x6)] 0 0 82 []) {A : gM} {x2 : Nat} {wx2 : Nat} {x3 : Int32} {x4 : Nat} {wx4 : Nat} {x5 : Int32} {x6 : Int32} (hwx2 : (x2 < N ∧ g_isI x2 = true ∧ g_ln ln x2 = wx2)) (hwx4 : (x4 < N ∧ g_isI x4 = true ∧ g_ln ln x4 = wx4)) (h : mX6_write_b82 cp rec K82 A x2 wx2 x3 x4 wx4 x5 x6 = some (A', r)) : gJ p l e R s m args below meth c (gEi below D g N ad ln A0 A' r args s) 7 D g (va_A (gw g ad ln A0 N) s.heap.size) N ad ln A [(2, gr x2), (3, gi x3), (4, gr x4), (5, gi x5), (6, gi x6)] 0 0 82 [] := by
  unfold mX6_write_b82 at h
  refine g_aload C 2 dX6_write_82 rfl ?_
  refine g_iload C 4 dX6_write_84 rfl ?_
  obtain ⟨hg1, h⟩ := g_gd h
  refine g_iald C x4 hwx4.1 hwx4.2.1 hwx4.2.2 hg1 dX6_write_86 ?_
  refine g_iload C 3 dX6_write_87 rfl ?_
  refine g_icmp_eq C dX6_write_89 (tgt := 107) (by decide) (fun c2 => ?_) (fun c2 => ?_)
  · have h := g_tt c2 h
    refine g_sub [0, 1, 2, 3, 4] rfl ?_
    exact wX6_write_b107 hN hcp hrec C hr ⟨hwx2.1, hwx2.2.1, hwx2.2.2⟩ ⟨hwx4.1, hwx4.2.1, hwx4.2.2⟩ h
  · have h := g_ff c2 h
    refine g_aload C 2 dX6_write_92 rfl ?_
    refine g_iload C 4 dX6_write_94 rfl ?_
    obtain ⟨hg3, h⟩ := g_gd h
    refine g_iald C x4 hwx4.1 hwx4.2.1 hwx4.2.2 hg3 dX6_write_96 ?_
    refine g_iconst (v := (-1)) C dX6_write_97 (by decide) ?_
    refine g_icmp_eq C dX6_write_98 (tgt := 107) (by decide) (fun c4 => ?_) (fun c4 => ?_)
    · have h := g_tt c4 h
      refine g_sub [0, 1, 2, 3, 4] rfl ?_
      exact wX6_write_b107 hN hcp hrec C hr ⟨hwx2.1, hwx2.2.1, hwx2.2.2⟩ ⟨hwx4.1, hwx4.2.1, hwx4.2.2⟩ h
    · have h := g_ff c4 h
      obtain ⟨v5, ev5, h⟩ := g_lt h
      refine g_iinc C 4 dX6_write_101 rfl ev5 (by decide) rfl ?_
      refine g_goto C dX6_write_104 (tgt := 82) (by decide) ?_
      refine g_sub [1, 2, 3, 4, 0] rfl ?_
      exact hK82 ⟨hwx2.1, hwx2.2.1, hwx2.2.2⟩ ⟨hwx4.1, hwx4.2.1, hwx4.2.2⟩ h

set_option maxHeartbeats 2000000 in
set_option maxRecDepth 20000 in
theorem wX6_write_L82 (hN : 193 ≤ N) {cp : Nat} (hcp : g_cap ln cp) {rec : gM → Int32 → Nat → Nat → Int32 → Nat → Nat → Option (gM × Int32)} {fu : Nat} (hrec : ∀ {A A' : gM} {x1 : Int32} {x2 : Nat} {wx2 : Nat} {x3 : Int32} {x4 : Nat} {wx4 : Nat} {r : Int32} (_ : (x2 < N ∧ g_isI x2 = true ∧ g_ln ln x2 = wx2)) (_ : (x4 < N ∧ g_isI x4 = true ∧ g_ln ln x4 = wx4)), rec A x1 x2 wx2 x3 x4 wx4 = some (A', r) → gKi l yX6_write cX6_write 7 (some .int) (3 + 1 * fu) D g N ad ln A [gr 183, gi x1, gr x2, gi x3, gr x4] A' r) {A0 A' : gM} {r : Int32} (C : gC p R s m args meth c cX6_write RX6 7 D g (va_A (gw g ad ln A0 N) s.heap.size) (3 + 1 * fu + 1)) (hr : meth.sig.returnType = some .int)  : ∀ (f : Nat) {A : gM} {x2 : Nat} {wx2 : Nat} {x3 : Int32} {x4 : Nat} {wx4 : Nat} {x5 : Int32} {x6 : Int32} (_ : (x2 < N ∧ g_isI x2 = true ∧ g_ln ln x2 = wx2)) (_ : (x4 < N ∧ g_isI x4 = true ∧ g_ln ln x4 = wx4)), mX6_write_L82 cp rec f A x2 wx2 x3 x4 wx4 x5 x6 = some (A', r) → gJ p l e R s m args below meth c (gEi below D g N ad ln A0 A' r args s) 7 D g (va_A (gw g ad ln A0 N) s.heap.size) N ad ln A [(2, gr x2), (3, gi x3), (4, gr x4), (5, gi x5), (6, gi x6)] 0 0 82 []
  | 0, A, x2, wx2, x3, x4, wx4, x5, x6, hwx2, hwx4, h => by cases h
  | f + 1, A, x2, wx2, x3, x4, wx4, x5, x6, hwx2, hwx4, h => wX6_write_b82 hN hcp hrec C hr (fun {A} {x2} {wx2} {x3} {x4} {wx4} {x5} {x6} hwx2 hwx4 h => wX6_write_L82 hN hcp hrec C hr f hwx2 hwx4 h) hwx2 hwx4 h
set_option maxHeartbeats 2000000 in
set_option maxRecDepth 20000 in
theorem wX6_write_b0 (hN : 193 ≤ N) {cp : Nat} (hcp : g_cap ln cp) {rec : gM → Int32 → Nat → Nat → Int32 → Nat → Nat → Option (gM × Int32)} {fu : Nat} (hrec : ∀ {A A' : gM} {x1 : Int32} {x2 : Nat} {wx2 : Nat} {x3 : Int32} {x4 : Nat} {wx4 : Nat} {r : Int32} (_ : (x2 < N ∧ g_isI x2 = true ∧ g_ln ln x2 = wx2)) (_ : (x4 < N ∧ g_isI x4 = true ∧ g_ln ln x4 = wx4)), rec A x1 x2 wx2 x3 x4 wx4 = some (A', r) → gKi l yX6_write cX6_write 7 (some .int) (3 + 1 * fu) D g N ad ln A [gr 183, gi x1, gr x2, gi x3, gr x4] A' r) {A0 A' : gM} {r : Int32} (C : gC p R s m args meth c cX6_write RX6 7 D g (va_A (gw g ad ln A0 N) s.heap.size) (3 + 1 * fu + 1)) (hr : meth.sig.returnType = some .int)  {A : gM} {x1 : Int32} {x2 : Nat} {wx2 : Nat} {x3 : Int32} {x4 : Nat} {wx4 : Nat} (hwx2 : (x2 < N ∧ g_isI x2 = true ∧ g_ln ln x2 = wx2)) (hwx4 : (x4 < N ∧ g_isI x4 = true ∧ g_ln ln x4 = wx4)) (h : mX6_write_b0 cp rec A x1 x2 wx2 x3 x4 wx4 = some (A', r)) : gJ p l e R s m args below meth c (gEi below D g N ad ln A0 A' r args s) 7 D g (va_A (gw g ad ln A0 N) s.heap.size) N ad ln A [(0, gr 183), (1, gi x1), (2, gr x2), (3, gi x3), (4, gr x4)] 0 0 0 [] := by
  unfold mX6_write_b0 at h
  refine g_aload_n C 0 dX6_write_0 rfl ?_
  refine g_iload_n C 1 dX6_write_1 rfl ?_
  obtain ⟨q1, eq1, h⟩ := g_bd h
  refine g_calliV C 183 [gi x1] (kX6_now hN hcp eq1) qs_X6_89 (by omega) (by omega) rfl rfl rfl rfl (Nat.le_of_ble_eq_true rfl) ⟨Nat.zero_le _, Nat.zero_le _⟩ dX6_write_2 ?_
  refine g_istore C dX6_write_5 (by decide) rfl ?_
  refine g_aload_n C 1 dX6_write_7 rfl ?_
  refine g_iload C 0 dX6_write_8 rfl ?_
  obtain ⟨q2, eq2, h⟩ := g_bd h
  refine g_calliV C 183 [gi q1.2] (kX6_isPair hN hcp eq2) qs_X6_92 (by omega) (by omega) rfl rfl rfl rfl (Nat.le_of_ble_eq_true rfl) ⟨Nat.zero_le _, Nat.zero_le _⟩ dX6_write_10 ?_
  refine g_if_eq C dX6_write_13 (tgt := 58) (by decide) (fun c3 => ?_) (fun c3 => ?_)
  · have h := g_tt c3 h
    refine g_aload_n C 3 dX6_write_58 rfl ?_
    refine g_iload_n C 4 dX6_write_59 rfl ?_
    refine g_aload_n C 1 dX6_write_60 rfl ?_
    refine g_get (v := gr 185) C 183 4 (by omega) rfl rfl gu_6 (by decide) qf_X6_13 rfl dX6_write_61 ?_
    refine g_iload C 0 dX6_write_64 rfl ?_
    obtain ⟨hg4, h⟩ := g_gd h
    refine g_iald C 185 (by omega) rfl (show g_ln ln 185 = cp from hcp.1) hg4 dX6_write_66 ?_
    obtain ⟨hg5, h⟩ := g_gd h
    obtain ⟨A6, eA6, h⟩ := g_lt h
    refine g_iast C x2 hwx2.1 hwx2.2.1 hwx2.2.2 hg5 eA6 dX6_write_67 ?_
    refine g_aload_n C 1 dX6_write_68 rfl ?_
    refine g_get (v := gr 185) C 183 4 (by omega) rfl rfl gu_6 (by decide) qf_X6_13 rfl dX6_write_69 ?_
    refine g_iload C 0 dX6_write_72 rfl ?_
    obtain ⟨hg7, h⟩ := g_gd h
    refine g_iald C 185 (by omega) rfl (show g_ln ln 185 = cp from hcp.1) hg7 dX6_write_74 ?_
    refine g_iconst (v := 4) C dX6_write_75 (by decide) ?_
    refine g_icmp_ne C dX6_write_76 (tgt := 122) (by decide) (fun c8 => ?_) (fun c8 => ?_)
    · have h := g_ff c8 h
      refine g_sub [4] rfl ?_
      exact wX6_write_b122 hN hcp hrec C hr h
    · have h := g_tt c8 h
      refine g_iconst (v := 0) C dX6_write_79 (by decide) ?_
      refine g_istore C dX6_write_80 (by decide) rfl ?_
      refine g_sub [4, 5, 6, 1, 0] rfl ?_
      exact wX6_write_L82 hN hcp hrec C hr gF ⟨hwx2.1, hwx2.2.1, hwx2.2.2⟩ ⟨hwx4.1, hwx4.2.1, hwx4.2.2⟩ h
  · have h := g_ff c3 h
    refine g_aload_n C 3 dX6_write_16 rfl ?_
    refine g_iload_n C 4 dX6_write_17 rfl ?_
    refine g_aload_n C 1 dX6_write_18 rfl ?_
    refine g_get (v := gr 185) C 183 4 (by omega) rfl rfl gu_6 (by decide) qf_X6_13 rfl dX6_write_19 ?_
    refine g_iload C 0 dX6_write_22 rfl ?_
    obtain ⟨hg9, h⟩ := g_gd h
    refine g_iald C 185 (by omega) rfl (show g_ln ln 185 = cp from hcp.1) hg9 dX6_write_24 ?_
    obtain ⟨hg10, h⟩ := g_gd h
    obtain ⟨A11, eA11, h⟩ := g_lt h
    refine g_iast C x2 hwx2.1 hwx2.2.1 hwx2.2.2 hg10 eA11 dX6_write_25 ?_
    refine g_aload_n C 1 dX6_write_26 rfl ?_
    refine g_aload_n C 1 dX6_write_27 rfl ?_
    refine g_get (v := gr 187) C 183 6 (by omega) rfl rfl gu_6 (by decide) qf_X6_19 rfl dX6_write_28 ?_
    refine g_iload C 0 dX6_write_31 rfl ?_
    obtain ⟨hg12, h⟩ := g_gd h
    refine g_iald C 187 (by omega) rfl (show g_ln ln 187 = cp from hcp.2.2.1) hg12 dX6_write_33 ?_
    refine g_aload_n C 3 dX6_write_34 rfl ?_
    refine g_aload_n C 1 dX6_write_35 rfl ?_
    refine g_aload_n C 1 dX6_write_36 rfl ?_
    refine g_get (v := gr 186) C 183 5 (by omega) rfl rfl gu_6 (by decide) qf_X6_16 rfl dX6_write_37 ?_
    refine g_iload C 0 dX6_write_40 rfl ?_
    obtain ⟨hg13, h⟩ := g_gd h
    refine g_iald C 186 (by omega) rfl (show g_ln ln 186 = cp from hcp.2.1) hg13 dX6_write_42 ?_
    refine g_aload_n C 3 dX6_write_43 rfl ?_
    refine g_iload_n C 4 dX6_write_44 rfl ?_
    refine g_iconst (v := 1) C dX6_write_45 (by decide) ?_
    refine g_iadd C dX6_write_46 ?_
    refine g_aload C 5 dX6_write_47 rfl ?_
    obtain ⟨q14, eq14, h⟩ := g_bd h
    refine g_calliV C 183 [gi (A11 186 q1.2.toNatClampNeg), gr x2, gi (x3 + 1), gr x4] (hrec ⟨hwx2.1, hwx2.2.1, hwx2.2.2⟩ ⟨hwx4.1, hwx4.2.1, hwx4.2.2⟩ eq14) qs_X6_169 (by omega) (by omega) rfl rfl rfl rfl (Nat.le_of_ble_eq_true rfl) ⟨Nat.zero_le _, Nat.zero_le _⟩ dX6_write_49 ?_
    refine g_aload C 5 dX6_write_52 rfl ?_
    obtain ⟨q15, eq15, h⟩ := g_bd h
    refine g_calliV C 183 [gi (A11 187 q1.2.toNatClampNeg), gr x2, gi q14.2, gr x4] (hrec ⟨hwx2.1, hwx2.2.1, hwx2.2.2⟩ ⟨hwx4.1, hwx4.2.1, hwx4.2.2⟩ eq15) qs_X6_169 (by omega) (by omega) rfl rfl rfl rfl (Nat.le_of_ble_eq_true rfl) ⟨Nat.zero_le _, Nat.zero_le _⟩ dX6_write_54 ?_
    obtain ⟨rfl, rfl⟩ := Prod.mk.inj (Option.some.inj h)
    exact g_reti C hr dX6_write_57

set_option maxHeartbeats 2000000 in
set_option maxRecDepth 20000 in
theorem kX6_write_body {l : Launch} {D : va_G} {g : gT} {N : Nat} {ad ln : Nat → Nat} (hN : 193 ≤ N) {cp : Nat} (hcp : g_cap ln cp) {rec : gM → Int32 → Nat → Nat → Int32 → Nat → Nat → Option (gM × Int32)} {fu : Nat} (hrec : ∀ {A A' : gM} {x1 : Int32} {x2 : Nat} {wx2 : Nat} {x3 : Int32} {x4 : Nat} {wx4 : Nat} {r : Int32} (_ : (x2 < N ∧ g_isI x2 = true ∧ g_ln ln x2 = wx2)) (_ : (x4 < N ∧ g_isI x4 = true ∧ g_ln ln x4 = wx4)), rec A x1 x2 wx2 x3 x4 wx4 = some (A', r) → gKi l yX6_write cX6_write 7 (some .int) (3 + 1 * fu) D g N ad ln A [gr 183, gi x1, gr x2, gi x3, gr x4] A' r) {A A' : gM} {x1 : Int32} {x2 : Nat} {wx2 : Nat} {x3 : Int32} {x4 : Nat} {wx4 : Nat} {r : Int32} (hwx2 : (x2 < N ∧ g_isI x2 = true ∧ g_ln ln x2 = wx2)) (hwx4 : (x4 < N ∧ g_isI x4 = true ∧ g_ln ln x4 = wx4)) (h : mX6_write_body cp rec A x1 x2 wx2 x3 x4 wx4 = some (A', r)) : gKi l yX6_write cX6_write 7 (some .int) ((3 + 1 * fu + 1)) D g N ad ln A [gr 183, gi x1, gr x2, gi x3, gr x4] A' r := by
  refine g_meti (by decide) (Nat.le_of_ble_eq_true rfl) ?_
  intro p e s m args below meth c C hr
  refine g_sub [0, 1, 2, 3, 4] rfl ?_
  exact wX6_write_b0 hN hcp hrec C hr hwx2 hwx4 h
set_option maxHeartbeats 2000000 in
set_option maxRecDepth 20000 in
theorem kX6_write {l : Launch} {D : va_G} {g : gT} {N : Nat} {ad ln : Nat → Nat} (hN : 193 ≤ N) {cp : Nat} (hcp : g_cap ln cp) : ∀ (f : Nat) {A A' : gM} {x1 : Int32} {x2 : Nat} {wx2 : Nat} {x3 : Int32} {x4 : Nat} {wx4 : Nat} {r : Int32} (_ : (x2 < N ∧ g_isI x2 = true ∧ g_ln ln x2 = wx2)) (_ : (x4 < N ∧ g_isI x4 = true ∧ g_ln ln x4 = wx4)), mX6_write cp f A x1 x2 wx2 x3 x4 wx4 = some (A', r) → gKi l yX6_write cX6_write 7 (some .int) (3 + 1 * f) D g N ad ln A [gr 183, gi x1, gr x2, gi x3, gr x4] A' r
  | 0, A, A', x1, x2, wx2, x3, x4, wx4, r, hwx2, hwx4, h => by cases h
  | f + 1, A, A', x1, x2, wx2, x3, x4, wx4, r, hwx2, hwx4, h => kX6_write_body hN hcp (fun hwx2 hwx4 h => kX6_write hN hcp f hwx2 hwx4 h) hwx2 hwx4 h
def mX6_deep_b43 (cp : Nat) (rec : gM → Int32 → Option (gM × Int32)) (A : gM) (s0 : Int32) : Option (gM × Int32) :=
  some (A, s0)
def mX6_deep_b0 (cp : Nat) (rec : gM → Int32 → Option (gM × Int32)) (A : gM) (x1 : Int32) : Option (gM × Int32) :=
  (mX6_now cp A x1).bind fun q1 =>
  (mX6_isPair cp q1.1 q1.2).bind fun q2 =>
  if q2.2 = 0 then
  mX6_deep_b43 cp rec q2.1 1
  else
  if g_in q1.2 cp = true then
  (rec q2.1 (q2.1 186 q1.2.toNatClampNeg)).bind fun q5 =>
  if g_in q1.2 cp = true then
  (rec q5.1 (q5.1 187 q1.2.toNatClampNeg)).bind fun q7 =>
  mX6_deep_b43 cp rec q7.1 (1 + (if q5.2 < q7.2 then q7.2 else q5.2))
  else none
  else none
def mX6_deep_body (cp : Nat) (rec : gM → Int32 → Option (gM × Int32)) (A : gM) (x1 : Int32) : Option (gM × Int32) := mX6_deep_b0 cp rec A x1
def mX6_deep (cp : Nat) : Nat → gM → Int32 → Option (gM × Int32)
  | 0 => fun _ _ => none
  | f + 1 => mX6_deep_body cp (mX6_deep cp f)
set_option maxHeartbeats 2000000 in
set_option maxRecDepth 20000 in
theorem wX6_deep_b43 (hN : 193 ≤ N) {cp : Nat} (hcp : g_cap ln cp) {rec : gM → Int32 → Option (gM × Int32)} {fu : Nat} (hrec : ∀ {A A' : gM} {x1 : Int32} {r : Int32}, rec A x1 = some (A', r) → gKi l yX6_deep cX6_deep 3 (some .int) (3 + 1 * fu) D g N ad ln A [gr 183, gi x1] A' r) {A0 A' : gM} {r : Int32} (C : gC p R s m args meth c cX6_deep RX6 3 D g (va_A (gw g ad ln A0 N) s.heap.size) (3 + 1 * fu + 1)) (hr : meth.sig.returnType = some .int)  {A : gM} {s0 : Int32} (h : mX6_deep_b43 cp rec A s0 = some (A', r)) : gJ p l e R s m args below meth c (gEi below D g N ad ln A0 A' r args s) 3 D g (va_A (gw g ad ln A0 N) s.heap.size) N ad ln A [] 0 0 43 [gi s0] := by
  unfold mX6_deep_b43 at h
  obtain ⟨rfl, rfl⟩ := Prod.mk.inj (Option.some.inj h)
  exact g_reti C hr dX6_deep_43

set_option maxHeartbeats 2000000 in
set_option maxRecDepth 20000 in
theorem wX6_deep_b0 (hN : 193 ≤ N) {cp : Nat} (hcp : g_cap ln cp) {rec : gM → Int32 → Option (gM × Int32)} {fu : Nat} (hrec : ∀ {A A' : gM} {x1 : Int32} {r : Int32}, rec A x1 = some (A', r) → gKi l yX6_deep cX6_deep 3 (some .int) (3 + 1 * fu) D g N ad ln A [gr 183, gi x1] A' r) {A0 A' : gM} {r : Int32} (C : gC p R s m args meth c cX6_deep RX6 3 D g (va_A (gw g ad ln A0 N) s.heap.size) (3 + 1 * fu + 1)) (hr : meth.sig.returnType = some .int)  {A : gM} {x1 : Int32} (h : mX6_deep_b0 cp rec A x1 = some (A', r)) : gJ p l e R s m args below meth c (gEi below D g N ad ln A0 A' r args s) 3 D g (va_A (gw g ad ln A0 N) s.heap.size) N ad ln A [(0, gr 183), (1, gi x1)] 0 0 0 [] := by
  unfold mX6_deep_b0 at h
  refine g_aload_n C 0 dX6_deep_0 rfl ?_
  refine g_iload_n C 1 dX6_deep_1 rfl ?_
  obtain ⟨q1, eq1, h⟩ := g_bd h
  refine g_calliV C 183 [gi x1] (kX6_now hN hcp eq1) qs_X6_89 (by omega) (by omega) rfl rfl rfl rfl (Nat.le_of_ble_eq_true rfl) ⟨Nat.zero_le _, Nat.zero_le _⟩ dX6_deep_2 ?_
  refine g_istore_n C dX6_deep_5 (by decide) rfl ?_
  refine g_aload_n C 1 dX6_deep_6 rfl ?_
  refine g_iload_n C 0 dX6_deep_7 rfl ?_
  obtain ⟨q2, eq2, h⟩ := g_bd h
  refine g_calliV C 183 [gi q1.2] (kX6_isPair hN hcp eq2) qs_X6_92 (by omega) (by omega) rfl rfl rfl rfl (Nat.le_of_ble_eq_true rfl) ⟨Nat.zero_le _, Nat.zero_le _⟩ dX6_deep_8 ?_
  refine g_if_eq C dX6_deep_11 (tgt := 42) (by decide) (fun c3 => ?_) (fun c3 => ?_)
  · have h := g_tt c3 h
    refine g_iconst (v := 1) C dX6_deep_42 (by decide) ?_
    refine g_sub [] rfl ?_
    exact wX6_deep_b43 hN hcp hrec C hr h
  · have h := g_ff c3 h
    refine g_iconst (v := 1) C dX6_deep_14 (by decide) ?_
    refine g_aload_n C 1 dX6_deep_15 rfl ?_
    refine g_aload_n C 1 dX6_deep_16 rfl ?_
    refine g_get (v := gr 186) C 183 5 (by omega) rfl rfl gu_6 (by decide) qf_X6_16 rfl dX6_deep_17 ?_
    refine g_iload_n C 0 dX6_deep_20 rfl ?_
    obtain ⟨hg4, h⟩ := g_gd h
    refine g_iald C 186 (by omega) rfl (show g_ln ln 186 = cp from hcp.2.1) hg4 dX6_deep_21 ?_
    obtain ⟨q5, eq5, h⟩ := g_bd h
    refine g_calliV C 183 [gi (q2.1 186 q1.2.toNatClampNeg)] (hrec eq5) qs_X6_176 (by omega) (by omega) rfl rfl rfl rfl (Nat.le_of_ble_eq_true rfl) ⟨Nat.zero_le _, Nat.zero_le _⟩ dX6_deep_22 ?_
    refine g_aload_n C 1 dX6_deep_25 rfl ?_
    refine g_aload_n C 1 dX6_deep_26 rfl ?_
    refine g_get (v := gr 187) C 183 6 (by omega) rfl rfl gu_6 (by decide) qf_X6_19 rfl dX6_deep_27 ?_
    refine g_iload_n C 0 dX6_deep_30 rfl ?_
    obtain ⟨hg6, h⟩ := g_gd h
    refine g_iald C 187 (by omega) rfl (show g_ln ln 187 = cp from hcp.2.2.1) hg6 dX6_deep_31 ?_
    obtain ⟨q7, eq7, h⟩ := g_bd h
    refine g_calliV C 183 [gi (q5.1 187 q1.2.toNatClampNeg)] (hrec eq7) qs_X6_176 (by omega) (by omega) rfl rfl rfl rfl (Nat.le_of_ble_eq_true rfl) ⟨Nat.zero_le _, Nat.zero_le _⟩ dX6_deep_32 ?_
    refine g_mmax C qm_X6_179 (by omega) (Nat.le_of_ble_eq_true rfl) ⟨Nat.zero_le _, Nat.zero_le _⟩ dX6_deep_35 ?_
    refine g_iadd C dX6_deep_38 ?_
    refine g_goto C dX6_deep_39 (tgt := 43) (by decide) ?_
    refine g_sub [] rfl ?_
    exact wX6_deep_b43 hN hcp hrec C hr h

set_option maxHeartbeats 2000000 in
set_option maxRecDepth 20000 in
theorem kX6_deep_body {l : Launch} {D : va_G} {g : gT} {N : Nat} {ad ln : Nat → Nat} (hN : 193 ≤ N) {cp : Nat} (hcp : g_cap ln cp) {rec : gM → Int32 → Option (gM × Int32)} {fu : Nat} (hrec : ∀ {A A' : gM} {x1 : Int32} {r : Int32}, rec A x1 = some (A', r) → gKi l yX6_deep cX6_deep 3 (some .int) (3 + 1 * fu) D g N ad ln A [gr 183, gi x1] A' r) {A A' : gM} {x1 : Int32} {r : Int32} (h : mX6_deep_body cp rec A x1 = some (A', r)) : gKi l yX6_deep cX6_deep 3 (some .int) ((3 + 1 * fu + 1)) D g N ad ln A [gr 183, gi x1] A' r := by
  refine g_meti (by decide) (Nat.le_of_ble_eq_true rfl) ?_
  intro p e s m args below meth c C hr
  refine g_sub [0, 1] rfl ?_
  exact wX6_deep_b0 hN hcp hrec C hr h
set_option maxHeartbeats 2000000 in
set_option maxRecDepth 20000 in
theorem kX6_deep {l : Launch} {D : va_G} {g : gT} {N : Nat} {ad ln : Nat → Nat} (hN : 193 ≤ N) {cp : Nat} (hcp : g_cap ln cp) : ∀ (f : Nat) {A A' : gM} {x1 : Int32} {r : Int32}, mX6_deep cp f A x1 = some (A', r) → gKi l yX6_deep cX6_deep 3 (some .int) (3 + 1 * f) D g N ad ln A [gr 183, gi x1] A' r
  | 0, A, A', x1, r, h => by cases h
  | f + 1, A, A', x1, r, h => kX6_deep_body hN hcp (fun h => kX6_deep hN hcp f h) h
def mX6_depth_b38 (cp : Nat) (rec : gM → Int32 → Option (gM × Int32)) (K4 : gM → Int32 → Int32 → Int32 → Option (gM × Int32)) (A : gM) (x1 : Int32) (x2 : Int32) (x3 : Int32) : Option (gM × Int32) :=
  g_let (x3 + 1) fun v1 =>
  K4 A x1 x2 v1
def mX6_depth_b4 (cp : Nat) (rec : gM → Int32 → Option (gM × Int32)) (K4 : gM → Int32 → Int32 → Int32 → Option (gM × Int32)) (A : gM) (x1 : Int32) (x2 : Int32) (x3 : Int32) : Option (gM × Int32) :=
  if 3 ≤ x3 then
  some (A, (x2 + 1))
  else
  (mX6_pa cp A x1 (1 + x3)).bind fun q2 =>
  if q2.2 = (-1) then
  mX6_depth_b38 cp rec K4 q2.1 x1 x2 x3
  else
  (mX6_pa cp q2.1 x1 (1 + x3)).bind fun q4 =>
  (rec q4.1 q4.2).bind fun q5 =>
  g_let (if x2 < q5.2 then q5.2 else x2) fun v6 =>
  mX6_depth_b38 cp rec K4 q5.1 x1 v6 x3
def mX6_depth_L4 (cp : Nat) (rec : gM → Int32 → Option (gM × Int32)) : Nat → gM → Int32 → Int32 → Int32 → Option (gM × Int32)
  | 0 => fun _ _ _ _ => none
  | f + 1 => mX6_depth_b4 cp rec (mX6_depth_L4 cp rec f)
def mX6_depth_b0 (cp : Nat) (rec : gM → Int32 → Option (gM × Int32)) (A : gM) (x1 : Int32) : Option (gM × Int32) :=
  mX6_depth_L4 cp rec gF A x1 0 0
def mX6_depth_body (cp : Nat) (rec : gM → Int32 → Option (gM × Int32)) (A : gM) (x1 : Int32) : Option (gM × Int32) := mX6_depth_b0 cp rec A x1
def mX6_depth (cp : Nat) : Nat → gM → Int32 → Option (gM × Int32)
  | 0 => fun _ _ => none
  | f + 1 => mX6_depth_body cp (mX6_depth cp f)
set_option maxHeartbeats 2000000 in
set_option maxRecDepth 20000 in
theorem wX6_depth_b38 (hN : 193 ≤ N) {cp : Nat} (hcp : g_cap ln cp) {rec : gM → Int32 → Option (gM × Int32)} {fu : Nat} (hrec : ∀ {A A' : gM} {x1 : Int32} {r : Int32}, rec A x1 = some (A', r) → gKi l yX6_depth cX6_depth 4 (some .int) (3 + 1 * fu) D g N ad ln A [gr 183, gi x1] A' r) {A0 A' : gM} {r : Int32} (C : gC p R s m args meth c cX6_depth RX6 4 D g (va_A (gw g ad ln A0 N) s.heap.size) (3 + 1 * fu + 1)) (hr : meth.sig.returnType = some .int) {K4 : gM → Int32 → Int32 → Int32 → Option (gM × Int32)} (hK4 : ∀ {A : gM} {x1 : Int32} {x2 : Int32} {x3 : Int32}, K4 A x1 x2 x3 = some (A', r) → gJ p l e R s m args below meth c (gEi below D g N ad ln A0 A' r args s) 4 D g (va_A (gw g ad ln A0 N) s.heap.size) N ad ln A [(0, gr 183), (1, gi x1), (2, gi x2), (3, gi x3)] 0 0 4 []) {A : gM} {x1 : Int32} {x2 : Int32} {x3 : Int32} (h : mX6_depth_b38 cp rec K4 A x1 x2 x3 = some (A', r)) : gJ p l e R s m args below meth c (gEi below D g N ad ln A0 A' r args s) 4 D g (va_A (gw g ad ln A0 N) s.heap.size) N ad ln A [(0, gr 183), (1, gi x1), (2, gi x2), (3, gi x3)] 0 0 38 [] := by
  unfold mX6_depth_b38 at h
  obtain ⟨v1, ev1, h⟩ := g_lt h
  refine g_iinc C 3 dX6_depth_38 rfl ev1 (by decide) rfl ?_
  refine g_goto C dX6_depth_41 (tgt := 4) (by decide) ?_
  refine g_sub [1, 2, 3, 0] rfl ?_
  exact hK4 h

set_option maxHeartbeats 2000000 in
set_option maxRecDepth 20000 in
theorem wX6_depth_b4 (hN : 193 ≤ N) {cp : Nat} (hcp : g_cap ln cp) {rec : gM → Int32 → Option (gM × Int32)} {fu : Nat} (hrec : ∀ {A A' : gM} {x1 : Int32} {r : Int32}, rec A x1 = some (A', r) → gKi l yX6_depth cX6_depth 4 (some .int) (3 + 1 * fu) D g N ad ln A [gr 183, gi x1] A' r) {A0 A' : gM} {r : Int32} (C : gC p R s m args meth c cX6_depth RX6 4 D g (va_A (gw g ad ln A0 N) s.heap.size) (3 + 1 * fu + 1)) (hr : meth.sig.returnType = some .int) {K4 : gM → Int32 → Int32 → Int32 → Option (gM × Int32)} (hK4 : ∀ {A : gM} {x1 : Int32} {x2 : Int32} {x3 : Int32}, K4 A x1 x2 x3 = some (A', r) → gJ p l e R s m args below meth c (gEi below D g N ad ln A0 A' r args s) 4 D g (va_A (gw g ad ln A0 N) s.heap.size) N ad ln A [(0, gr 183), (1, gi x1), (2, gi x2), (3, gi x3)] 0 0 4 []) {A : gM} {x1 : Int32} {x2 : Int32} {x3 : Int32} (h : mX6_depth_b4 cp rec K4 A x1 x2 x3 = some (A', r)) : gJ p l e R s m args below meth c (gEi below D g N ad ln A0 A' r args s) 4 D g (va_A (gw g ad ln A0 N) s.heap.size) N ad ln A [(0, gr 183), (1, gi x1), (2, gi x2), (3, gi x3)] 0 0 4 [] := by
  unfold mX6_depth_b4 at h
  refine g_iload_n C 3 dX6_depth_4 rfl ?_
  refine g_iconst (v := 3) C dX6_depth_5 (by decide) ?_
  refine g_icmp_ge C dX6_depth_6 (tgt := 44) (by decide) (fun c1 => ?_) (fun c1 => ?_)
  · have h := g_tt c1 h
    refine g_iload_n C 2 dX6_depth_44 rfl ?_
    refine g_iconst (v := 1) C dX6_depth_45 (by decide) ?_
    refine g_iadd C dX6_depth_46 ?_
    obtain ⟨rfl, rfl⟩ := Prod.mk.inj (Option.some.inj h)
    exact g_reti C hr dX6_depth_47
  · have h := g_ff c1 h
    refine g_aload_n C 0 dX6_depth_9 rfl ?_
    refine g_iload_n C 1 dX6_depth_10 rfl ?_
    refine g_iconst (v := 1) C dX6_depth_11 (by decide) ?_
    refine g_iload_n C 3 dX6_depth_12 rfl ?_
    refine g_iadd C dX6_depth_13 ?_
    obtain ⟨q2, eq2, h⟩ := g_bd h
    refine g_calliV C 183 [gi x1, gi (1 + x3)] (kX6_pa hN hcp eq2) qs_X6_46 (by omega) (by omega) rfl rfl rfl rfl (Nat.le_of_ble_eq_true rfl) ⟨Nat.zero_le _, Nat.zero_le _⟩ dX6_depth_14 ?_
    refine g_iconst (v := (-1)) C dX6_depth_17 (by decide) ?_
    refine g_icmp_eq C dX6_depth_18 (tgt := 38) (by decide) (fun c3 => ?_) (fun c3 => ?_)
    · have h := g_tt c3 h
      refine g_sub [0, 1, 2, 3] rfl ?_
      exact wX6_depth_b38 hN hcp hrec C hr hK4 h
    · have h := g_ff c3 h
      refine g_iload_n C 2 dX6_depth_21 rfl ?_
      refine g_aload_n C 0 dX6_depth_22 rfl ?_
      refine g_aload_n C 0 dX6_depth_23 rfl ?_
      refine g_iload_n C 1 dX6_depth_24 rfl ?_
      refine g_iconst (v := 1) C dX6_depth_25 (by decide) ?_
      refine g_iload_n C 3 dX6_depth_26 rfl ?_
      refine g_iadd C dX6_depth_27 ?_
      obtain ⟨q4, eq4, h⟩ := g_bd h
      refine g_calliV C 183 [gi x1, gi (1 + x3)] (kX6_pa hN hcp eq4) qs_X6_46 (by omega) (by omega) rfl rfl rfl rfl (Nat.le_of_ble_eq_true rfl) ⟨Nat.zero_le _, Nat.zero_le _⟩ dX6_depth_28 ?_
      obtain ⟨q5, eq5, h⟩ := g_bd h
      refine g_calliV C 183 [gi q4.2] (hrec eq5) qs_X6_182 (by omega) (by omega) rfl rfl rfl rfl (Nat.le_of_ble_eq_true rfl) ⟨Nat.zero_le _, Nat.zero_le _⟩ dX6_depth_31 ?_
      refine g_mmax C qm_X6_179 (by omega) (Nat.le_of_ble_eq_true rfl) ⟨Nat.zero_le _, Nat.zero_le _⟩ dX6_depth_34 ?_
      obtain ⟨v6, ev6, h⟩ := g_lt h
      refine g_topi ev6 ?_
      refine g_istore_n C dX6_depth_37 (by decide) rfl ?_
      refine g_sub [1, 2, 0, 3] rfl ?_
      exact wX6_depth_b38 hN hcp hrec C hr hK4 h

set_option maxHeartbeats 2000000 in
set_option maxRecDepth 20000 in
theorem wX6_depth_L4 (hN : 193 ≤ N) {cp : Nat} (hcp : g_cap ln cp) {rec : gM → Int32 → Option (gM × Int32)} {fu : Nat} (hrec : ∀ {A A' : gM} {x1 : Int32} {r : Int32}, rec A x1 = some (A', r) → gKi l yX6_depth cX6_depth 4 (some .int) (3 + 1 * fu) D g N ad ln A [gr 183, gi x1] A' r) {A0 A' : gM} {r : Int32} (C : gC p R s m args meth c cX6_depth RX6 4 D g (va_A (gw g ad ln A0 N) s.heap.size) (3 + 1 * fu + 1)) (hr : meth.sig.returnType = some .int)  : ∀ (f : Nat) {A : gM} {x1 : Int32} {x2 : Int32} {x3 : Int32}, mX6_depth_L4 cp rec f A x1 x2 x3 = some (A', r) → gJ p l e R s m args below meth c (gEi below D g N ad ln A0 A' r args s) 4 D g (va_A (gw g ad ln A0 N) s.heap.size) N ad ln A [(0, gr 183), (1, gi x1), (2, gi x2), (3, gi x3)] 0 0 4 []
  | 0, A, x1, x2, x3, h => by cases h
  | f + 1, A, x1, x2, x3, h => wX6_depth_b4 hN hcp hrec C hr (fun {A} {x1} {x2} {x3} h => wX6_depth_L4 hN hcp hrec C hr f h) h
set_option maxHeartbeats 2000000 in
set_option maxRecDepth 20000 in
theorem wX6_depth_b0 (hN : 193 ≤ N) {cp : Nat} (hcp : g_cap ln cp) {rec : gM → Int32 → Option (gM × Int32)} {fu : Nat} (hrec : ∀ {A A' : gM} {x1 : Int32} {r : Int32}, rec A x1 = some (A', r) → gKi l yX6_depth cX6_depth 4 (some .int) (3 + 1 * fu) D g N ad ln A [gr 183, gi x1] A' r) {A0 A' : gM} {r : Int32} (C : gC p R s m args meth c cX6_depth RX6 4 D g (va_A (gw g ad ln A0 N) s.heap.size) (3 + 1 * fu + 1)) (hr : meth.sig.returnType = some .int)  {A : gM} {x1 : Int32} (h : mX6_depth_b0 cp rec A x1 = some (A', r)) : gJ p l e R s m args below meth c (gEi below D g N ad ln A0 A' r args s) 4 D g (va_A (gw g ad ln A0 N) s.heap.size) N ad ln A [(0, gr 183), (1, gi x1)] 0 0 0 [] := by
  unfold mX6_depth_b0 at h
  refine g_iconst (v := 0) C dX6_depth_0 (by decide) ?_
  refine g_istore_n C dX6_depth_1 (by decide) rfl ?_
  refine g_iconst (v := 0) C dX6_depth_2 (by decide) ?_
  refine g_istore_n C dX6_depth_3 (by decide) rfl ?_
  refine g_sub [2, 3, 1, 0] rfl ?_
  exact wX6_depth_L4 hN hcp hrec C hr gF h

set_option maxHeartbeats 2000000 in
set_option maxRecDepth 20000 in
theorem kX6_depth_body {l : Launch} {D : va_G} {g : gT} {N : Nat} {ad ln : Nat → Nat} (hN : 193 ≤ N) {cp : Nat} (hcp : g_cap ln cp) {rec : gM → Int32 → Option (gM × Int32)} {fu : Nat} (hrec : ∀ {A A' : gM} {x1 : Int32} {r : Int32}, rec A x1 = some (A', r) → gKi l yX6_depth cX6_depth 4 (some .int) (3 + 1 * fu) D g N ad ln A [gr 183, gi x1] A' r) {A A' : gM} {x1 : Int32} {r : Int32} (h : mX6_depth_body cp rec A x1 = some (A', r)) : gKi l yX6_depth cX6_depth 4 (some .int) ((3 + 1 * fu + 1)) D g N ad ln A [gr 183, gi x1] A' r := by
  refine g_meti (by decide) (Nat.le_of_ble_eq_true rfl) ?_
  intro p e s m args below meth c C hr
  refine g_sub [0, 1] rfl ?_
  exact wX6_depth_b0 hN hcp hrec C hr h
set_option maxHeartbeats 2000000 in
set_option maxRecDepth 20000 in
theorem kX6_depth {l : Launch} {D : va_G} {g : gT} {N : Nat} {ad ln : Nat → Nat} (hN : 193 ≤ N) {cp : Nat} (hcp : g_cap ln cp) : ∀ (f : Nat) {A A' : gM} {x1 : Int32} {r : Int32}, mX6_depth cp f A x1 = some (A', r) → gKi l yX6_depth cX6_depth 4 (some .int) (3 + 1 * f) D g N ad ln A [gr 183, gi x1] A' r
  | 0, A, A', x1, r, h => by cases h
  | f + 1, A, A', x1, r, h => kX6_depth_body hN hcp (fun h => kX6_depth hN hcp f h) h
def mX6_behind_b31 (cp : Nat) (rec : gM → Nat → Nat → Int32 → Option (gM × Int32)) (A : gM) (s0 : Int32) : Option (gM × Int32) :=
  some (A, s0)
def mX6_behind_b14 (cp : Nat) (rec : gM → Nat → Nat → Int32 → Option (gM × Int32)) (A : gM) (x0 : Nat) (wx0 : Nat) (x1 : Int32) : Option (gM × Int32) :=
  (rec A x0 wx0 (x1 + 1)).bind fun q1 =>
  (rec q1.1 x0 wx0 q1.2).bind fun q2 =>
  mX6_behind_b31 cp rec q2.1 q2.2
def mX6_behind_b0 (cp : Nat) (rec : gM → Nat → Nat → Int32 → Option (gM × Int32)) (A : gM) (x0 : Nat) (wx0 : Nat) (x1 : Int32) : Option (gM × Int32) :=
  if g_in x1 wx0 = true then
  if (A x0 x1.toNatClampNeg) = 2 then
  mX6_behind_b14 cp rec A x0 wx0 x1
  else
  if g_in x1 wx0 = true then
  if (A x0 x1.toNatClampNeg) = 3 then
  mX6_behind_b14 cp rec A x0 wx0 x1
  else
  mX6_behind_b31 cp rec A (x1 + 1)
  else none
  else none
def mX6_behind_body (cp : Nat) (rec : gM → Nat → Nat → Int32 → Option (gM × Int32)) (A : gM) (x0 : Nat) (wx0 : Nat) (x1 : Int32) : Option (gM × Int32) := mX6_behind_b0 cp rec A x0 wx0 x1
def mX6_behind (cp : Nat) : Nat → gM → Nat → Nat → Int32 → Option (gM × Int32)
  | 0 => fun _ _ _ _ => none
  | f + 1 => mX6_behind_body cp (mX6_behind cp f)
set_option maxHeartbeats 2000000 in
set_option maxRecDepth 20000 in
theorem wX6_behind_b31 (hN : 193 ≤ N) {cp : Nat} (hcp : g_cap ln cp) {rec : gM → Nat → Nat → Int32 → Option (gM × Int32)} {fu : Nat} (hrec : ∀ {A A' : gM} {x0 : Nat} {wx0 : Nat} {x1 : Int32} {r : Int32} (_ : (x0 < N ∧ g_isI x0 = true ∧ g_ln ln x0 = wx0)), rec A x0 wx0 x1 = some (A', r) → gKi l yX6_behind cX6_behind 2 (some .int) (3 + 1 * fu) D g N ad ln A [gr x0, gi x1] A' r) {A0 A' : gM} {r : Int32} (C : gC p R s m args meth c cX6_behind RX6 2 D g (va_A (gw g ad ln A0 N) s.heap.size) (3 + 1 * fu + 1)) (hr : meth.sig.returnType = some .int)  {A : gM} {s0 : Int32} (h : mX6_behind_b31 cp rec A s0 = some (A', r)) : gJ p l e R s m args below meth c (gEi below D g N ad ln A0 A' r args s) 2 D g (va_A (gw g ad ln A0 N) s.heap.size) N ad ln A [] 0 0 31 [gi s0] := by
  unfold mX6_behind_b31 at h
  obtain ⟨rfl, rfl⟩ := Prod.mk.inj (Option.some.inj h)
  exact g_reti C hr dX6_behind_31

set_option maxHeartbeats 2000000 in
set_option maxRecDepth 20000 in
theorem wX6_behind_b14 (hN : 193 ≤ N) {cp : Nat} (hcp : g_cap ln cp) {rec : gM → Nat → Nat → Int32 → Option (gM × Int32)} {fu : Nat} (hrec : ∀ {A A' : gM} {x0 : Nat} {wx0 : Nat} {x1 : Int32} {r : Int32} (_ : (x0 < N ∧ g_isI x0 = true ∧ g_ln ln x0 = wx0)), rec A x0 wx0 x1 = some (A', r) → gKi l yX6_behind cX6_behind 2 (some .int) (3 + 1 * fu) D g N ad ln A [gr x0, gi x1] A' r) {A0 A' : gM} {r : Int32} (C : gC p R s m args meth c cX6_behind RX6 2 D g (va_A (gw g ad ln A0 N) s.heap.size) (3 + 1 * fu + 1)) (hr : meth.sig.returnType = some .int)  {A : gM} {x0 : Nat} {wx0 : Nat} {x1 : Int32} (hwx0 : (x0 < N ∧ g_isI x0 = true ∧ g_ln ln x0 = wx0)) (h : mX6_behind_b14 cp rec A x0 wx0 x1 = some (A', r)) : gJ p l e R s m args below meth c (gEi below D g N ad ln A0 A' r args s) 2 D g (va_A (gw g ad ln A0 N) s.heap.size) N ad ln A [(0, gr x0), (1, gi x1)] 0 0 14 [] := by
  unfold mX6_behind_b14 at h
  refine g_aload_n C 0 dX6_behind_14 rfl ?_
  refine g_aload_n C 0 dX6_behind_15 rfl ?_
  refine g_iload_n C 1 dX6_behind_16 rfl ?_
  refine g_iconst (v := 1) C dX6_behind_17 (by decide) ?_
  refine g_iadd C dX6_behind_18 ?_
  obtain ⟨q1, eq1, h⟩ := g_bd h
  refine g_calliS C [gr x0, gi (x1 + 1)] (hrec ⟨hwx0.1, hwx0.2.1, hwx0.2.2⟩ eq1) qs_X6_198 (by omega) rfl rfl (Nat.le_of_ble_eq_true rfl) ⟨Nat.zero_le _, Nat.zero_le _⟩ dX6_behind_19 ?_
  obtain ⟨q2, eq2, h⟩ := g_bd h
  refine g_calliS C [gr x0, gi q1.2] (hrec ⟨hwx0.1, hwx0.2.1, hwx0.2.2⟩ eq2) qs_X6_198 (by omega) rfl rfl (Nat.le_of_ble_eq_true rfl) ⟨Nat.zero_le _, Nat.zero_le _⟩ dX6_behind_22 ?_
  refine g_goto C dX6_behind_25 (tgt := 31) (by decide) ?_
  refine g_sub [] rfl ?_
  exact wX6_behind_b31 hN hcp hrec C hr h

set_option maxHeartbeats 2000000 in
set_option maxRecDepth 20000 in
theorem wX6_behind_b0 (hN : 193 ≤ N) {cp : Nat} (hcp : g_cap ln cp) {rec : gM → Nat → Nat → Int32 → Option (gM × Int32)} {fu : Nat} (hrec : ∀ {A A' : gM} {x0 : Nat} {wx0 : Nat} {x1 : Int32} {r : Int32} (_ : (x0 < N ∧ g_isI x0 = true ∧ g_ln ln x0 = wx0)), rec A x0 wx0 x1 = some (A', r) → gKi l yX6_behind cX6_behind 2 (some .int) (3 + 1 * fu) D g N ad ln A [gr x0, gi x1] A' r) {A0 A' : gM} {r : Int32} (C : gC p R s m args meth c cX6_behind RX6 2 D g (va_A (gw g ad ln A0 N) s.heap.size) (3 + 1 * fu + 1)) (hr : meth.sig.returnType = some .int)  {A : gM} {x0 : Nat} {wx0 : Nat} {x1 : Int32} (hwx0 : (x0 < N ∧ g_isI x0 = true ∧ g_ln ln x0 = wx0)) (h : mX6_behind_b0 cp rec A x0 wx0 x1 = some (A', r)) : gJ p l e R s m args below meth c (gEi below D g N ad ln A0 A' r args s) 2 D g (va_A (gw g ad ln A0 N) s.heap.size) N ad ln A [(0, gr x0), (1, gi x1)] 0 0 0 [] := by
  unfold mX6_behind_b0 at h
  refine g_aload_n C 0 dX6_behind_0 rfl ?_
  refine g_iload_n C 1 dX6_behind_1 rfl ?_
  obtain ⟨hg1, h⟩ := g_gd h
  refine g_iald C x0 hwx0.1 hwx0.2.1 hwx0.2.2 hg1 dX6_behind_2 ?_
  refine g_iconst (v := 2) C dX6_behind_3 (by decide) ?_
  refine g_icmp_eq C dX6_behind_4 (tgt := 14) (by decide) (fun c2 => ?_) (fun c2 => ?_)
  · have h := g_tt c2 h
    refine g_sub [0, 1] rfl ?_
    exact wX6_behind_b14 hN hcp hrec C hr ⟨hwx0.1, hwx0.2.1, hwx0.2.2⟩ h
  · have h := g_ff c2 h
    refine g_aload_n C 0 dX6_behind_7 rfl ?_
    refine g_iload_n C 1 dX6_behind_8 rfl ?_
    obtain ⟨hg3, h⟩ := g_gd h
    refine g_iald C x0 hwx0.1 hwx0.2.1 hwx0.2.2 hg3 dX6_behind_9 ?_
    refine g_iconst (v := 3) C dX6_behind_10 (by decide) ?_
    refine g_icmp_ne C dX6_behind_11 (tgt := 28) (by decide) (fun c4 => ?_) (fun c4 => ?_)
    · have h := g_ff c4 h
      refine g_iload_n C 1 dX6_behind_28 rfl ?_
      refine g_iconst (v := 1) C dX6_behind_29 (by decide) ?_
      refine g_iadd C dX6_behind_30 ?_
      refine g_sub [] rfl ?_
      exact wX6_behind_b31 hN hcp hrec C hr h
    · have h := g_tt c4 h
      refine g_sub [0, 1] rfl ?_
      exact wX6_behind_b14 hN hcp hrec C hr ⟨hwx0.1, hwx0.2.1, hwx0.2.2⟩ h

set_option maxHeartbeats 2000000 in
set_option maxRecDepth 20000 in
theorem kX6_behind_body {l : Launch} {D : va_G} {g : gT} {N : Nat} {ad ln : Nat → Nat} (hN : 193 ≤ N) {cp : Nat} (hcp : g_cap ln cp) {rec : gM → Nat → Nat → Int32 → Option (gM × Int32)} {fu : Nat} (hrec : ∀ {A A' : gM} {x0 : Nat} {wx0 : Nat} {x1 : Int32} {r : Int32} (_ : (x0 < N ∧ g_isI x0 = true ∧ g_ln ln x0 = wx0)), rec A x0 wx0 x1 = some (A', r) → gKi l yX6_behind cX6_behind 2 (some .int) (3 + 1 * fu) D g N ad ln A [gr x0, gi x1] A' r) {A A' : gM} {x0 : Nat} {wx0 : Nat} {x1 : Int32} {r : Int32} (hwx0 : (x0 < N ∧ g_isI x0 = true ∧ g_ln ln x0 = wx0)) (h : mX6_behind_body cp rec A x0 wx0 x1 = some (A', r)) : gKi l yX6_behind cX6_behind 2 (some .int) ((3 + 1 * fu + 1)) D g N ad ln A [gr x0, gi x1] A' r := by
  refine g_meti (by decide) (Nat.le_of_ble_eq_true rfl) ?_
  intro p e s m args below meth c C hr
  refine g_sub [0, 1] rfl ?_
  exact wX6_behind_b0 hN hcp hrec C hr hwx0 h
set_option maxHeartbeats 2000000 in
set_option maxRecDepth 20000 in
theorem kX6_behind {l : Launch} {D : va_G} {g : gT} {N : Nat} {ad ln : Nat → Nat} (hN : 193 ≤ N) {cp : Nat} (hcp : g_cap ln cp) : ∀ (f : Nat) {A A' : gM} {x0 : Nat} {wx0 : Nat} {x1 : Int32} {r : Int32} (_ : (x0 < N ∧ g_isI x0 = true ∧ g_ln ln x0 = wx0)), mX6_behind cp f A x0 wx0 x1 = some (A', r) → gKi l yX6_behind cX6_behind 2 (some .int) (3 + 1 * f) D g N ad ln A [gr x0, gi x1] A' r
  | 0, A, A', x0, wx0, x1, r, hwx0, h => by cases h
  | f + 1, A, A', x0, wx0, x1, r, hwx0, h => kX6_behind_body hN hcp (fun hwx0 h => kX6_behind hN hcp f hwx0 h) hwx0 h
def mX6_partTold_b20 (cp : Nat) (A : gM) (s0 : Int32) : Option (gM × Int32) :=
  some (A, s0)
def mX6_partTold_b0 (cp : Nat) (A : gM) (x1 : Int32) (x2 : Int32) : Option (gM × Int32) :=
  if 6 ≤ x2 then
  (mX6_depth cp 45 A x1).bind fun q2 =>
  mX6_partTold_b20 cp q2.1 q2.2
  else
  (mX6_pa cp A x1 x2).bind fun q3 =>
  mX6_partTold_b20 cp q3.1 q3.2
def mX6_partTold (cp : Nat) (A : gM) (x1 : Int32) (x2 : Int32) : Option (gM × Int32) := mX6_partTold_b0 cp A x1 x2
set_option maxHeartbeats 2000000 in
set_option maxRecDepth 20000 in
theorem wX6_partTold_b20 (hN : 193 ≤ N) {cp : Nat} (hcp : g_cap ln cp) {A0 A' : gM} {r : Int32} (C : gC p R s m args meth c cX6_partTold RX6 3 D g (va_A (gw g ad ln A0 N) s.heap.size) 49) (hr : meth.sig.returnType = some .int)  {A : gM} {s0 : Int32} (h : mX6_partTold_b20 cp A s0 = some (A', r)) : gJ p l e R s m args below meth c (gEi below D g N ad ln A0 A' r args s) 3 D g (va_A (gw g ad ln A0 N) s.heap.size) N ad ln A [] 0 0 20 [gi s0] := by
  unfold mX6_partTold_b20 at h
  obtain ⟨rfl, rfl⟩ := Prod.mk.inj (Option.some.inj h)
  exact g_reti C hr dX6_partTold_20

set_option maxHeartbeats 2000000 in
set_option maxRecDepth 20000 in
theorem wX6_partTold_b0 (hN : 193 ≤ N) {cp : Nat} (hcp : g_cap ln cp) {A0 A' : gM} {r : Int32} (C : gC p R s m args meth c cX6_partTold RX6 3 D g (va_A (gw g ad ln A0 N) s.heap.size) 49) (hr : meth.sig.returnType = some .int)  {A : gM} {x1 : Int32} {x2 : Int32} (h : mX6_partTold_b0 cp A x1 x2 = some (A', r)) : gJ p l e R s m args below meth c (gEi below D g N ad ln A0 A' r args s) 3 D g (va_A (gw g ad ln A0 N) s.heap.size) N ad ln A [(0, gr 183), (1, gi x1), (2, gi x2)] 0 0 0 [] := by
  unfold mX6_partTold_b0 at h
  refine g_iload_n C 2 dX6_partTold_0 rfl ?_
  refine g_bipush (v := 6) C dX6_partTold_1 (by decide) ?_
  refine g_icmp_ge C dX6_partTold_3 (tgt := 15) (by decide) (fun c1 => ?_) (fun c1 => ?_)
  · have h := g_tt c1 h
    refine g_aload_n C 0 dX6_partTold_15 rfl ?_
    refine g_iload_n C 1 dX6_partTold_16 rfl ?_
    obtain ⟨q2, eq2, h⟩ := g_bd h
    refine g_calliV C 183 [gi x1] (kX6_depth hN hcp 45 eq2) qs_X6_182 (by omega) (by omega) rfl rfl rfl rfl (Nat.le_of_ble_eq_true rfl) ⟨Nat.zero_le _, Nat.zero_le _⟩ dX6_partTold_17 ?_
    refine g_sub [] rfl ?_
    exact wX6_partTold_b20 hN hcp C hr h
  · have h := g_ff c1 h
    refine g_aload_n C 0 dX6_partTold_6 rfl ?_
    refine g_iload_n C 1 dX6_partTold_7 rfl ?_
    refine g_iload_n C 2 dX6_partTold_8 rfl ?_
    obtain ⟨q3, eq3, h⟩ := g_bd h
    refine g_calliV C 183 [gi x1, gi x2] (kX6_pa hN hcp eq3) qs_X6_46 (by omega) (by omega) rfl rfl rfl rfl (Nat.le_of_ble_eq_true rfl) ⟨Nat.zero_le _, Nat.zero_le _⟩ dX6_partTold_9 ?_
    refine g_goto C dX6_partTold_12 (tgt := 20) (by decide) ?_
    refine g_sub [] rfl ?_
    exact wX6_partTold_b20 hN hcp C hr h

set_option maxHeartbeats 2000000 in
set_option maxRecDepth 20000 in
theorem kX6_partTold {l : Launch} {D : va_G} {g : gT} {N : Nat} {ad ln : Nat → Nat} (hN : 193 ≤ N) {cp : Nat} (hcp : g_cap ln cp) {A A' : gM} {x1 : Int32} {x2 : Int32} {r : Int32} (h : mX6_partTold cp A x1 x2 = some (A', r)) : gKi l yX6_partTold cX6_partTold 3 (some .int) (49) D g N ad ln A [gr 183, gi x1, gi x2] A' r := by
  refine g_meti (by decide) (Nat.le_of_ble_eq_true rfl) ?_
  intro p e s m args below meth c C hr
  refine g_sub [0, 1, 2] rfl ?_
  exact wX6_partTold_b0 hN hcp C hr h
def mX6_part_b37 (cp : Nat) (A : gM) (s0 : Int32) : Option (gM × Int32) :=
  some (A, s0)
def mX6_part_b32 (cp : Nat) (A : gM) : Option (gM × Int32) :=
  (mX6_fail cp A 1).bind fun q1 =>
  mX6_part_b37 cp q1.1 q1.2
def mX6_part_b0 (cp : Nat) (A : gM) (x1 : Int32) (x2 : Int32) : Option (gM × Int32) :=
  g_let (g_up A 183 0 0) fun A1 =>
  (mX6_isPart cp A1 x1).bind fun q2 =>
  if q2.2 = 0 then
  mX6_part_b32 cp q2.1
  else
  (mX6_isIn cp q2.1 x2 0 6).bind fun q4 =>
  if q4.2 = 0 then
  mX6_part_b32 cp q4.1
  else
  (mX6_partTold cp q4.1 x1 x2).bind fun q6 =>
  mX6_part_b37 cp q6.1 q6.2
def mX6_part (cp : Nat) (A : gM) (x1 : Int32) (x2 : Int32) : Option (gM × Int32) := mX6_part_b0 cp A x1 x2
set_option maxHeartbeats 2000000 in
set_option maxRecDepth 20000 in
theorem wX6_part_b37 (hN : 193 ≤ N) {cp : Nat} (hcp : g_cap ln cp) {A0 A' : gM} {r : Int32} (C : gC p R s m args meth c cX6_part RX6 3 D g (va_A (gw g ad ln A0 N) s.heap.size) 50) (hr : meth.sig.returnType = some .int)  {A : gM} {s0 : Int32} (h : mX6_part_b37 cp A s0 = some (A', r)) : gJ p l e R s m args below meth c (gEi below D g N ad ln A0 A' r args s) 3 D g (va_A (gw g ad ln A0 N) s.heap.size) N ad ln A [] 0 0 37 [gi s0] := by
  unfold mX6_part_b37 at h
  obtain ⟨rfl, rfl⟩ := Prod.mk.inj (Option.some.inj h)
  exact g_reti C hr dX6_part_37

set_option maxHeartbeats 2000000 in
set_option maxRecDepth 20000 in
theorem wX6_part_b32 (hN : 193 ≤ N) {cp : Nat} (hcp : g_cap ln cp) {A0 A' : gM} {r : Int32} (C : gC p R s m args meth c cX6_part RX6 3 D g (va_A (gw g ad ln A0 N) s.heap.size) 50) (hr : meth.sig.returnType = some .int)  {A : gM} (h : mX6_part_b32 cp A = some (A', r)) : gJ p l e R s m args below meth c (gEi below D g N ad ln A0 A' r args s) 3 D g (va_A (gw g ad ln A0 N) s.heap.size) N ad ln A [(0, gr 183)] 0 0 32 [] := by
  unfold mX6_part_b32 at h
  refine g_aload_n C 0 dX6_part_32 rfl ?_
  refine g_iconst (v := 1) C dX6_part_33 (by decide) ?_
  obtain ⟨q1, eq1, h⟩ := g_bd h
  refine g_calliV C 183 [gi 1] (kX6_fail hN hcp eq1) qs_X6_60 (by omega) (by omega) rfl rfl rfl rfl (Nat.le_of_ble_eq_true rfl) ⟨Nat.zero_le _, Nat.zero_le _⟩ dX6_part_34 ?_
  refine g_sub [] rfl ?_
  exact wX6_part_b37 hN hcp C hr h

set_option maxHeartbeats 2000000 in
set_option maxRecDepth 20000 in
theorem wX6_part_b0 (hN : 193 ≤ N) {cp : Nat} (hcp : g_cap ln cp) {A0 A' : gM} {r : Int32} (C : gC p R s m args meth c cX6_part RX6 3 D g (va_A (gw g ad ln A0 N) s.heap.size) 50) (hr : meth.sig.returnType = some .int)  {A : gM} {x1 : Int32} {x2 : Int32} (h : mX6_part_b0 cp A x1 x2 = some (A', r)) : gJ p l e R s m args below meth c (gEi below D g N ad ln A0 A' r args s) 3 D g (va_A (gw g ad ln A0 N) s.heap.size) N ad ln A [(0, gr 183), (1, gi x1), (2, gi x2)] 0 0 0 [] := by
  unfold mX6_part_b0 at h
  refine g_aload_n C 0 dX6_part_0 rfl ?_
  refine g_iconst (v := 0) C dX6_part_1 (by decide) ?_
  obtain ⟨A1, eA1, h⟩ := g_lt h
  refine g_put C 183 0 tyX6 tyX6_ok nmX6 (by omega) rfl rfl gu_6 (by decide) qf_X6_35 rfl (by decide +kernel) (Nat.le_of_ble_eq_true rfl) rfl eA1 dX6_part_2 ?_
  refine g_aload_n C 0 dX6_part_5 rfl ?_
  refine g_iload_n C 1 dX6_part_6 rfl ?_
  obtain ⟨q2, eq2, h⟩ := g_bd h
  refine g_calliV C 183 [gi x1] (kX6_isPart hN hcp eq2) qs_X6_75 (by omega) (by omega) rfl rfl rfl rfl (Nat.le_of_ble_eq_true rfl) ⟨Nat.zero_le _, Nat.zero_le _⟩ dX6_part_7 ?_
  refine g_if_eq C dX6_part_10 (tgt := 32) (by decide) (fun c3 => ?_) (fun c3 => ?_)
  · have h := g_tt c3 h
    refine g_sub [0] rfl ?_
    exact wX6_part_b32 hN hcp C hr h
  · have h := g_ff c3 h
    refine g_iload_n C 2 dX6_part_13 rfl ?_
    refine g_iconst (v := 0) C dX6_part_14 (by decide) ?_
    refine g_bipush (v := 6) C dX6_part_15 (by decide) ?_
    obtain ⟨q4, eq4, h⟩ := g_bd h
    refine g_calliS C [gi x2, gi 0, gi 6] (kX6_isIn hN hcp eq4) qs_X6_42 (by omega) rfl rfl (Nat.le_of_ble_eq_true rfl) ⟨Nat.zero_le _, Nat.zero_le _⟩ dX6_part_17 ?_
    refine g_if_eq C dX6_part_20 (tgt := 32) (by decide) (fun c5 => ?_) (fun c5 => ?_)
    · have h := g_tt c5 h
      refine g_sub [0] rfl ?_
      exact wX6_part_b32 hN hcp C hr h
    · have h := g_ff c5 h
      refine g_aload_n C 0 dX6_part_23 rfl ?_
      refine g_iload_n C 1 dX6_part_24 rfl ?_
      refine g_iload_n C 2 dX6_part_25 rfl ?_
      obtain ⟨q6, eq6, h⟩ := g_bd h
      refine g_calliV C 183 [gi x1, gi x2] (kX6_partTold hN hcp eq6) qs_X6_185 (by omega) (by omega) rfl rfl rfl rfl (Nat.le_of_ble_eq_true rfl) ⟨Nat.zero_le _, Nat.zero_le _⟩ dX6_part_26 ?_
      refine g_goto C dX6_part_29 (tgt := 37) (by decide) ?_
      refine g_sub [] rfl ?_
      exact wX6_part_b37 hN hcp C hr h

set_option maxHeartbeats 2000000 in
set_option maxRecDepth 20000 in
theorem kX6_part {l : Launch} {D : va_G} {g : gT} {N : Nat} {ad ln : Nat → Nat} (hN : 193 ≤ N) {cp : Nat} (hcp : g_cap ln cp) {A A' : gM} {x1 : Int32} {x2 : Int32} {r : Int32} (h : mX6_part cp A x1 x2 = some (A', r)) : gKi l yX6_part cX6_part 3 (some .int) (50) D g N ad ln A [gr 183, gi x1, gi x2] A' r := by
  refine g_meti (by decide) (Nat.le_of_ble_eq_true rfl) ?_
  intro p e s m args below meth c C hr
  refine g_sub [0, 1, 2] rfl ?_
  exact wX6_part_b0 hN hcp C hr h
end M1
end
section
theorem qa_int : Cond.arrayClass .int ∈ gtb := g_tb (List.mem_of_getElem? (i := 111) (by decide +kernel)) (by decide +kernel)
theorem qa_boolean : Cond.arrayClass .boolean ∈ gtb := g_tb (List.mem_of_getElem? (i := 782) (by decide +kernel)) (by decide +kernel)
theorem qsC_X6_54 : g_siteC RX6 54 := ⟨g_tb (List.mem_of_getElem? (i := 814) (by decide +kernel)) (by decide +kernel), g_tb (List.mem_of_getElem? (i := 816) (by decide +kernel)) (by decide +kernel), g_tb (List.mem_of_getElem? (i := 815) (by decide +kernel)) (by decide +kernel), g_tb (List.mem_of_getElem? (i := 86) (by decide +kernel)) (by decide +kernel)⟩
theorem qf_X6_26 : Cond.fieldLink RX6 26 (TX6 8).1 (TX6 8).2.1 (TX6 8).2.2.1 ∈ gtb := g_tb (List.mem_of_getElem? (i := 747) (by decide +kernel)) (by decide +kernel)
theorem qf_X6_78 : Cond.fieldLink RX6 78 (TX6 3).1 (TX6 3).2.1 (TX6 3).2.2.1 ∈ gtb := g_tb (List.mem_of_getElem? (i := 742) (by decide +kernel)) (by decide +kernel)
theorem qs_X6_81 : g_siteS RX6 81 yX6_more cX6_more 2 (some (.array .int)) 1 := ⟨g_tb (List.mem_of_getElem? (i := 893) (by decide +kernel)) (by decide +kernel), g_tb (List.mem_of_getElem? (i := 894) (by decide +kernel)) (by decide +kernel), g_tb (List.mem_of_getElem? (i := 79) (by decide +kernel)) (by decide +kernel), g_tb (List.mem_of_getElem? (i := 895) (by decide +kernel)) (by decide +kernel), ⟨rfl, by decide, by decide, by decide +kernel⟩, by decide⟩
theorem dX6_more_0 : decode cX6_more 0 = .ok (.iconst 2, 1) := by decide +kernel
theorem dX6_more_1 : decode cX6_more 1 = .ok (.aload_n 0, 1) := by decide +kernel
theorem dX6_more_2 : decode cX6_more 2 = .ok (.arraylength, 1) := by decide +kernel
theorem dX6_more_3 : decode cX6_more 3 = .ok (.imul, 1) := by decide +kernel
theorem dX6_more_4 : decode cX6_more 4 = .ok (.newarray .int, 2) := by decide +kernel
theorem dX6_more_6 : decode cX6_more 6 = .ok (.astore_n 1, 1) := by decide +kernel
theorem dX6_more_7 : decode cX6_more 7 = .ok (.aload_n 0, 1) := by decide +kernel
theorem dX6_more_8 : decode cX6_more 8 = .ok (.iconst 0, 1) := by decide +kernel
theorem dX6_more_9 : decode cX6_more 9 = .ok (.aload_n 1, 1) := by decide +kernel
theorem dX6_more_10 : decode cX6_more 10 = .ok (.iconst 0, 1) := by decide +kernel
theorem dX6_more_11 : decode cX6_more 11 = .ok (.aload_n 0, 1) := by decide +kernel
theorem dX6_more_12 : decode cX6_more 12 = .ok (.arraylength, 1) := by decide +kernel
theorem dX6_more_13 : decode cX6_more 13 = .ok (.invokestatic 54, 3) := by decide +kernel
theorem dX6_more_16 : decode cX6_more 16 = .ok (.aload_n 1, 1) := by decide +kernel
theorem dX6_more_17 : decode cX6_more 17 = .ok (.areturn, 1) := by decide +kernel
/-- GearTypesModel.more(row): a new array of twice the places, the elder's in front -/
def g_Qn (D : va_G) (g : gT) (N : Nat) (ad ln : Nat → Nat) (A : gM) (sz : Nat) (A' : gM) (w : Nat) : Array Value → State → Outcome → State → Prop :=
  va_Qr (S := Nat) (fun _ => True) (fun q a t => a = q ∧ va_P D vwCl (gw g (va_up ad N q) (va_up ln N w) A' (N + 1)) t.heap ∧ va_K D vwCl (g_tys g) t ∧ va_D (va_A (gw g ad ln A N) sz) (gw g (va_up ad N q) (va_up ln N w) A' (N + 1))) (va_A (gw g ad ln A N) sz)
def g_dbl (A : gM) (i w : Nat) : Nat → Int32 := fun j => if j < w then A i j else 0
theorem g_dbl_cpy {A : gM} {N i w : Nat} (hi : i ≠ N) : g_row (g_row A N (fun _ => 0)) N (va_cpy ((g_row A N (fun _ => 0)) i) ((g_row A N (fun _ => 0)) N) (0 : Int32).toNatClampNeg (0 : Int32).toNatClampNeg w) = g_row A N (g_dbl A i w) := by
  funext a
  by_cases e : a = N
  · subst e
    rw [g_row_s, g_row_s, g_row_s, g_row_n hi]
    funext j
    show va_cpy (A i) (fun _ => 0) 0 0 w j = g_dbl A i w j
    unfold g_dbl
    by_cases q : j < w
    · rw [if_pos q, sb_cpy0 q]
    · rw [if_neg q, pk_cpy_out (Or.inr (by omega))]
  · rw [g_row_n e, g_row_n e, g_row_n e]
section GR
variable {p : Program} {l : Launch} {e : Env} {R : Room} {s : State} {m : MethodId} {args : Array Value} {below : List Frame} {meth : Method} {c : Code} {Q : State → Prop} {nL : Nat} {D : va_G} {g : gT} {As : Nat → Prop} {N : Nat} {ad ln ad0 ln0 : Nat → Nat} {A A' A1 A0 : gM} {loc loc' : List (Nat × gV)} {k n pc cp : Nat} {st : List gV} {cc : ByteArray} {own : String} {d : Nat}
theorem g_I2 {w : Nat} (h : w ≤ 40000) : ¬ (2 * Int32.ofNat w) < 0 ∧ (2 * Int32.ofNat w).toNatClampNeg = 2 * w ∧ ¬ (Int32.ofNat w) < 0 ∧ (Int32.ofNat w).toNatClampNeg = w := by
  have e : (2 : Int32) * Int32.ofNat w = nI (2 * w) := pk_mul 2 w
  rw [e]
  exact ⟨nI_pos (by omega), nI_clamp (by omega), nI_pos (n := w) (by omega), nI_clamp (n := w) (by omega)⟩
set_option maxHeartbeats 2000000 in
set_option maxRecDepth 20000 in
theorem k_more {l : Launch} {D : va_G} {g : gT} {N : Nat} (hN : 193 ≤ N) {ad ln : Nat → Nat} {A : gM} {x0 w : Nat} (hw : x0 < N ∧ g_isI x0 = true ∧ g_ln ln x0 = w) (h4 : w ≤ 40000) (sz : Nat) : Met l yX6_more (g_ws yX6_more cX6_more 2 (some (.array .int))) (g_rmx 2 1 (2 * w)) (g_pre D g N ad ln A sz [gr x0]) (g_Qn D g N ad ln A sz (g_row A N (g_dbl A x0 w)) (2 * w)) 1 (2 * w) (va_A (gw g ad ln A N) sz) := by
  obtain ⟨i1, i2, i3, i4⟩ := g_I2 h4
  refine Met.ofW (cc := cX6_more) (maxL := 2) (ret := some (.array .int)) (by decide) rfl ?_
  intro p e s m args below meth c s₁ B hml hv
  obtain ⟨rfl, hsz, hP, hK, hD0⟩ := hv
  subst hsz
  have hts := atoms_spec (ws := g_ws yX6_more cX6_more 2 (some (.array .int))) B.pre
  have hown : s.vm.findClass yX6_more.cls = some m.cls := findClass_of_methodNamed B.named
  have hl := lv_entry ([gr x0].map (g_v ad)) (n := 2) (Nat.le_of_ble_eq_true rfl)
  rw [lg_entry_eq]
  have C : gC p (g_rmx 2 1 (2 * w)) s m ([gr x0].map (g_v ad)).toArray meth c cX6_more yX6_more.cls 2 D g (va_A (gw g ad ln A N) s.heap.size) 2 := ⟨B.exec, B.bytes, hml, hown, fun w hw => hts w (List.mem_cons_of_mem _ hw), hK, fun q h => Or.inr h, B.notSynchronized, Nat.le_refl _, Nat.le_refl _⟩
  have hr := B.returns
  refine (?_ : gJ p l e (g_rmx 2 1 (2 * w)) s m ([gr x0].map (g_v ad)).toArray below meth c (MQ below (g_Qn D g N ad ln A s.heap.size (g_row A N (g_dbl A x0 w)) (2 * w)) ([gr x0].map (g_v ad)).toArray s 1 (2 * w) (va_A (gw g ad ln A N) s.heap.size)) 2 D g (va_A (gw g ad ln A N) s.heap.size) N ad ln A [(0, gr x0)] 0 0 0 []) s.heap [] _ hP hD0.self va_S.rf hl
  refine g_iconst (v := 2) C dX6_more_0 (by decide) ?_
  refine g_aload_n C 0 dX6_more_1 rfl ?_
  refine g_alen (v := Int32.ofNat w) C x0 hw.1 hw.2.1 (by rw [hw.2.2]) dX6_more_2 ?_
  refine g_imul C dX6_more_3 ?_
  refine g_newI C (N := N) (w := 2 * w) hN qa_int i1 i2 (by omega) ⟨Nat.le_refl _, by show 0 + 2 * w ≤ 2 * w; omega⟩ (by simp [g_rlt] <;> omega) trivial dX6_more_4 (fun q => ?_)
  have hw2 := g_len_new (w := 2 * w) (N := N) hw.1 hw.2.2
  refine g_astore_n C dX6_more_6 (by decide) rfl ?_
  refine g_aload_n C 1 dX6_more_7 rfl ?_
  refine g_iconst (v := 0) C dX6_more_8 (by decide) ?_
  refine g_aload_n C 0 dX6_more_9 rfl ?_
  refine g_iconst (v := 0) C dX6_more_10 (by decide) ?_
  refine g_aload_n C 1 dX6_more_11 rfl ?_
  refine g_alen (v := Int32.ofNat w) C x0 (by omega) hw.2.1 (by rw [hw2]) dX6_more_12 ?_
  refine g_copy C x0 N qsC_X6_54 (by omega) hw.2.1 hw2 (by omega) (g_isI_big hN) (g_len_made hN) (by decide) (by decide) i3 (by rw [i4]; exact Nat.le_of_eq (Nat.zero_add _)) (by rw [i4]; show 0 + w ≤ 2 * w; omega) (by omega) (Nat.le_of_ble_eq_true rfl) rfl dX6_more_13 ?_
  rw [i4, g_dbl_cpy (by omega)]
  refine g_aload_n C 0 dX6_more_16 rfl ?_
  intro H locs ls hP hD hS hl
  refine W.widen (k := 1) (n := 2 * w) (by omega) (by omega) ?_
  refine W.aret (v := .ref (va_up ad N q N)) C.1 C.2.1 hr (Or.inr ⟨_, rfl⟩) (Or.inr ⟨_, rfl⟩) (fun t ht hW => ⟨⟨q, va_up ad N q N, rfl, trivial, if_pos rfl, by rw [ht]; exact hP, va_K.moved hW.alike C.2.2.2.2.2.1, hD⟩, hS.F ht⟩) hS.2.2 dX6_more_17 C.2.2.2.2.2.2.2.1
/-- a call of more -/
theorem g_callMore (C : gC p R s m args meth c cc own nL D g As d) (x0 : Nat) {w ix : Nat} (hN : 193 ≤ N) (hw : x0 < N ∧ g_isI x0 = true ∧ g_ln ln x0 = w) (h4 : w ≤ 40000) (hs : g_siteS own ix yX6_more cX6_more 2 (some (.array .int)) 1) (hd : 3 ≤ d) (hcat : (st.map g_cat).sum ≤ 8) (hkn : k + 1 ≤ R.cells ∧ n + 2 * w ≤ R.slots) (hr : g_rlt N (loc.map Prod.snd)) (hr2 : g_rlt N st) (hdg : decode cc pc = .ok (.invokestatic ix, 3)) (kk : ∀ q : Nat, gJ p l e R s m args below meth c Q nL D g As (N + 1) (va_up ad N q) (va_up ln N (2 * w)) (g_row A N (g_dbl A x0 w)) loc (k + 1) (n + 2 * w) (pc + 3) (gr N :: st)) : gJ p l e R s m args below meth c Q nL D g As N ad ln A loc k n pc (gr x0 :: st) := by
  intro H locs ls hP hD hS hl
  have hF := g_frees hD hS C.2.2.2.2.2.2.1
  refine va_callr (va_runS (As := [gr x0].map (g_v ad)) (rest := st.map (g_v ad)) ⟨C.1, C.2.1, C.2.2.1, C.2.2.2.1, C.2.2.2.2.1⟩ (k_more hN hw h4 H.size) (cwS 1 C.2.2.2.2.1 (g_goodS hs) rfl rfl rfl hs.2.2.2.2.1 (g_roomx C.2.2.2.2.2.2.2.2 hd hs.2.2.2.2.2)) ⟨g_blind, fun U hU hW => ⟨rfl, by rw [hU], by rw [hU]; exact hP, va_K.moved hW.alike C.2.2.2.2.2.1, hD.weaken (fun _ _ _ _ => trivial)⟩⟩ rfl rfl hl.1 rfl (g_lv hcat) hdg hkn) hS (fun q _ h => hF q h) hF (fun q ra t H1 locs1 ht hvm hw hB hz1 hk1 hS => ?_)
  obtain ⟨rfl, hP1, hK1, hD1⟩ := hB
  rw [ht] at hP1
  have hv : ∀ {vs : List gV}, g_rlt N vs → ∀ v ∈ vs, g_v (va_up ad N ra) v = g_v ad v := by
    intro vs
    induction vs with
    | nil => intro _ v hv; cases hv
    | cons a r ih =>
      intro h v hv
      cases a with
      | inl i =>
        rcases List.mem_cons.mp hv with rfl | hv
        · show Value.ref (va_up ad N ra i) = .ref (ad i)
          rw [show va_up ad N ra i = ad i from if_neg (by have := h.1; omega)]
        · exact ih h.2 v hv
      | inr y =>
        rcases List.mem_cons.mp hv with rfl | hv
        · rfl
        · exact ih h v hv
  have e1 : loc.map (g_q (va_up ad N ra)) = loc.map (g_q ad) := List.map_congr_left fun z hz => by
    show (z.1, g_v _ z.2) = (z.1, g_v ad z.2)
    rw [hv hr z.2 (List.mem_map.mpr ⟨z, hz, rfl⟩)]
  have e2 : st.map (g_v (va_up ad N ra)) = st.map (g_v ad) := List.map_congr_left (hv hr2)
  have hk := kk ra H1 locs1 ls hP1 (hD1.weaken (fun _ _ _ h => hF _ h)) hS (by rw [e1]; exact hl)
  have e3 : (gr N :: st).map (g_v (va_up ad N ra)) = .ref ra :: st.map (g_v ad) := by
    rw [List.map_cons, e2]
    show Value.ref (va_up ad N ra N) :: _ = _
    rw [show va_up ad N ra N = ra from if_pos rfl]
  rw [e3] at hk
  exact hk
/-- the fields of the reference's object, with q in the place of array c's address -/
theorem g_ce_ne {ad' : Nat → Nat} {x : Nat} {f : Nat → Int32} {i : Nat} (hi : i ≠ 183) (h : ∀ i, i < 193 → (i < 185 ∨ 190 ≤ i) → ad' i = ad i) : g_ce g ad' x f i = g_ce g ad x f i := by
  have ho : ∀ b, b ≤ 141 → g_out ad' b = g_out ad b := by
    intro b hb
    unfold g_out
    congr 5
    funext j
    by_cases q : j < 40
    · rw [if_pos q, if_pos q, h _ (by omega) (by omega)]
    · rw [if_neg q, if_neg q]
  unfold g_ce
  rw [if_neg hi, if_neg hi]
  rw [ho 3 (by omega), ho 45 (by omega), ho 86 (by omega), ho 141 (by omega)]
  rw [h 130 (by omega) (by omega), h 131 (by omega) (by omega), h 132 (by omega) (by omega), h 133 (by omega) (by omega), h 134 (by omega) (by omega), h 135 (by omega) (by omega), h 136 (by omega) (by omega), h 137 (by omega) (by omega), h 1 (by omega) (by omega), h 43 (by omega) (by omega), h 128 (by omega) (by omega), h 2 (by omega) (by omega), h 44 (by omega) (by omega), h 85 (by omega) (by omega), h 126 (by omega) (by omega), h 127 (by omega) (by omega), h 129 (by omega) (by omega), h 138 (by omega) (by omega), h 182 (by omega) (by omega), h 139 (by omega) (by omega), h 140 (by omega) (by omega), h 181 (by omega) (by omega)]
def g_fs (ad : Nat → Nat) (f : Nat → Int32) : List Value := [.int (f 0), .int (f 1), .ref (ad 184), .int (f 3), .ref (ad 185), .ref (ad 186), .ref (ad 187), .ref (ad 188), .ref (ad 189), .int (f 9), .ref (ad 190), .ref (ad 191), .int (f 12), .int (f 13)]
theorem g_fs_set {f : Nat → Int32} {q : Nat} (j : Nat) (hj : j < 5) : (g_fs ad f).set (4 + j) (.ref q) = g_fs (va_up ad (185 + j) q) f := by
  match j, hj with
  | 0, _ => rfl
  | 1, _ => rfl
  | 2, _ => rfl
  | 3, _ => rfl
  | 4, _ => rfl
theorem g_ln_up {cI w k : Nat} (hk : k ≠ cI) : g_ln (va_up ln cI w) k = g_ln ln k := by
  unfold g_ln
  rw [show va_up ln cI w k = ln k from if_neg hk]
/-- a new array e at q, its address put into the object's field: it is now cell 185 + j -/
theorem g_putW {H : Heap} {q w j : Nat} {f : Nat → Int32} {e : va_E} (hj : j < 5) (hN : 193 ≤ N) (he : e = g_ce g ad w f (185 + j))
    (hP : va_P D vwCl ((gw g ad ln A N ++ [(q, e)]).set 183 (ad 183, .inr (6, (g_fs ad (A 183)).set (4 + j) (.ref q)))) H) (hD : va_D As ((gw g ad ln A N ++ [(q, e)]).set 183 (ad 183, .inr (6, (g_fs ad (A 183)).set (4 + j) (.ref q))))) :
    va_P D vwCl (gw g (va_up ad (185 + j) q) (va_up ln (185 + j) w) (g_row A (185 + j) f) N) H ∧ va_D As (gw g (va_up ad (185 + j) q) (va_up ln (185 + j) w) (g_row A (185 + j) f) N) := by
  rw [g_fs_set j hj] at hP hD
  have hup : ∀ i, i < 193 → (i < 185 ∨ 190 ≤ i) → va_up ad (185 + j) q i = ad i := fun i _ h => if_neg (by omega)
  -- where an entry of the new list stands in the old one
  have key : ∀ (k : Nat) (z : Nat × va_E), (gw g (va_up ad (185 + j) q) (va_up ln (185 + j) w) (g_row A (185 + j) f) N)[k]? = some z → ((gw g ad ln A N ++ [(q, e)]).set 183 (ad 183, .inr (6, g_fs (va_up ad (185 + j) q) (A 183))))[if k = 185 + j then N else k]? = some z := by
    intro k z h
    obtain ⟨hk, rfl⟩ := gw_of h
    rw [List.getElem?_set]
    by_cases e1 : k = 185 + j
    · subst e1
      rw [if_pos rfl, if_neg (by omega), List.getElem?_append_right (by rw [gw_len]; exact Nat.le_refl _), gw_len, Nat.sub_self, g_row_s]
      show some (q, e) = _
      rw [show va_up ad (185 + j) q (185 + j) = q from if_pos rfl, he, g_ce_ne (by omega) hup]
      have e2 : g_ln (va_up ln (185 + j) w) (185 + j) = w := by
        unfold g_ln
        rw [if_pos (Or.inl (by omega))]
        exact if_pos rfl
      rw [e2]
    · rw [if_neg e1]
      by_cases e3 : k = 183
      · subst e3
        rw [if_pos rfl, if_pos (by rw [List.length_append, gw_len]; simp; omega), g_row_n e1]
        rw [show va_up ad (185 + j) q 183 = ad 183 from hup 183 (by omega) (by omega)]
        rfl
      · rw [if_neg (fun h => e3 h.symm), List.getElem?_append_left (by rw [gw_len]; exact hk), gw_at hk, g_row_n e1, g_ln_up e1, g_ce_ne e3 hup]
        rw [show va_up ad (185 + j) q k = ad k from if_neg e1]
  refine ⟨fun k z h => hP _ z (key k z h), ⟨fun i1 j1 p1 q1 h1 h2 h3 => ?_, fun k z h => hD.2 _ z (key k z h)⟩⟩
  have hh := hD.1 _ _ _ _ (key i1 p1 h1) (key j1 q1 h2) h3
  have b1 := (gw_of h1).1
  have b2 := (gw_of h2).1
  by_cases c1 : i1 = 185 + j
  · by_cases c2 : j1 = 185 + j
    · omega
    · rw [if_pos c1, if_neg c2] at hh; omega
  · by_cases c2 : j1 = 185 + j
    · rw [if_neg c1, if_pos c2] at hh; omega
    · rw [if_neg c1, if_neg c2] at hh; exact hh
theorem g_rok_up {cI q : Nat} (hc : 185 ≤ cI ∧ cI < 190) : ∀ {vs : List gV}, g_rok N vs → ∀ v ∈ vs, g_v (va_up ad cI q) v = g_v ad v
  | [], _, v, hv => by cases hv
  | .inl i :: r, hr, v, hv => by
    rcases List.mem_cons.mp hv with rfl | hv
    · show Value.ref (va_up ad cI q i) = .ref (ad i)
      rw [show va_up ad cI q i = ad i from if_neg (by have := hr.1; omega)]
    · exact g_rok_up hc hr.2 v hv
  | .inr x :: r, hr, v, hv => by
    rcases List.mem_cons.mp hv with rfl | hv
    · rfl
    · exact g_rok_up (vs := r) hc hr v hv
/-- putfield of a new int array: it takes cell 185 + j's place -/
theorem g_putG (C : gC p R s m args meth c cc RX6 nL D g As d) (j : Nat) {ix w : Nat} (hj : j < 5) (hj3 : j ≠ 3) (hN : 193 ≤ N) (hw : g_ln ln N = w) (hq : Cond.fieldLink RX6 ix (TX6 (4 + j)).1 (TX6 (4 + j)).2.1 (TX6 (4 + j)).2.2.1 ∈ gtb) (hu : ∀ w ∈ wsX60, w ∈ gtb) (hr : g_rok N (loc.map Prod.snd)) (hr2 : g_rok N st) (hdg : decode cc pc = .ok (.putfield ix, 3))
    (kk : gJ p l e R s m args below meth c Q nL D g As N (va_up ad (185 + j) (ad N)) (va_up ln (185 + j) w) (g_row A (185 + j) (A N)) loc k n (pc + 3) st) : gJ p l e R s m args below meth c Q nL D g As (N + 1) ad ln A loc k n pc (gr N :: gr 183 :: st) := by
  intro H locs ls hP hD hS hl
  have hpush : gw g ad ln A (N + 1) = gw g ad ln A N ++ [(ad N, .inl (g.1, w, .inl (A N)))] := by
    unfold gw
    rw [List.range_succ, List.map_append]
    show _ ++ [(ad N, g_ce g ad (g_ln ln N) (A N) N)] = _
    rw [hw, g_ce_I (g_isI_big hN)]
  rw [hpush] at hP hD
  have hat : (gw g ad ln A N ++ [(ad N, Sum.inl (g.1, w, .inl (A N)))])[183]? = some (ad 183, .inr (6, g_fs ad (A 183))) := by
    rw [List.getElem?_append_left (by rw [gw_len]; omega), gw_at (by omega)]; rfl
  have hfin : (TX6 (4 + j)).2.2.2 = false := by
    match j, hj with
    | 0, _ => rfl
    | 1, _ => rfl
    | 2, _ => rfl
    | 3, _ => rfl
    | 4, _ => rfl
  have hty : parseFieldDescriptor (TX6 (4 + j)).2.2.1 = some (.array .int) := by
    match j, hj with
    | 0, _ => decide +kernel
    | 1, _ => decide +kernel
    | 2, _ => decide +kernel
    | 3, _ => exact absurd rfl hj3
    | 4, _ => decide +kernel
  refine va_put (v := .ref (ad N)) C.1 C.2.1 C.2.2.2.2.1 hu tyX6 tyX6_ok nmX6 C.2.2.2.1 C.2.2.2.2.2.1 hP hD hS 183 hat rfl (4 + j) (by omega) (C.2.2.2.2.1 _ hq) (fun _ h9 => h9) hfin hty rfl rfl (by show 4 + j < 14; omega) hdg (fun H1 locs1 hP1 hD1 hS1 => ?_)
  have hce : (Sum.inl (g.1, w, Sum.inl (A N)) : va_E) = g_ce g ad w (A N) (185 + j) := by
    rw [g_ce_I]
    match j, hj with
    | 0, _ => rfl
    | 1, _ => rfl
    | 2, _ => rfl
    | 3, _ => exact absurd rfl hj3
    | 4, _ => rfl
  obtain ⟨hP2, hD2⟩ := g_putW hj hN hce hP1 hD1
  have e1 : loc.map (g_q (va_up ad (185 + j) (ad N))) = loc.map (g_q ad) := List.map_congr_left fun z hz => by
    show (z.1, g_v _ z.2) = (z.1, g_v ad z.2)
    rw [g_rok_up (by omega) hr z.2 (List.mem_map.mpr ⟨z, hz, rfl⟩)]
  have e2 : st.map (g_v (va_up ad (185 + j) (ad N))) = st.map (g_v ad) := List.map_congr_left (g_rok_up (by omega) hr2)
  have hk := kk H1 locs1 ls hP2 hD2 hS1 (by rw [e1]; exact hl)
  rw [e2] at hk
  exact hk
end GR
end
section
theorem dX6_node_12 : decode cX6_node 12 = .ok (.aload_n 0, 1) := by decide +kernel
theorem dX6_node_13 : decode cX6_node 13 = .ok (.aload_n 0, 1) := by decide +kernel
theorem dX6_node_14 : decode cX6_node 14 = .ok (.getfield 13, 3) := by decide +kernel
theorem dX6_node_17 : decode cX6_node 17 = .ok (.invokestatic 81, 3) := by decide +kernel
theorem dX6_node_20 : decode cX6_node 20 = .ok (.putfield 13, 3) := by decide +kernel
theorem dX6_node_23 : decode cX6_node 23 = .ok (.aload_n 0, 1) := by decide +kernel
theorem dX6_node_24 : decode cX6_node 24 = .ok (.aload_n 0, 1) := by decide +kernel
theorem dX6_node_25 : decode cX6_node 25 = .ok (.getfield 16, 3) := by decide +kernel
theorem dX6_node_28 : decode cX6_node 28 = .ok (.invokestatic 81, 3) := by decide +kernel
theorem dX6_node_31 : decode cX6_node 31 = .ok (.putfield 16, 3) := by decide +kernel
theorem dX6_node_34 : decode cX6_node 34 = .ok (.aload_n 0, 1) := by decide +kernel
theorem dX6_node_35 : decode cX6_node 35 = .ok (.aload_n 0, 1) := by decide +kernel
theorem dX6_node_36 : decode cX6_node 36 = .ok (.getfield 19, 3) := by decide +kernel
theorem dX6_node_39 : decode cX6_node 39 = .ok (.invokestatic 81, 3) := by decide +kernel
theorem dX6_node_42 : decode cX6_node 42 = .ok (.putfield 19, 3) := by decide +kernel
theorem dX6_node_45 : decode cX6_node 45 = .ok (.aload_n 0, 1) := by decide +kernel
theorem dX6_node_46 : decode cX6_node 46 = .ok (.aload_n 0, 1) := by decide +kernel
theorem dX6_node_47 : decode cX6_node 47 = .ok (.getfield 26, 3) := by decide +kernel
theorem dX6_node_50 : decode cX6_node 50 = .ok (.invokestatic 81, 3) := by decide +kernel
theorem dX6_node_53 : decode cX6_node 53 = .ok (.putfield 26, 3) := by decide +kernel
theorem dX6_node_56 : decode cX6_node 56 = .ok (.iconst 2, 1) := by decide +kernel
theorem dX6_node_57 : decode cX6_node 57 = .ok (.aload_n 0, 1) := by decide +kernel
theorem dX6_node_58 : decode cX6_node 58 = .ok (.getfield 78, 3) := by decide +kernel
theorem dX6_node_61 : decode cX6_node 61 = .ok (.imul, 1) := by decide +kernel
theorem dX6_node_62 : decode cX6_node 62 = .ok (.newarray .boolean, 2) := by decide +kernel
theorem dX6_node_64 : decode cX6_node 64 = .ok (.astore 4, 2) := by decide +kernel
theorem dX6_node_66 : decode cX6_node 66 = .ok (.aload_n 0, 1) := by decide +kernel
theorem dX6_node_67 : decode cX6_node 67 = .ok (.getfield 22, 3) := by decide +kernel
theorem dX6_node_70 : decode cX6_node 70 = .ok (.iconst 0, 1) := by decide +kernel
theorem dX6_node_71 : decode cX6_node 71 = .ok (.aload 4, 2) := by decide +kernel
theorem dX6_node_73 : decode cX6_node 73 = .ok (.iconst 0, 1) := by decide +kernel
theorem dX6_node_74 : decode cX6_node 74 = .ok (.aload_n 0, 1) := by decide +kernel
theorem dX6_node_75 : decode cX6_node 75 = .ok (.getfield 78, 3) := by decide +kernel
theorem dX6_node_78 : decode cX6_node 78 = .ok (.invokestatic 54, 3) := by decide +kernel
theorem dX6_node_81 : decode cX6_node 81 = .ok (.aload_n 0, 1) := by decide +kernel
theorem dX6_node_82 : decode cX6_node 82 = .ok (.aload 4, 2) := by decide +kernel
theorem dX6_node_84 : decode cX6_node 84 = .ok (.putfield 22, 3) := by decide +kernel
def g_grok (A : gM) (cp : Nat) : Bool := decide (cp ≤ 20000) && (List.range cp).all fun i => A 188 i == 0 || A 188 i == 1
/-- the arrays that grow, of twice the places -/
def g_grown (A : gM) (cp : Nat) : gM := fun a => if 185 ≤ a ∧ a ≤ 189 then g_dbl A a cp else A a
/-- one of them is the new one -/
def g_rel (N : Nat) (ad ln : Nat → Nat) (A : gM) (cp j : Nat) (ad2 ln2 : Nat → Nat) (A2 : gM) : Prop :=
  (∀ i, i < N → i ≠ 185 + j → ad2 i = ad i ∧ ln2 i = ln i ∧ A2 i = A i) ∧ ln2 (185 + j) = 2 * cp ∧ A2 (185 + j) = g_dbl A (185 + j) cp
section GS
variable {p : Program} {l : Launch} {e : Env} {R : Room} {s : State} {m : MethodId} {args : Array Value} {below : List Frame} {meth : Method} {c : Code} {Q : State → Prop} {nL : Nat} {D : va_G} {g : gT} {As : Nat → Prop} {N : Nat} {ad ln ad0 ln0 : Nat → Nat} {A A' A1 A0 : gM} {loc loc' : List (Nat × gV)} {k n pc cp : Nat} {st : List gV} {cc : ByteArray} {own : String} {d : Nat}
theorem g_kn {k2 n2 : Nat} (h1 : k = k2) (h2 : n = n2) (kk : gJ p l e R s m args below meth c Q nL D g As N ad ln A loc k2 n2 pc st) : gJ p l e R s m args below meth c Q nL D g As N ad ln A loc k n pc st := by
  subst h1; subst h2; exact kk
theorem g_memN {A2 : gM} (h : ∀ i, i < N → A i = A2 i) (kk : gJ p l e R s m args below meth c Q nL D g As N ad ln A2 loc k n pc st) : gJ p l e R s m args below meth c Q nL D g As N ad ln A loc k n pc st := by
  have e : gw g ad ln A N = gw g ad ln A2 N := by
    unfold gw
    apply List.map_congr_left
    intro i hi
    rw [h i (List.mem_range.mp hi)]
  intro H locs ls hP hD hS hl
  rw [e] at hP hD
  exact kk H locs ls hP hD hS hl
set_option maxHeartbeats 2000000 in
theorem g_grow1 (C : gC p R s m args meth c cc RX6 nL D g As d) (j : Nat) {ix : Nat} (hj : j < 5) (hj3 : j ≠ 3) (hN : 193 ≤ N) (hw : ln (185 + j) = cp) (h4 : cp ≤ 20000) (hq : Cond.fieldLink RX6 ix (TX6 (4 + j)).1 (TX6 (4 + j)).2.1 (TX6 (4 + j)).2.2.1 ∈ gtb) (hd : 3 ≤ d) (h0 : loc[0]? = some (0, gr 183)) (hkn : k + 1 ≤ R.cells ∧ n + 2 * cp ≤ R.slots) (hr : g_rok N (loc.map Prod.snd)) (hr2 : g_rlt N (loc.map Prod.snd))
    (d0 : decode cc pc = .ok (.aload_n 0, 1)) (d1 : decode cc (pc + 1) = .ok (.aload_n 0, 1)) (d2 : decode cc (pc + 2) = .ok (.getfield ix, 3)) (d3 : decode cc (pc + 5) = .ok (.invokestatic 81, 3)) (d4 : decode cc (pc + 8) = .ok (.putfield ix, 3))
    (kk : ∀ (ad2 ln2 : Nat → Nat) (A2 : gM), g_rel N ad ln A cp j ad2 ln2 A2 → gJ p l e R s m args below meth c Q nL D g As N ad2 ln2 A2 loc (k + 1) (n + 2 * cp) (pc + 11) []) : gJ p l e R s m args below meth c Q nL D g As N ad ln A loc k n pc [] := by
  have hce : g_ce g ad (g_ln ln 183) (A 183) 183 = .inr (6, g_fs ad (A 183)) := rfl
  have hv : (g_fs ad (A 183))[4 + j]? = some (g_v ad (gr (185 + j))) := by
    match j, hj with
    | 0, _ => rfl
    | 1, _ => rfl
    | 2, _ => rfl
    | 3, _ => rfl
    | 4, _ => rfl
  have hln : g_ln ln (185 + j) = cp := by
    unfold g_ln
    rw [if_pos (Or.inl (by omega)), hw]
  have hI : g_isI (185 + j) = true := by
    match j, hj with
    | 0, _ => rfl
    | 1, _ => rfl
    | 2, _ => rfl
    | 3, _ => exact absurd rfl hj3
    | 4, _ => rfl
  refine g_aload_n C 0 d0 h0 ?_
  refine g_aload_n C 0 d1 h0 ?_
  refine g_get (v := gr (185 + j)) C 183 (4 + j) (by omega) hce rfl gu_6 (by omega) hq hv d2 ?_
  refine g_callMore C (185 + j) hN ⟨by omega, hI, hln⟩ (by omega) qs_X6_81 hd (Nat.le_of_ble_eq_true rfl) hkn hr2 (by simp [g_rlt] <;> omega) d3 (fun q => ?_)
  refine g_putG C j hj hj3 hN (g_len_made hN) hq gu_6 hr trivial d4 ?_
  refine kk _ _ _ ⟨fun i hi hne => ⟨?_, ?_, ?_⟩, if_pos rfl, ?_⟩
  · rw [show ∀ x, va_up (va_up ad N q) (185 + j) x i = va_up ad N q i from fun x => if_neg hne]; exact if_neg (by omega)
  · rw [show ∀ x, va_up (va_up ln N (2 * cp)) (185 + j) x i = va_up ln N (2 * cp) i from fun x => if_neg hne]; exact if_neg (by omega)
  · rw [g_row_n hne, g_row_n (by omega)]
  · rw [g_row_s, g_row_s]
set_option maxHeartbeats 4000000 in
/-- the row of booleans grows -/
theorem g_growZ (C : gC p R s m args meth c cX6_node RX6 5 D g As d) {x1 x2 x3 : Int32} (hN : 193 ≤ N) (hw : ln 188 = cp) (h4 : cp ≤ 20000) (hfit : ∀ i, i < cp → A 188 i = 0 ∨ A 188 i = 1) (hcN : A 183 3 = Int32.ofNat cp) (hd : 3 ≤ d) (hkn : k + 1 ≤ R.cells ∧ n + 2 * cp ≤ R.slots)
    (kk : ∀ (ad2 ln2 : Nat → Nat) (A2 : gM), g_rel N ad ln A cp 3 ad2 ln2 A2 → gJ p l e R s m args below meth c Q 5 D g As N ad2 ln2 A2 [(0, gr 183), (1, gi x1), (2, gi x2), (3, gi x3)] (k + 1) (n + 2 * cp) 87 []) : gJ p l e R s m args below meth c Q 5 D g As N ad ln A [(0, gr 183), (1, gi x1), (2, gi x2), (3, gi x3)] k n 56 [] := by
  obtain ⟨i1, i2, i3, i4⟩ := g_I2 (w := cp) (by omega)
  refine g_iconst (v := 2) C dX6_node_56 (by decide) ?_
  refine g_aload_n C 0 dX6_node_57 rfl ?_
  refine g_get (v := gi (A 183 3)) C 183 3 (by omega) rfl rfl gu_6 (by decide) qf_X6_78 rfl dX6_node_58 ?_
  refine g_imul C dX6_node_61 ?_
  rw [hcN]
  intro H locs ls hP hD hS hl
  have hx := C.1
  have hb := C.2.1
  have hown := C.2.2.2.1
  have hK := C.2.2.2.2.2.1
  have hlk : ∀ ix q, Cond.fieldLink RX6 ix (TX6 q).1 (TX6 q).2.1 (TX6 q).2.2.1 ∈ gtb → (Cond.fieldLink RX6 ix (TX6 q).1 (TX6 q).2.1 (TX6 q).2.2.1).before args s = true := fun ix q h => C.2.2.2.2.1 _ h
  refine va_newa (atype := .boolean) (ty := .boolean) (N' := 2 * cp) (a0 := (2 * cp, .inl (fun _ => 0))) hx hb (C.2.2.2.2.1 _ qa_boolean) rfl hK hP hD hS C.2.2.2.2.2.2.1 (fun _ => rfl) i1 i2 (by show 2 * cp * 1 ≤ 536870912; omega) hkn.1 hkn.2 dX6_node_62 (fun q cA H1 hK1 hP1 hD1 hS1 => ?_)
  have hcA : cA = g.2.1 := by
    have h1 : va_RA s cA .boolean := (hK1.2 4 (cA, .boolean) rfl).2
    have h2 : va_RA s g.2.1 .boolean := (hK1.2 1 (g.2.1, .boolean) rfl).2
    exact Option.some.inj (h1.symm.trans h2)
  subst hcA
  clear hP hD hS hK1
  have a183 : (gw g ad ln A N ++ [(q, (.inl (g.2.1, 2 * cp, .inl (fun _ => 0)) : va_E))])[183]? = some (ad 183, .inr (6, g_fs ad (A 183))) := by
    rw [List.getElem?_append_left (by rw [gw_len]; omega), gw_at (by omega)]; rfl
  have a188 : (gw g ad ln A N ++ [(q, (.inl (g.2.1, 2 * cp, .inl (fun _ => 0)) : va_E))])[188]? = some (ad 188, .inl (g.2.1, cp, .inl (A 188))) := by
    rw [List.getElem?_append_left (by rw [gw_len]; omega), gw_at (by omega), ← hw]; rfl
  have aN : (gw g ad ln A N ++ [(q, (.inl (g.2.1, 2 * cp, .inl (fun _ => 0)) : va_E))])[N]? = some (q, .inl (g.2.1, 2 * cp, .inl (fun _ => 0))) := by
    rw [List.getElem?_append_right (by rw [gw_len]; exact Nat.le_refl _), gw_len, Nat.sub_self]; rfl
  refine lv_astore hx hb dX6_node_64 hl (by decide) rfl (fun ls hl => ?_)
  refine lv_aload_n hx hb dX6_node_66 rfl (lv_at hl 1 rfl) ?_
  refine va_get (v := .ref (ad 188)) hx hb C.2.2.2.2.1 gu_6 hown hK hP1 183 a183 rfl 7 (by decide) (hlk 22 7 qf_X6_22) (fun _ h9 => h9) rfl dX6_node_67 ?_
  refine lv_iconst (v := 0) hx hb dX6_node_70 (by decide) ?_
  refine lv_aload hx hb dX6_node_71 (lv_at hl 0 rfl) ?_
  refine lv_iconst (v := 0) hx hb dX6_node_73 (by decide) ?_
  refine lv_aload_n hx hb dX6_node_74 rfl (lv_at hl 1 rfl) ?_
  refine va_get (v := .int (A 183 3)) hx hb C.2.2.2.2.1 gu_6 hown hK hP1 183 a183 rfl 3 (by decide) (hlk 78 3 qf_X6_78) (fun _ h9 => h9) rfl dX6_node_75 ?_
  rw [hcN]
  refine va_copyi (ty := .boolean) (f := A 188) (g := fun _ => 0) (n0 := cp) (n1 := 2 * cp) hx hb (by rw [C.2.2.1]; exact hl.1.symm) hown (C.2.2.2.2.1 _ qsC_X6_54.1) (C.2.2.2.2.1 _ qsC_X6_54.2.1) (C.2.2.2.2.1 _ qsC_X6_54.2.2.1) (C.2.2.2.2.1 _ qsC_X6_54.2.2.2) hK hP1 hD1 hS1 188 N 1 1 a188 aN rfl rfl rfl (by decide) (by decide) i3 (by rw [i4]; exact Nat.le_of_eq (Nat.zero_add _)) (by rw [i4]; show 0 + cp ≤ 2 * cp; omega) (fun i hi => ?_) (by have := C.2.2.2.2.2.2.2.2.1; omega) ?_ dX6_node_78 (fun H2 locs2 hP2 hD2 hS2 => ?_)
  · rw [i4] at hi
    show fits .boolean (.int (A 188 (0 + i))) = true
    rw [Nat.zero_add]
    rcases hfit i hi with h | h <;> rw [h] <;> rfl
  · have := C.2.2.2.2.2.2.2.2.2
    have h6 : nativeFrameWords "java/lang/System" "arraycopy" 5 = 7 := by decide +kernel
    rw [h6]
    show 0 + (7 + 11) ≤ R.locals
    omega
  · clear hP1 hD1 hS1 a183 a188 aN
    have ef : va_cpy (A 188) (fun _ => 0) (0 : Int32).toNatClampNeg (0 : Int32).toNatClampNeg (Int32.ofNat cp).toNatClampNeg = g_dbl A 188 cp := by
      rw [i4]
      funext t
      show va_cpy (A 188) (fun _ => 0) 0 0 cp t = g_dbl A 188 cp t
      unfold g_dbl
      by_cases q : t < cp
      · rw [if_pos q, sb_cpy0 q]
      · rw [if_neg q, pk_cpy_out (Or.inr (by omega))]
    rw [ef] at hP2 hD2
    have es : (gw g ad ln A N ++ [(q, (.inl (g.2.1, 2 * cp, .inl (fun _ => 0)) : va_E))]).set N (q, (.inl (g.2.1, 2 * cp, .inl (g_dbl A 188 cp)) : va_E)) = gw g ad ln A N ++ [(q, (.inl (g.2.1, 2 * cp, .inl (g_dbl A 188 cp)) : va_E))] := by
      rw [List.set_append_right _ _ (by rw [gw_len]; exact Nat.le_refl _), gw_len, Nat.sub_self]; rfl
    rw [es] at hP2 hD2
    have a183 : (gw g ad ln A N ++ [(q, (.inl (g.2.1, 2 * cp, .inl (g_dbl A 188 cp)) : va_E))])[183]? = some (ad 183, .inr (6, g_fs ad (A 183))) := by
      rw [List.getElem?_append_left (by rw [gw_len]; omega), gw_at (by omega)]; rfl
    refine lv_aload_n hx hb dX6_node_81 rfl (lv_at hl 1 rfl) ?_
    refine lv_aload hx hb dX6_node_82 (lv_at hl 0 rfl) ?_
    refine va_put (v := .ref q) hx hb C.2.2.2.2.1 gu_6 tyX6 tyX6_ok nmX6 hown hK hP2 hD2 hS2 183 a183 rfl 7 (by decide) (hlk 22 7 qf_X6_22) (fun _ h9 => h9) rfl (show parseFieldDescriptor (TX6 7).2.2.1 = some (.array .boolean) by decide +kernel) rfl rfl (Nat.le_of_ble_eq_true rfl) dX6_node_84 (fun H3 locs3 hP3 hD3 hS3 => ?_)
    obtain ⟨hP4, hD4⟩ := g_putW (j := 3) (by omega) hN rfl hP3 hD3
    have hr : g_rok N ([(0, gr 183), (1, gi x1), (2, gi x2), (3, gi x3)].map Prod.snd) := by simp [g_rok]; omega
    refine kk _ _ _ ⟨fun i hi hne => ⟨if_neg hne, if_neg hne, g_row_n hne⟩, if_pos rfl, g_row_s⟩ H3 locs3 ls hP4 hD4 hS3 ?_
    have e1 : [(0, gr 183), (1, gi x1), (2, gi x2), (3, gi x3)].map (g_q (va_up ad 188 q)) = [(0, gr 183), (1, gi x1), (2, gi x2), (3, gi x3)].map (g_q ad) := List.map_congr_left fun z hz => by
      show (z.1, g_v _ z.2) = (z.1, g_v ad z.2)
      rw [g_rok_up (by omega) hr z.2 (List.mem_map.mpr ⟨z, hz, rfl⟩)]
    have e4 : lv_has ls 5 ([(0, gr 183), (1, gi x1), (2, gi x2), (3, gi x3)].map (g_q (va_up ad 188 q))) := by
      rw [e1]
      exact lv_sub hl [1, 2, 3, 4] rfl
    exact e4
set_option maxHeartbeats 4000000 in
/-- node's arrays grow -/
theorem g_grow (hN : 193 ≤ N) (C : gC p R s m args meth c cX6_node RX6 5 D g As d) {x1 x2 x3 : Int32} (hch : g_chg N ad0 ln0 ad ln cp) (hg : g_grok A cp = true) (hd : 3 ≤ d) (hcN : A 183 3 = Int32.ofNat cp) (hkn : k + 5 ≤ R.cells ∧ n + 10 * cp ≤ R.slots)
    (kk : ∀ (ad2 ln2 : Nat → Nat), g_chg N ad0 ln0 ad2 ln2 (2 * cp) → gJ p l e R s m args below meth c Q 5 D g As N ad2 ln2 (g_grown A cp) [(0, gr 183), (1, gi x1), (2, gi x2), (3, gi x3)] (k + 5) (n + 10 * cp) 87 []) : gJ p l e R s m args below meth c Q 5 D g As N ad ln A [(0, gr 183), (1, gi x1), (2, gi x2), (3, gi x3)] k n 12 [] := by
  have hg1 : cp ≤ 20000 ∧ ∀ i, i < cp → A 188 i = 0 ∨ A 188 i = 1 := by
    simpa [g_grok] using hg
  obtain ⟨h4, hfit⟩ := hg1
  obtain ⟨c1, c2, c3, c4, c5⟩ := hch.2
  have hr : g_rok N ([(0, gr 183), (1, gi x1), (2, gi x2), (3, gi x3)].map Prod.snd) := by simp [g_rok]; omega
  have hr2 : g_rlt N ([(0, gr 183), (1, gi x1), (2, gi x2), (3, gi x3)].map Prod.snd) := by simp [g_rlt]; omega
  refine g_grow1 C 0 (by omega) (by omega) hN c1 h4 qf_X6_13 hd rfl ⟨by omega, by omega⟩ hr hr2 dX6_node_12 dX6_node_13 dX6_node_14 dX6_node_17 dX6_node_20 (fun ad1 ln1 A1 r1 => ?_)
  refine g_grow1 C 1 (by omega) (by omega) hN ((r1.1 186 (by omega) (by omega)).2.1.trans c2) h4 qf_X6_16 hd rfl ⟨by omega, by omega⟩ hr hr2 dX6_node_23 dX6_node_24 dX6_node_25 dX6_node_28 dX6_node_31 (fun ad2 ln2 A2 r2 => ?_)
  refine g_grow1 C 2 (by omega) (by omega) hN (((r2.1 187 (by omega) (by omega)).2.1.trans (r1.1 187 (by omega) (by omega)).2.1).trans c3) h4 qf_X6_19 hd rfl ⟨by omega, by omega⟩ hr hr2 dX6_node_34 dX6_node_35 dX6_node_36 dX6_node_39 dX6_node_42 (fun ad3 ln3 A3 r3 => ?_)
  refine g_grow1 C 4 (by omega) (by omega) hN ((((r3.1 189 (by omega) (by omega)).2.1.trans (r2.1 189 (by omega) (by omega)).2.1).trans (r1.1 189 (by omega) (by omega)).2.1).trans c5) h4 qf_X6_26 hd rfl ⟨by omega, by omega⟩ hr hr2 dX6_node_45 dX6_node_46 dX6_node_47 dX6_node_50 dX6_node_53 (fun ad4 ln4 A4 r4 => ?_)
  have eA : ∀ i, i < N → i ≠ 185 → i ≠ 186 → i ≠ 187 → i ≠ 189 → A4 i = A i := fun i hi n1 n2 n3 n4 => (((r4.1 i hi n4).2.2.trans (r3.1 i hi n3).2.2).trans (r2.1 i hi n2).2.2).trans (r1.1 i hi n1).2.2
  have eL : ∀ i, i < N → i ≠ 185 → i ≠ 186 → i ≠ 187 → i ≠ 189 → ad4 i = ad i ∧ ln4 i = ln i := fun i hi n1 n2 n3 n4 => ⟨(((r4.1 i hi n4).1.trans (r3.1 i hi n3).1).trans (r2.1 i hi n2).1).trans (r1.1 i hi n1).1, (((r4.1 i hi n4).2.1.trans (r3.1 i hi n3).2.1).trans (r2.1 i hi n2).2.1).trans (r1.1 i hi n1).2.1⟩
  have e188 := eA 188 (by omega) (by omega) (by omega) (by omega) (by omega)
  have e183 := eA 183 (by omega) (by omega) (by omega) (by omega) (by omega)
  refine g_growZ C hN ((eL 188 (by omega) (by omega) (by omega) (by omega) (by omega)).2.trans c4) h4 (by rw [e188]; exact hfit) (by rw [e183]; exact hcN) hd ⟨by omega, by omega⟩ (fun ad5 ln5 A5 r5 => ?_)
  refine g_kn (k2 := k + 5) (n2 := n + 10 * cp) (by omega) (by omega) ?_
  have f185 : A5 185 = g_dbl A 185 cp := by
    rw [(r5.1 185 (by omega) (by omega)).2.2, (r4.1 185 (by omega) (by omega)).2.2, (r3.1 185 (by omega) (by omega)).2.2, (r2.1 185 (by omega) (by omega)).2.2, r1.2.2]
  have f186 : A5 186 = g_dbl A 186 cp := by
    rw [(r5.1 186 (by omega) (by omega)).2.2, (r4.1 186 (by omega) (by omega)).2.2, (r3.1 186 (by omega) (by omega)).2.2, r2.2.2]
    show g_dbl A1 186 cp = _
    unfold g_dbl
    rw [(r1.1 186 (by omega) (by omega)).2.2]
  have f187 : A5 187 = g_dbl A 187 cp := by
    rw [(r5.1 187 (by omega) (by omega)).2.2, (r4.1 187 (by omega) (by omega)).2.2, r3.2.2]
    show g_dbl A2 187 cp = _
    unfold g_dbl
    rw [(r2.1 187 (by omega) (by omega)).2.2, (r1.1 187 (by omega) (by omega)).2.2]
  have f189 : A5 189 = g_dbl A 189 cp := by
    rw [(r5.1 189 (by omega) (by omega)).2.2, r4.2.2]
    show g_dbl A3 189 cp = _
    unfold g_dbl
    rw [(r3.1 189 (by omega) (by omega)).2.2, (r2.1 189 (by omega) (by omega)).2.2, (r1.1 189 (by omega) (by omega)).2.2]
  have f188 : A5 188 = g_dbl A 188 cp := by
    rw [r5.2.2]
    show g_dbl A4 188 cp = _
    unfold g_dbl
    rw [e188]
  refine g_memN (A2 := g_grown A cp) (fun i hi => ?_) (kk ad5 ln5 ⟨fun i hi hr => ?_, ?_, ?_, ?_, r5.2.1, ?_⟩)
  · unfold g_grown
    by_cases q : 185 ≤ i ∧ i ≤ 189
    · rw [if_pos q]
      rcases (show i = 185 ∨ i = 186 ∨ i = 187 ∨ i = 188 ∨ i = 189 by omega) with rfl | rfl | rfl | rfl | rfl <;> assumption
    · rw [if_neg q, (r5.1 i hi (by omega)).2.2]
      exact eA i hi (by omega) (by omega) (by omega) (by omega)
  · have h5 := r5.1 i hi (by omega)
    have h6 := eL i hi (by omega) (by omega) (by omega) (by omega)
    have h7 := hch.1 i hi hr
    exact ⟨(h5.1.trans h6.1).trans h7.1, (h5.2.1.trans h6.2).trans h7.2⟩
  · rw [(r5.1 185 (by omega) (by omega)).2.1, (r4.1 185 (by omega) (by omega)).2.1, (r3.1 185 (by omega) (by omega)).2.1, (r2.1 185 (by omega) (by omega)).2.1, r1.2.1]
  · rw [(r5.1 186 (by omega) (by omega)).2.1, (r4.1 186 (by omega) (by omega)).2.1, (r3.1 186 (by omega) (by omega)).2.1, r2.2.1]
  · rw [(r5.1 187 (by omega) (by omega)).2.1, (r4.1 187 (by omega) (by omega)).2.1, r3.2.1]
  · rw [(r5.1 189 (by omega) (by omega)).2.1, r4.2.1]
end GS
end
section
theorem qf_X6_29 : Cond.fieldLink RX6 29 (TX6 10).1 (TX6 10).2.1 (TX6 10).2.2.1 ∈ gtb := g_tb (List.mem_of_getElem? (i := 749) (by decide +kernel)) (by decide +kernel)
theorem qs_X6_132 : g_site RX6 RX6 132 yX6_used cX6_used 5 (some .int) 2 := ⟨g_tb (List.mem_of_getElem? (i := 900) (by decide +kernel)) (by decide +kernel), g_tb (List.mem_of_getElem? (i := 902) (by decide +kernel)) (by decide +kernel), g_tb (List.mem_of_getElem? (i := 48) (by decide +kernel)) (by decide +kernel), g_tb (List.mem_of_getElem? (i := 79) (by decide +kernel)) (by decide +kernel), g_tb (List.mem_of_getElem? (i := 903) (by decide +kernel)) (by decide +kernel), ⟨rfl, by decide, by decide, by decide +kernel⟩, by decide⟩
theorem qs_X6_135 : g_site RX6 RX6 135 yX6_variable cX6_variable 1 (some .int) 0 := ⟨g_tb (List.mem_of_getElem? (i := 916) (by decide +kernel)) (by decide +kernel), g_tb (List.mem_of_getElem? (i := 918) (by decide +kernel)) (by decide +kernel), g_tb (List.mem_of_getElem? (i := 52) (by decide +kernel)) (by decide +kernel), g_tb (List.mem_of_getElem? (i := 79) (by decide +kernel)) (by decide +kernel), g_tb (List.mem_of_getElem? (i := 919) (by decide +kernel)) (by decide +kernel), ⟨rfl, by decide, by decide, by decide +kernel⟩, by decide⟩
theorem qs_X6_50 : g_site RX6 RX6 50 yX6_size cX6_size 2 (some .int) 1 := ⟨g_tb (List.mem_of_getElem? (i := 798) (by decide +kernel)) (by decide +kernel), g_tb (List.mem_of_getElem? (i := 800) (by decide +kernel)) (by decide +kernel), g_tb (List.mem_of_getElem? (i := 35) (by decide +kernel)) (by decide +kernel), g_tb (List.mem_of_getElem? (i := 79) (by decide +kernel)) (by decide +kernel), g_tb (List.mem_of_getElem? (i := 801) (by decide +kernel)) (by decide +kernel), ⟨rfl, by decide, by decide, by decide +kernel⟩, by decide⟩
theorem qs_X6_63 : g_site RX6 RX6 63 yX6_put cX6_put 7 (none) 5 := ⟨g_tb (List.mem_of_getElem? (i := 810) (by decide +kernel)) (by decide +kernel), g_tb (List.mem_of_getElem? (i := 812) (by decide +kernel)) (by decide +kernel), g_tb (List.mem_of_getElem? (i := 38) (by decide +kernel)) (by decide +kernel), g_tb (List.mem_of_getElem? (i := 79) (by decide +kernel)) (by decide +kernel), g_tb (List.mem_of_getElem? (i := 813) (by decide +kernel)) (by decide +kernel), ⟨rfl, by decide, by decide, by decide +kernel⟩, by decide⟩
theorem qs_X6_67 : g_site RX6 RX6 67 yX6_made cX6_made 7 (some .int) 6 := ⟨g_tb (List.mem_of_getElem? (i := 794) (by decide +kernel)) (by decide +kernel), g_tb (List.mem_of_getElem? (i := 796) (by decide +kernel)) (by decide +kernel), g_tb (List.mem_of_getElem? (i := 34) (by decide +kernel)) (by decide +kernel), g_tb (List.mem_of_getElem? (i := 79) (by decide +kernel)) (by decide +kernel), g_tb (List.mem_of_getElem? (i := 797) (by decide +kernel)) (by decide +kernel), ⟨rfl, by decide, by decide, by decide +kernel⟩, by decide⟩
theorem qs_X6_85 : g_site RX6 RX6 85 yX6_node cX6_node 5 (some .int) 3 := ⟨g_tb (List.mem_of_getElem? (i := 889) (by decide +kernel)) (by decide +kernel), g_tb (List.mem_of_getElem? (i := 891) (by decide +kernel)) (by decide +kernel), g_tb (List.mem_of_getElem? (i := 46) (by decide +kernel)) (by decide +kernel), g_tb (List.mem_of_getElem? (i := 79) (by decide +kernel)) (by decide +kernel), g_tb (List.mem_of_getElem? (i := 892) (by decide +kernel)) (by decide +kernel), ⟨rfl, by decide, by decide, by decide +kernel⟩, by decide⟩
theorem qs_X6_71 : g_siteS RX6 71 yX6_isName cX6_isName 1 (some .boolean) 1 := ⟨g_tb (List.mem_of_getElem? (i := 821) (by decide +kernel)) (by decide +kernel), g_tb (List.mem_of_getElem? (i := 822) (by decide +kernel)) (by decide +kernel), g_tb (List.mem_of_getElem? (i := 79) (by decide +kernel)) (by decide +kernel), g_tb (List.mem_of_getElem? (i := 823) (by decide +kernel)) (by decide +kernel), ⟨rfl, by decide, by decide, by decide +kernel⟩, by decide⟩
theorem dX6_node_0 : decode cX6_node 0 = .ok (.aload_n 0, 1) := by decide +kernel
theorem dX6_node_1 : decode cX6_node 1 = .ok (.getfield 78, 3) := by decide +kernel
theorem dX6_node_4 : decode cX6_node 4 = .ok (.aload_n 0, 1) := by decide +kernel
theorem dX6_node_5 : decode cX6_node 5 = .ok (.getfield 13, 3) := by decide +kernel
theorem dX6_node_8 : decode cX6_node 8 = .ok (.arraylength, 1) := by decide +kernel
theorem dX6_node_9 : decode cX6_node 9 = .ok (.if_icmp .ne 78, 3) := by decide +kernel
theorem dX6_node_87 : decode cX6_node 87 = .ok (.aload_n 0, 1) := by decide +kernel
theorem dX6_node_88 : decode cX6_node 88 = .ok (.getfield 13, 3) := by decide +kernel
theorem dX6_node_91 : decode cX6_node 91 = .ok (.aload_n 0, 1) := by decide +kernel
theorem dX6_node_92 : decode cX6_node 92 = .ok (.getfield 78, 3) := by decide +kernel
theorem dX6_node_95 : decode cX6_node 95 = .ok (.iload_n 1, 1) := by decide +kernel
theorem dX6_node_96 : decode cX6_node 96 = .ok (.iastore, 1) := by decide +kernel
theorem dX6_node_97 : decode cX6_node 97 = .ok (.aload_n 0, 1) := by decide +kernel
theorem dX6_node_98 : decode cX6_node 98 = .ok (.getfield 16, 3) := by decide +kernel
theorem dX6_node_101 : decode cX6_node 101 = .ok (.aload_n 0, 1) := by decide +kernel
theorem dX6_node_102 : decode cX6_node 102 = .ok (.getfield 78, 3) := by decide +kernel
theorem dX6_node_105 : decode cX6_node 105 = .ok (.iload_n 2, 1) := by decide +kernel
theorem dX6_node_106 : decode cX6_node 106 = .ok (.iastore, 1) := by decide +kernel
theorem dX6_node_107 : decode cX6_node 107 = .ok (.aload_n 0, 1) := by decide +kernel
theorem dX6_node_108 : decode cX6_node 108 = .ok (.getfield 19, 3) := by decide +kernel
theorem dX6_node_111 : decode cX6_node 111 = .ok (.aload_n 0, 1) := by decide +kernel
theorem dX6_node_112 : decode cX6_node 112 = .ok (.getfield 78, 3) := by decide +kernel
theorem dX6_node_115 : decode cX6_node 115 = .ok (.iload_n 3, 1) := by decide +kernel
theorem dX6_node_116 : decode cX6_node 116 = .ok (.iastore, 1) := by decide +kernel
theorem dX6_node_117 : decode cX6_node 117 = .ok (.aload_n 0, 1) := by decide +kernel
theorem dX6_node_118 : decode cX6_node 118 = .ok (.getfield 22, 3) := by decide +kernel
theorem dX6_node_121 : decode cX6_node 121 = .ok (.aload_n 0, 1) := by decide +kernel
theorem dX6_node_122 : decode cX6_node 122 = .ok (.getfield 78, 3) := by decide +kernel
theorem dX6_node_125 : decode cX6_node 125 = .ok (.iconst 0, 1) := by decide +kernel
theorem dX6_node_126 : decode cX6_node 126 = .ok (.bastore, 1) := by decide +kernel
theorem dX6_node_127 : decode cX6_node 127 = .ok (.aload_n 0, 1) := by decide +kernel
theorem dX6_node_128 : decode cX6_node 128 = .ok (.getfield 26, 3) := by decide +kernel
theorem dX6_node_131 : decode cX6_node 131 = .ok (.aload_n 0, 1) := by decide +kernel
theorem dX6_node_132 : decode cX6_node 132 = .ok (.getfield 78, 3) := by decide +kernel
theorem dX6_node_135 : decode cX6_node 135 = .ok (.iconst (-1), 1) := by decide +kernel
theorem dX6_node_136 : decode cX6_node 136 = .ok (.iastore, 1) := by decide +kernel
theorem dX6_node_137 : decode cX6_node 137 = .ok (.aload_n 0, 1) := by decide +kernel
theorem dX6_node_138 : decode cX6_node 138 = .ok (.dup, 1) := by decide +kernel
theorem dX6_node_139 : decode cX6_node 139 = .ok (.getfield 78, 3) := by decide +kernel
theorem dX6_node_142 : decode cX6_node 142 = .ok (.iconst 1, 1) := by decide +kernel
theorem dX6_node_143 : decode cX6_node 143 = .ok (.iadd, 1) := by decide +kernel
theorem dX6_node_144 : decode cX6_node 144 = .ok (.putfield 78, 3) := by decide +kernel
theorem dX6_node_147 : decode cX6_node 147 = .ok (.aload_n 0, 1) := by decide +kernel
theorem dX6_node_148 : decode cX6_node 148 = .ok (.getfield 78, 3) := by decide +kernel
theorem dX6_node_151 : decode cX6_node 151 = .ok (.iconst 1, 1) := by decide +kernel
theorem dX6_node_152 : decode cX6_node 152 = .ok (.isub, 1) := by decide +kernel
theorem dX6_node_153 : decode cX6_node 153 = .ok (.ireturn, 1) := by decide +kernel
theorem dX6_variable_0 : decode cX6_variable 0 = .ok (.aload_n 0, 1) := by decide +kernel
theorem dX6_variable_1 : decode cX6_variable 1 = .ok (.iconst 4, 1) := by decide +kernel
theorem dX6_variable_2 : decode cX6_variable 2 = .ok (.iconst (-1), 1) := by decide +kernel
theorem dX6_variable_3 : decode cX6_variable 3 = .ok (.iconst (-1), 1) := by decide +kernel
theorem dX6_variable_4 : decode cX6_variable 4 = .ok (.invokevirtual 85, 3) := by decide +kernel
theorem dX6_variable_7 : decode cX6_variable 7 = .ok (.ireturn, 1) := by decide +kernel
theorem dX6_put_0 : decode cX6_put 0 = .ok (.bipush 6, 2) := by decide +kernel
theorem dX6_put_2 : decode cX6_put 2 = .ok (.newarray .int, 2) := by decide +kernel
theorem dX6_put_4 : decode cX6_put 4 = .ok (.dup, 1) := by decide +kernel
theorem dX6_put_5 : decode cX6_put 5 = .ok (.iconst 0, 1) := by decide +kernel
theorem dX6_put_6 : decode cX6_put 6 = .ok (.iload_n 1, 1) := by decide +kernel
theorem dX6_put_7 : decode cX6_put 7 = .ok (.iastore, 1) := by decide +kernel
theorem dX6_put_8 : decode cX6_put 8 = .ok (.dup, 1) := by decide +kernel
theorem dX6_put_9 : decode cX6_put 9 = .ok (.iconst 1, 1) := by decide +kernel
theorem dX6_put_10 : decode cX6_put 10 = .ok (.iload_n 2, 1) := by decide +kernel
theorem dX6_put_11 : decode cX6_put 11 = .ok (.iastore, 1) := by decide +kernel
theorem dX6_put_12 : decode cX6_put 12 = .ok (.dup, 1) := by decide +kernel
theorem dX6_put_13 : decode cX6_put 13 = .ok (.iconst 2, 1) := by decide +kernel
theorem dX6_put_14 : decode cX6_put 14 = .ok (.iload_n 3, 1) := by decide +kernel
theorem dX6_put_15 : decode cX6_put 15 = .ok (.iastore, 1) := by decide +kernel
theorem dX6_put_16 : decode cX6_put 16 = .ok (.dup, 1) := by decide +kernel
theorem dX6_put_17 : decode cX6_put 17 = .ok (.iconst 3, 1) := by decide +kernel
theorem dX6_put_18 : decode cX6_put 18 = .ok (.iload 4, 2) := by decide +kernel
theorem dX6_put_20 : decode cX6_put 20 = .ok (.iastore, 1) := by decide +kernel
theorem dX6_put_21 : decode cX6_put 21 = .ok (.dup, 1) := by decide +kernel
theorem dX6_put_22 : decode cX6_put 22 = .ok (.iconst 4, 1) := by decide +kernel
theorem dX6_put_23 : decode cX6_put 23 = .ok (.iload 5, 2) := by decide +kernel
theorem dX6_put_25 : decode cX6_put 25 = .ok (.iastore, 1) := by decide +kernel
theorem dX6_put_26 : decode cX6_put 26 = .ok (.dup, 1) := by decide +kernel
theorem dX6_put_27 : decode cX6_put 27 = .ok (.iconst 5, 1) := by decide +kernel
theorem dX6_put_28 : decode cX6_put 28 = .ok (.iconst 1, 1) := by decide +kernel
theorem dX6_put_29 : decode cX6_put 29 = .ok (.aload_n 0, 1) := by decide +kernel
theorem dX6_put_30 : decode cX6_put 30 = .ok (.iload_n 2, 1) := by decide +kernel
theorem dX6_put_31 : decode cX6_put 31 = .ok (.invokevirtual 50, 3) := by decide +kernel
theorem dX6_put_34 : decode cX6_put 34 = .ok (.iadd, 1) := by decide +kernel
theorem dX6_put_35 : decode cX6_put 35 = .ok (.aload_n 0, 1) := by decide +kernel
theorem dX6_put_36 : decode cX6_put 36 = .ok (.iload_n 3, 1) := by decide +kernel
theorem dX6_put_37 : decode cX6_put 37 = .ok (.invokevirtual 50, 3) := by decide +kernel
theorem dX6_put_40 : decode cX6_put 40 = .ok (.iadd, 1) := by decide +kernel
theorem dX6_put_41 : decode cX6_put 41 = .ok (.aload_n 0, 1) := by decide +kernel
theorem dX6_put_42 : decode cX6_put 42 = .ok (.iload 4, 2) := by decide +kernel
theorem dX6_put_44 : decode cX6_put 44 = .ok (.invokevirtual 50, 3) := by decide +kernel
theorem dX6_put_47 : decode cX6_put 47 = .ok (.iadd, 1) := by decide +kernel
theorem dX6_put_48 : decode cX6_put 48 = .ok (.iastore, 1) := by decide +kernel
theorem dX6_put_49 : decode cX6_put 49 = .ok (.astore 6, 2) := by decide +kernel
theorem dX6_put_51 : decode cX6_put 51 = .ok (.aload 6, 2) := by decide +kernel
theorem dX6_put_53 : decode cX6_put 53 = .ok (.iconst 0, 1) := by decide +kernel
theorem dX6_put_54 : decode cX6_put 54 = .ok (.aload_n 0, 1) := by decide +kernel
theorem dX6_put_55 : decode cX6_put 55 = .ok (.getfield 9, 3) := by decide +kernel
theorem dX6_put_58 : decode cX6_put 58 = .ok (.bipush 6, 2) := by decide +kernel
theorem dX6_put_60 : decode cX6_put 60 = .ok (.aload_n 0, 1) := by decide +kernel
theorem dX6_put_61 : decode cX6_put 61 = .ok (.getfield 39, 3) := by decide +kernel
theorem dX6_put_64 : decode cX6_put 64 = .ok (.imul, 1) := by decide +kernel
theorem dX6_put_65 : decode cX6_put 65 = .ok (.bipush 6, 2) := by decide +kernel
theorem dX6_put_67 : decode cX6_put 67 = .ok (.invokestatic 54, 3) := by decide +kernel
theorem dX6_put_70 : decode cX6_put 70 = .ok (.return_, 1) := by decide +kernel
theorem dX6_made_0 : decode cX6_made 0 = .ok (.aload_n 0, 1) := by decide +kernel
theorem dX6_made_1 : decode cX6_made 1 = .ok (.getfield 39, 3) := by decide +kernel
theorem dX6_made_4 : decode cX6_made 4 = .ok (.bipush 40, 2) := by decide +kernel
theorem dX6_made_6 : decode cX6_made 6 = .ok (.if_icmp .eq 28, 3) := by decide +kernel
theorem dX6_made_9 : decode cX6_made 9 = .ok (.iconst 1, 1) := by decide +kernel
theorem dX6_made_10 : decode cX6_made 10 = .ok (.aload_n 0, 1) := by decide +kernel
theorem dX6_made_11 : decode cX6_made 11 = .ok (.iload_n 2, 1) := by decide +kernel
theorem dX6_made_12 : decode cX6_made 12 = .ok (.invokevirtual 50, 3) := by decide +kernel
theorem dX6_made_15 : decode cX6_made 15 = .ok (.iadd, 1) := by decide +kernel
theorem dX6_made_16 : decode cX6_made 16 = .ok (.aload_n 0, 1) := by decide +kernel
theorem dX6_made_17 : decode cX6_made 17 = .ok (.iload_n 3, 1) := by decide +kernel
theorem dX6_made_18 : decode cX6_made 18 = .ok (.invokevirtual 50, 3) := by decide +kernel
theorem dX6_made_21 : decode cX6_made 21 = .ok (.iadd, 1) := by decide +kernel
theorem dX6_made_22 : decode cX6_made 22 = .ok (.aload_n 0, 1) := by decide +kernel
theorem dX6_made_23 : decode cX6_made 23 = .ok (.iload 4, 2) := by decide +kernel
theorem dX6_made_25 : decode cX6_made 25 = .ok (.invokevirtual 50, 3) := by decide +kernel
theorem dX6_made_28 : decode cX6_made 28 = .ok (.iadd, 1) := by decide +kernel
theorem dX6_made_29 : decode cX6_made 29 = .ok (.bipush 60, 2) := by decide +kernel
theorem dX6_made_31 : decode cX6_made 31 = .ok (.if_icmp .le 10, 3) := by decide +kernel
theorem dX6_made_34 : decode cX6_made 34 = .ok (.aload_n 0, 1) := by decide +kernel
theorem dX6_made_35 : decode cX6_made 35 = .ok (.iload 6, 2) := by decide +kernel
theorem dX6_made_37 : decode cX6_made 37 = .ok (.invokevirtual 60, 3) := by decide +kernel
theorem dX6_made_40 : decode cX6_made 40 = .ok (.ireturn, 1) := by decide +kernel
theorem dX6_made_41 : decode cX6_made 41 = .ok (.aload_n 0, 1) := by decide +kernel
theorem dX6_made_42 : decode cX6_made 42 = .ok (.iload_n 1, 1) := by decide +kernel
theorem dX6_made_43 : decode cX6_made 43 = .ok (.iload_n 2, 1) := by decide +kernel
theorem dX6_made_44 : decode cX6_made 44 = .ok (.iload_n 3, 1) := by decide +kernel
theorem dX6_made_45 : decode cX6_made 45 = .ok (.iload 4, 2) := by decide +kernel
theorem dX6_made_47 : decode cX6_made 47 = .ok (.iload 5, 2) := by decide +kernel
theorem dX6_made_49 : decode cX6_made 49 = .ok (.invokevirtual 63, 3) := by decide +kernel
theorem dX6_made_52 : decode cX6_made 52 = .ok (.aload_n 0, 1) := by decide +kernel
theorem dX6_made_53 : decode cX6_made 53 = .ok (.dup, 1) := by decide +kernel
theorem dX6_made_54 : decode cX6_made 54 = .ok (.getfield 39, 3) := by decide +kernel
theorem dX6_made_57 : decode cX6_made 57 = .ok (.iconst 1, 1) := by decide +kernel
theorem dX6_made_58 : decode cX6_made 58 = .ok (.iadd, 1) := by decide +kernel
theorem dX6_made_59 : decode cX6_made 59 = .ok (.putfield 39, 3) := by decide +kernel
theorem dX6_made_62 : decode cX6_made 62 = .ok (.aload_n 0, 1) := by decide +kernel
theorem dX6_made_63 : decode cX6_made 63 = .ok (.getfield 39, 3) := by decide +kernel
theorem dX6_made_66 : decode cX6_made 66 = .ok (.iconst 1, 1) := by decide +kernel
theorem dX6_made_67 : decode cX6_made 67 = .ok (.isub, 1) := by decide +kernel
theorem dX6_made_68 : decode cX6_made 68 = .ok (.ireturn, 1) := by decide +kernel
theorem dX6_plain_0 : decode cX6_plain 0 = .ok (.aload_n 0, 1) := by decide +kernel
theorem dX6_plain_1 : decode cX6_plain 1 = .ok (.iconst 0, 1) := by decide +kernel
theorem dX6_plain_2 : decode cX6_plain 2 = .ok (.putfield 35, 3) := by decide +kernel
theorem dX6_plain_5 : decode cX6_plain 5 = .ok (.iload_n 1, 1) := by decide +kernel
theorem dX6_plain_6 : decode cX6_plain 6 = .ok (.iconst 0, 1) := by decide +kernel
theorem dX6_plain_7 : decode cX6_plain 7 = .ok (.iconst 1, 1) := by decide +kernel
theorem dX6_plain_8 : decode cX6_plain 8 = .ok (.invokestatic 42, 3) := by decide +kernel
theorem dX6_plain_11 : decode cX6_plain 11 = .ok (.ifCond .eq 16, 3) := by decide +kernel
theorem dX6_plain_14 : decode cX6_plain 14 = .ok (.aload_n 0, 1) := by decide +kernel
theorem dX6_plain_15 : decode cX6_plain 15 = .ok (.iload_n 1, 1) := by decide +kernel
theorem dX6_plain_16 : decode cX6_plain 16 = .ok (.iconst (-1), 1) := by decide +kernel
theorem dX6_plain_17 : decode cX6_plain 17 = .ok (.iconst (-1), 1) := by decide +kernel
theorem dX6_plain_18 : decode cX6_plain 18 = .ok (.iconst (-1), 1) := by decide +kernel
theorem dX6_plain_19 : decode cX6_plain 19 = .ok (.iconst (-1), 1) := by decide +kernel
theorem dX6_plain_20 : decode cX6_plain 20 = .ok (.iconst 2, 1) := by decide +kernel
theorem dX6_plain_21 : decode cX6_plain 21 = .ok (.invokevirtual 67, 3) := by decide +kernel
theorem dX6_plain_24 : decode cX6_plain 24 = .ok (.goto 8, 3) := by decide +kernel
theorem dX6_plain_27 : decode cX6_plain 27 = .ok (.aload_n 0, 1) := by decide +kernel
theorem dX6_plain_28 : decode cX6_plain 28 = .ok (.iconst 1, 1) := by decide +kernel
theorem dX6_plain_29 : decode cX6_plain 29 = .ok (.invokevirtual 60, 3) := by decide +kernel
theorem dX6_plain_32 : decode cX6_plain 32 = .ok (.ireturn, 1) := by decide +kernel
theorem dX6_name_0 : decode cX6_name 0 = .ok (.aload_n 0, 1) := by decide +kernel
theorem dX6_name_1 : decode cX6_name 1 = .ok (.iconst 0, 1) := by decide +kernel
theorem dX6_name_2 : decode cX6_name 2 = .ok (.putfield 35, 3) := by decide +kernel
theorem dX6_name_5 : decode cX6_name 5 = .ok (.iload_n 1, 1) := by decide +kernel
theorem dX6_name_6 : decode cX6_name 6 = .ok (.invokestatic 71, 3) := by decide +kernel
theorem dX6_name_9 : decode cX6_name 9 = .ok (.ifCond .eq 16, 3) := by decide +kernel
theorem dX6_name_12 : decode cX6_name 12 = .ok (.aload_n 0, 1) := by decide +kernel
theorem dX6_name_13 : decode cX6_name 13 = .ok (.iconst 2, 1) := by decide +kernel
theorem dX6_name_14 : decode cX6_name 14 = .ok (.iconst (-1), 1) := by decide +kernel
theorem dX6_name_15 : decode cX6_name 15 = .ok (.iconst (-1), 1) := by decide +kernel
theorem dX6_name_16 : decode cX6_name 16 = .ok (.iconst (-1), 1) := by decide +kernel
theorem dX6_name_17 : decode cX6_name 17 = .ok (.iload_n 1, 1) := by decide +kernel
theorem dX6_name_18 : decode cX6_name 18 = .ok (.iconst 2, 1) := by decide +kernel
theorem dX6_name_19 : decode cX6_name 19 = .ok (.invokevirtual 67, 3) := by decide +kernel
theorem dX6_name_22 : decode cX6_name 22 = .ok (.goto 8, 3) := by decide +kernel
theorem dX6_name_25 : decode cX6_name 25 = .ok (.aload_n 0, 1) := by decide +kernel
theorem dX6_name_26 : decode cX6_name 26 = .ok (.iconst 1, 1) := by decide +kernel
theorem dX6_name_27 : decode cX6_name 27 = .ok (.invokevirtual 60, 3) := by decide +kernel
theorem dX6_name_30 : decode cX6_name 30 = .ok (.ireturn, 1) := by decide +kernel
theorem dX6_wheel_0 : decode cX6_wheel 0 = .ok (.aload_n 0, 1) := by decide +kernel
theorem dX6_wheel_1 : decode cX6_wheel 1 = .ok (.iconst 0, 1) := by decide +kernel
theorem dX6_wheel_2 : decode cX6_wheel 2 = .ok (.putfield 35, 3) := by decide +kernel
theorem dX6_wheel_5 : decode cX6_wheel 5 = .ok (.aload_n 0, 1) := by decide +kernel
theorem dX6_wheel_6 : decode cX6_wheel 6 = .ok (.iload_n 2, 1) := by decide +kernel
theorem dX6_wheel_7 : decode cX6_wheel 7 = .ok (.invokevirtual 75, 3) := by decide +kernel
theorem dX6_wheel_10 : decode cX6_wheel 10 = .ok (.ifCond .ne 9, 3) := by decide +kernel
theorem dX6_wheel_13 : decode cX6_wheel 13 = .ok (.aload_n 0, 1) := by decide +kernel
theorem dX6_wheel_14 : decode cX6_wheel 14 = .ok (.iconst 1, 1) := by decide +kernel
theorem dX6_wheel_15 : decode cX6_wheel 15 = .ok (.invokevirtual 60, 3) := by decide +kernel
theorem dX6_wheel_18 : decode cX6_wheel 18 = .ok (.ireturn, 1) := by decide +kernel
theorem dX6_wheel_19 : decode cX6_wheel 19 = .ok (.iload_n 1, 1) := by decide +kernel
theorem dX6_wheel_20 : decode cX6_wheel 20 = .ok (.invokestatic 71, 3) := by decide +kernel
theorem dX6_wheel_23 : decode cX6_wheel 23 = .ok (.ifCond .eq 16, 3) := by decide +kernel
theorem dX6_wheel_26 : decode cX6_wheel 26 = .ok (.aload_n 0, 1) := by decide +kernel
theorem dX6_wheel_27 : decode cX6_wheel 27 = .ok (.iconst 3, 1) := by decide +kernel
theorem dX6_wheel_28 : decode cX6_wheel 28 = .ok (.iload_n 2, 1) := by decide +kernel
theorem dX6_wheel_29 : decode cX6_wheel 29 = .ok (.iconst (-1), 1) := by decide +kernel
theorem dX6_wheel_30 : decode cX6_wheel 30 = .ok (.iconst (-1), 1) := by decide +kernel
theorem dX6_wheel_31 : decode cX6_wheel 31 = .ok (.iload_n 1, 1) := by decide +kernel
theorem dX6_wheel_32 : decode cX6_wheel 32 = .ok (.iconst 3, 1) := by decide +kernel
theorem dX6_wheel_33 : decode cX6_wheel 33 = .ok (.invokevirtual 67, 3) := by decide +kernel
theorem dX6_wheel_36 : decode cX6_wheel 36 = .ok (.goto 8, 3) := by decide +kernel
theorem dX6_wheel_39 : decode cX6_wheel 39 = .ok (.aload_n 0, 1) := by decide +kernel
theorem dX6_wheel_40 : decode cX6_wheel 40 = .ok (.iconst 2, 1) := by decide +kernel
theorem dX6_wheel_41 : decode cX6_wheel 41 = .ok (.invokevirtual 60, 3) := by decide +kernel
theorem dX6_wheel_44 : decode cX6_wheel 44 = .ok (.ireturn, 1) := by decide +kernel
theorem dX6_turn_0 : decode cX6_turn 0 = .ok (.aload_n 0, 1) := by decide +kernel
theorem dX6_turn_1 : decode cX6_turn 1 = .ok (.iconst 0, 1) := by decide +kernel
theorem dX6_turn_2 : decode cX6_turn 2 = .ok (.putfield 35, 3) := by decide +kernel
theorem dX6_turn_5 : decode cX6_turn 5 = .ok (.aload_n 0, 1) := by decide +kernel
theorem dX6_turn_6 : decode cX6_turn 6 = .ok (.iload_n 1, 1) := by decide +kernel
theorem dX6_turn_7 : decode cX6_turn 7 = .ok (.invokevirtual 75, 3) := by decide +kernel
theorem dX6_turn_10 : decode cX6_turn 10 = .ok (.ifCond .eq 24, 3) := by decide +kernel
theorem dX6_turn_13 : decode cX6_turn 13 = .ok (.aload_n 0, 1) := by decide +kernel
theorem dX6_turn_14 : decode cX6_turn 14 = .ok (.iload_n 2, 1) := by decide +kernel
theorem dX6_turn_15 : decode cX6_turn 15 = .ok (.invokevirtual 75, 3) := by decide +kernel
theorem dX6_turn_18 : decode cX6_turn 18 = .ok (.ifCond .eq 16, 3) := by decide +kernel
theorem dX6_turn_21 : decode cX6_turn 21 = .ok (.aload_n 0, 1) := by decide +kernel
theorem dX6_turn_22 : decode cX6_turn 22 = .ok (.iconst 4, 1) := by decide +kernel
theorem dX6_turn_23 : decode cX6_turn 23 = .ok (.iload_n 1, 1) := by decide +kernel
theorem dX6_turn_24 : decode cX6_turn 24 = .ok (.iload_n 2, 1) := by decide +kernel
theorem dX6_turn_25 : decode cX6_turn 25 = .ok (.iconst (-1), 1) := by decide +kernel
theorem dX6_turn_26 : decode cX6_turn 26 = .ok (.iconst (-1), 1) := by decide +kernel
theorem dX6_turn_27 : decode cX6_turn 27 = .ok (.iconst 2, 1) := by decide +kernel
theorem dX6_turn_28 : decode cX6_turn 28 = .ok (.invokevirtual 67, 3) := by decide +kernel
theorem dX6_turn_31 : decode cX6_turn 31 = .ok (.goto 8, 3) := by decide +kernel
theorem dX6_turn_34 : decode cX6_turn 34 = .ok (.aload_n 0, 1) := by decide +kernel
theorem dX6_turn_35 : decode cX6_turn 35 = .ok (.iconst 1, 1) := by decide +kernel
theorem dX6_turn_36 : decode cX6_turn 36 = .ok (.invokevirtual 60, 3) := by decide +kernel
theorem dX6_turn_39 : decode cX6_turn 39 = .ok (.ireturn, 1) := by decide +kernel
theorem dX6_tell_0 : decode cX6_tell 0 = .ok (.aload_n 0, 1) := by decide +kernel
theorem dX6_tell_1 : decode cX6_tell 1 = .ok (.iconst 0, 1) := by decide +kernel
theorem dX6_tell_2 : decode cX6_tell 2 = .ok (.putfield 35, 3) := by decide +kernel
theorem dX6_tell_5 : decode cX6_tell 5 = .ok (.aload_n 0, 1) := by decide +kernel
theorem dX6_tell_6 : decode cX6_tell 6 = .ok (.iload_n 2, 1) := by decide +kernel
theorem dX6_tell_7 : decode cX6_tell 7 = .ok (.invokevirtual 75, 3) := by decide +kernel
theorem dX6_tell_10 : decode cX6_tell 10 = .ok (.ifCond .eq 11, 3) := by decide +kernel
theorem dX6_tell_13 : decode cX6_tell 13 = .ok (.aload_n 0, 1) := by decide +kernel
theorem dX6_tell_14 : decode cX6_tell 14 = .ok (.iload_n 3, 1) := by decide +kernel
theorem dX6_tell_15 : decode cX6_tell 15 = .ok (.invokevirtual 75, 3) := by decide +kernel
theorem dX6_tell_18 : decode cX6_tell 18 = .ok (.ifCond .ne 9, 3) := by decide +kernel
theorem dX6_tell_21 : decode cX6_tell 21 = .ok (.aload_n 0, 1) := by decide +kernel
theorem dX6_tell_22 : decode cX6_tell 22 = .ok (.iconst 1, 1) := by decide +kernel
theorem dX6_tell_23 : decode cX6_tell 23 = .ok (.invokevirtual 60, 3) := by decide +kernel
theorem dX6_tell_26 : decode cX6_tell 26 = .ok (.ireturn, 1) := by decide +kernel
theorem dX6_tell_27 : decode cX6_tell 27 = .ok (.iload_n 1, 1) := by decide +kernel
theorem dX6_tell_28 : decode cX6_tell 28 = .ok (.invokestatic 71, 3) := by decide +kernel
theorem dX6_tell_31 : decode cX6_tell 31 = .ok (.ifCond .eq 16, 3) := by decide +kernel
theorem dX6_tell_34 : decode cX6_tell 34 = .ok (.aload_n 0, 1) := by decide +kernel
theorem dX6_tell_35 : decode cX6_tell 35 = .ok (.iconst 5, 1) := by decide +kernel
theorem dX6_tell_36 : decode cX6_tell 36 = .ok (.iload_n 2, 1) := by decide +kernel
theorem dX6_tell_37 : decode cX6_tell 37 = .ok (.iload_n 3, 1) := by decide +kernel
theorem dX6_tell_38 : decode cX6_tell 38 = .ok (.iconst (-1), 1) := by decide +kernel
theorem dX6_tell_39 : decode cX6_tell 39 = .ok (.iload_n 1, 1) := by decide +kernel
theorem dX6_tell_40 : decode cX6_tell 40 = .ok (.iconst 3, 1) := by decide +kernel
theorem dX6_tell_41 : decode cX6_tell 41 = .ok (.invokevirtual 67, 3) := by decide +kernel
theorem dX6_tell_44 : decode cX6_tell 44 = .ok (.goto 8, 3) := by decide +kernel
theorem dX6_tell_47 : decode cX6_tell 47 = .ok (.aload_n 0, 1) := by decide +kernel
theorem dX6_tell_48 : decode cX6_tell 48 = .ok (.iconst 2, 1) := by decide +kernel
theorem dX6_tell_49 : decode cX6_tell 49 = .ok (.invokevirtual 60, 3) := by decide +kernel
theorem dX6_tell_52 : decode cX6_tell 52 = .ok (.ireturn, 1) := by decide +kernel
theorem dX6_axle_0 : decode cX6_axle 0 = .ok (.aload_n 0, 1) := by decide +kernel
theorem dX6_axle_1 : decode cX6_axle 1 = .ok (.iconst 0, 1) := by decide +kernel
theorem dX6_axle_2 : decode cX6_axle 2 = .ok (.putfield 35, 3) := by decide +kernel
theorem dX6_axle_5 : decode cX6_axle 5 = .ok (.aload_n 0, 1) := by decide +kernel
theorem dX6_axle_6 : decode cX6_axle 6 = .ok (.iload_n 1, 1) := by decide +kernel
theorem dX6_axle_7 : decode cX6_axle 7 = .ok (.invokevirtual 75, 3) := by decide +kernel
theorem dX6_axle_10 : decode cX6_axle 10 = .ok (.ifCond .eq 25, 3) := by decide +kernel
theorem dX6_axle_13 : decode cX6_axle 13 = .ok (.aload_n 0, 1) := by decide +kernel
theorem dX6_axle_14 : decode cX6_axle 14 = .ok (.iload_n 2, 1) := by decide +kernel
theorem dX6_axle_15 : decode cX6_axle 15 = .ok (.invokevirtual 75, 3) := by decide +kernel
theorem dX6_axle_18 : decode cX6_axle 18 = .ok (.ifCond .eq 17, 3) := by decide +kernel
theorem dX6_axle_21 : decode cX6_axle 21 = .ok (.aload_n 0, 1) := by decide +kernel
theorem dX6_axle_22 : decode cX6_axle 22 = .ok (.bipush 6, 2) := by decide +kernel
theorem dX6_axle_24 : decode cX6_axle 24 = .ok (.iload_n 1, 1) := by decide +kernel
theorem dX6_axle_25 : decode cX6_axle 25 = .ok (.iload_n 2, 1) := by decide +kernel
theorem dX6_axle_26 : decode cX6_axle 26 = .ok (.iconst (-1), 1) := by decide +kernel
theorem dX6_axle_27 : decode cX6_axle 27 = .ok (.iconst (-1), 1) := by decide +kernel
theorem dX6_axle_28 : decode cX6_axle 28 = .ok (.iconst 2, 1) := by decide +kernel
theorem dX6_axle_29 : decode cX6_axle 29 = .ok (.invokevirtual 67, 3) := by decide +kernel
theorem dX6_axle_32 : decode cX6_axle 32 = .ok (.goto 8, 3) := by decide +kernel
theorem dX6_axle_35 : decode cX6_axle 35 = .ok (.aload_n 0, 1) := by decide +kernel
theorem dX6_axle_36 : decode cX6_axle 36 = .ok (.iconst 1, 1) := by decide +kernel
theorem dX6_axle_37 : decode cX6_axle 37 = .ok (.invokevirtual 60, 3) := by decide +kernel
theorem dX6_axle_40 : decode cX6_axle 40 = .ok (.ireturn, 1) := by decide +kernel
theorem dX6_end_0 : decode cX6_end 0 = .ok (.aload_n 0, 1) := by decide +kernel
theorem dX6_end_1 : decode cX6_end 1 = .ok (.iconst 0, 1) := by decide +kernel
theorem dX6_end_2 : decode cX6_end 2 = .ok (.putfield 35, 3) := by decide +kernel
theorem dX6_end_5 : decode cX6_end 5 = .ok (.aload_n 0, 1) := by decide +kernel
theorem dX6_end_6 : decode cX6_end 6 = .ok (.iload_n 1, 1) := by decide +kernel
theorem dX6_end_7 : decode cX6_end 7 = .ok (.invokevirtual 75, 3) := by decide +kernel
theorem dX6_end_10 : decode cX6_end 10 = .ok (.ifCond .ne 9, 3) := by decide +kernel
theorem dX6_end_13 : decode cX6_end 13 = .ok (.aload_n 0, 1) := by decide +kernel
theorem dX6_end_14 : decode cX6_end 14 = .ok (.iconst 1, 1) := by decide +kernel
theorem dX6_end_15 : decode cX6_end 15 = .ok (.invokevirtual 60, 3) := by decide +kernel
theorem dX6_end_18 : decode cX6_end 18 = .ok (.ireturn, 1) := by decide +kernel
theorem dX6_end_19 : decode cX6_end 19 = .ok (.iload_n 2, 1) := by decide +kernel
theorem dX6_end_20 : decode cX6_end 20 = .ok (.iconst 0, 1) := by decide +kernel
theorem dX6_end_21 : decode cX6_end 21 = .ok (.iconst 1, 1) := by decide +kernel
theorem dX6_end_22 : decode cX6_end 22 = .ok (.invokestatic 42, 3) := by decide +kernel
theorem dX6_end_25 : decode cX6_end 25 = .ok (.ifCond .eq 17, 3) := by decide +kernel
theorem dX6_end_28 : decode cX6_end 28 = .ok (.aload_n 0, 1) := by decide +kernel
theorem dX6_end_29 : decode cX6_end 29 = .ok (.bipush 7, 2) := by decide +kernel
theorem dX6_end_31 : decode cX6_end 31 = .ok (.iload_n 1, 1) := by decide +kernel
theorem dX6_end_32 : decode cX6_end 32 = .ok (.iconst (-1), 1) := by decide +kernel
theorem dX6_end_33 : decode cX6_end 33 = .ok (.iconst (-1), 1) := by decide +kernel
theorem dX6_end_34 : decode cX6_end 34 = .ok (.iload_n 2, 1) := by decide +kernel
theorem dX6_end_35 : decode cX6_end 35 = .ok (.iconst 3, 1) := by decide +kernel
theorem dX6_end_36 : decode cX6_end 36 = .ok (.invokevirtual 67, 3) := by decide +kernel
theorem dX6_end_39 : decode cX6_end 39 = .ok (.goto 8, 3) := by decide +kernel
theorem dX6_end_42 : decode cX6_end 42 = .ok (.aload_n 0, 1) := by decide +kernel
theorem dX6_end_43 : decode cX6_end 43 = .ok (.iconst 2, 1) := by decide +kernel
theorem dX6_end_44 : decode cX6_end 44 = .ok (.invokevirtual 60, 3) := by decide +kernel
theorem dX6_end_47 : decode cX6_end 47 = .ok (.ireturn, 1) := by decide +kernel
theorem dX6_either_0 : decode cX6_either 0 = .ok (.aload_n 0, 1) := by decide +kernel
theorem dX6_either_1 : decode cX6_either 1 = .ok (.iconst 0, 1) := by decide +kernel
theorem dX6_either_2 : decode cX6_either 2 = .ok (.putfield 35, 3) := by decide +kernel
theorem dX6_either_5 : decode cX6_either 5 = .ok (.aload_n 0, 1) := by decide +kernel
theorem dX6_either_6 : decode cX6_either 6 = .ok (.iload_n 1, 1) := by decide +kernel
theorem dX6_either_7 : decode cX6_either 7 = .ok (.invokevirtual 75, 3) := by decide +kernel
theorem dX6_either_10 : decode cX6_either 10 = .ok (.ifCond .eq 33, 3) := by decide +kernel
theorem dX6_either_13 : decode cX6_either 13 = .ok (.aload_n 0, 1) := by decide +kernel
theorem dX6_either_14 : decode cX6_either 14 = .ok (.iload_n 2, 1) := by decide +kernel
theorem dX6_either_15 : decode cX6_either 15 = .ok (.invokevirtual 75, 3) := by decide +kernel
theorem dX6_either_18 : decode cX6_either 18 = .ok (.ifCond .eq 25, 3) := by decide +kernel
theorem dX6_either_21 : decode cX6_either 21 = .ok (.aload_n 0, 1) := by decide +kernel
theorem dX6_either_22 : decode cX6_either 22 = .ok (.iload_n 3, 1) := by decide +kernel
theorem dX6_either_23 : decode cX6_either 23 = .ok (.invokevirtual 75, 3) := by decide +kernel
theorem dX6_either_26 : decode cX6_either 26 = .ok (.ifCond .eq 17, 3) := by decide +kernel
theorem dX6_either_29 : decode cX6_either 29 = .ok (.aload_n 0, 1) := by decide +kernel
theorem dX6_either_30 : decode cX6_either 30 = .ok (.bipush 8, 2) := by decide +kernel
theorem dX6_either_32 : decode cX6_either 32 = .ok (.iload_n 1, 1) := by decide +kernel
theorem dX6_either_33 : decode cX6_either 33 = .ok (.iload_n 2, 1) := by decide +kernel
theorem dX6_either_34 : decode cX6_either 34 = .ok (.iload_n 3, 1) := by decide +kernel
theorem dX6_either_35 : decode cX6_either 35 = .ok (.iconst (-1), 1) := by decide +kernel
theorem dX6_either_36 : decode cX6_either 36 = .ok (.iconst 2, 1) := by decide +kernel
theorem dX6_either_37 : decode cX6_either 37 = .ok (.invokevirtual 67, 3) := by decide +kernel
theorem dX6_either_40 : decode cX6_either 40 = .ok (.goto 8, 3) := by decide +kernel
theorem dX6_either_43 : decode cX6_either 43 = .ok (.aload_n 0, 1) := by decide +kernel
theorem dX6_either_44 : decode cX6_either 44 = .ok (.iconst 1, 1) := by decide +kernel
theorem dX6_either_45 : decode cX6_either 45 = .ok (.invokevirtual 60, 3) := by decide +kernel
theorem dX6_either_48 : decode cX6_either 48 = .ok (.ireturn, 1) := by decide +kernel
theorem dX6_used_0 : decode cX6_used 0 = .ok (.aload_n 0, 1) := by decide +kernel
theorem dX6_used_1 : decode cX6_used 1 = .ok (.iload_n 1, 1) := by decide +kernel
theorem dX6_used_2 : decode cX6_used 2 = .ok (.invokevirtual 89, 3) := by decide +kernel
theorem dX6_used_5 : decode cX6_used 5 = .ok (.istore_n 3, 1) := by decide +kernel
theorem dX6_used_6 : decode cX6_used 6 = .ok (.aload_n 0, 1) := by decide +kernel
theorem dX6_used_7 : decode cX6_used 7 = .ok (.iload_n 3, 1) := by decide +kernel
theorem dX6_used_8 : decode cX6_used 8 = .ok (.invokevirtual 129, 3) := by decide +kernel
theorem dX6_used_11 : decode cX6_used 11 = .ok (.ifCond .ne 5, 3) := by decide +kernel
theorem dX6_used_14 : decode cX6_used 14 = .ok (.iload_n 3, 1) := by decide +kernel
theorem dX6_used_15 : decode cX6_used 15 = .ok (.ireturn, 1) := by decide +kernel
theorem dX6_used_16 : decode cX6_used 16 = .ok (.aload_n 0, 1) := by decide +kernel
theorem dX6_used_17 : decode cX6_used 17 = .ok (.iload_n 3, 1) := by decide +kernel
theorem dX6_used_18 : decode cX6_used 18 = .ok (.invokevirtual 92, 3) := by decide +kernel
theorem dX6_used_21 : decode cX6_used 21 = .ok (.ifCond .eq 40, 3) := by decide +kernel
theorem dX6_used_24 : decode cX6_used 24 = .ok (.aload_n 0, 1) := by decide +kernel
theorem dX6_used_25 : decode cX6_used 25 = .ok (.aload_n 0, 1) := by decide +kernel
theorem dX6_used_26 : decode cX6_used 26 = .ok (.getfield 16, 3) := by decide +kernel
theorem dX6_used_29 : decode cX6_used 29 = .ok (.iload_n 3, 1) := by decide +kernel
theorem dX6_used_30 : decode cX6_used 30 = .ok (.iaload, 1) := by decide +kernel
theorem dX6_used_31 : decode cX6_used 31 = .ok (.iload_n 2, 1) := by decide +kernel
theorem dX6_used_32 : decode cX6_used 32 = .ok (.invokevirtual 132, 3) := by decide +kernel
theorem dX6_used_35 : decode cX6_used 35 = .ok (.istore 4, 2) := by decide +kernel
theorem dX6_used_37 : decode cX6_used 37 = .ok (.aload_n 0, 1) := by decide +kernel
theorem dX6_used_38 : decode cX6_used 38 = .ok (.aload_n 0, 1) := by decide +kernel
theorem dX6_used_39 : decode cX6_used 39 = .ok (.getfield 13, 3) := by decide +kernel
theorem dX6_used_42 : decode cX6_used 42 = .ok (.iload_n 3, 1) := by decide +kernel
theorem dX6_used_43 : decode cX6_used 43 = .ok (.iaload, 1) := by decide +kernel
theorem dX6_used_44 : decode cX6_used 44 = .ok (.iload 4, 2) := by decide +kernel
theorem dX6_used_46 : decode cX6_used 46 = .ok (.aload_n 0, 1) := by decide +kernel
theorem dX6_used_47 : decode cX6_used 47 = .ok (.aload_n 0, 1) := by decide +kernel
theorem dX6_used_48 : decode cX6_used 48 = .ok (.getfield 19, 3) := by decide +kernel
theorem dX6_used_51 : decode cX6_used 51 = .ok (.iload_n 3, 1) := by decide +kernel
theorem dX6_used_52 : decode cX6_used 52 = .ok (.iaload, 1) := by decide +kernel
theorem dX6_used_53 : decode cX6_used 53 = .ok (.iload_n 2, 1) := by decide +kernel
theorem dX6_used_54 : decode cX6_used 54 = .ok (.invokevirtual 132, 3) := by decide +kernel
theorem dX6_used_57 : decode cX6_used 57 = .ok (.invokevirtual 85, 3) := by decide +kernel
theorem dX6_used_60 : decode cX6_used 60 = .ok (.ireturn, 1) := by decide +kernel
theorem dX6_used_61 : decode cX6_used 61 = .ok (.aload_n 0, 1) := by decide +kernel
theorem dX6_used_62 : decode cX6_used 62 = .ok (.getfield 26, 3) := by decide +kernel
theorem dX6_used_65 : decode cX6_used 65 = .ok (.iload_n 3, 1) := by decide +kernel
theorem dX6_used_66 : decode cX6_used 66 = .ok (.iaload, 1) := by decide +kernel
theorem dX6_used_67 : decode cX6_used 67 = .ok (.iload_n 2, 1) := by decide +kernel
theorem dX6_used_68 : decode cX6_used 68 = .ok (.if_icmp .lt 10, 3) := by decide +kernel
theorem dX6_used_71 : decode cX6_used 71 = .ok (.aload_n 0, 1) := by decide +kernel
theorem dX6_used_72 : decode cX6_used 72 = .ok (.getfield 26, 3) := by decide +kernel
theorem dX6_used_75 : decode cX6_used 75 = .ok (.iload_n 3, 1) := by decide +kernel
theorem dX6_used_76 : decode cX6_used 76 = .ok (.iaload, 1) := by decide +kernel
theorem dX6_used_77 : decode cX6_used 77 = .ok (.ireturn, 1) := by decide +kernel
theorem dX6_used_78 : decode cX6_used 78 = .ok (.aload_n 0, 1) := by decide +kernel
theorem dX6_used_79 : decode cX6_used 79 = .ok (.invokevirtual 135, 3) := by decide +kernel
theorem dX6_used_82 : decode cX6_used 82 = .ok (.istore 4, 2) := by decide +kernel
theorem dX6_used_84 : decode cX6_used 84 = .ok (.aload_n 0, 1) := by decide +kernel
theorem dX6_used_85 : decode cX6_used 85 = .ok (.getfield 26, 3) := by decide +kernel
theorem dX6_used_88 : decode cX6_used 88 = .ok (.iload_n 3, 1) := by decide +kernel
theorem dX6_used_89 : decode cX6_used 89 = .ok (.iload 4, 2) := by decide +kernel
theorem dX6_used_91 : decode cX6_used 91 = .ok (.iastore, 1) := by decide +kernel
theorem dX6_used_92 : decode cX6_used 92 = .ok (.iload 4, 2) := by decide +kernel
theorem dX6_used_94 : decode cX6_used 94 = .ok (.ireturn, 1) := by decide +kernel
theorem dX6_nameFound_0 : decode cX6_nameFound 0 = .ok (.aload_n 0, 1) := by decide +kernel
theorem dX6_nameFound_1 : decode cX6_nameFound 1 = .ok (.getfield 119, 3) := by decide +kernel
theorem dX6_nameFound_4 : decode cX6_nameFound 4 = .ok (.iconst 1, 1) := by decide +kernel
theorem dX6_nameFound_5 : decode cX6_nameFound 5 = .ok (.isub, 1) := by decide +kernel
theorem dX6_nameFound_6 : decode cX6_nameFound 6 = .ok (.istore_n 2, 1) := by decide +kernel
theorem dX6_nameFound_7 : decode cX6_nameFound 7 = .ok (.iload_n 2, 1) := by decide +kernel
theorem dX6_nameFound_8 : decode cX6_nameFound 8 = .ok (.ifCond .lt 39, 3) := by decide +kernel
theorem dX6_nameFound_11 : decode cX6_nameFound 11 = .ok (.aload_n 0, 1) := by decide +kernel
theorem dX6_nameFound_12 : decode cX6_nameFound 12 = .ok (.getfield 29, 3) := by decide +kernel
theorem dX6_nameFound_15 : decode cX6_nameFound 15 = .ok (.iload_n 2, 1) := by decide +kernel
theorem dX6_nameFound_16 : decode cX6_nameFound 16 = .ok (.iaload, 1) := by decide +kernel
theorem dX6_nameFound_17 : decode cX6_nameFound 17 = .ok (.aload_n 0, 1) := by decide +kernel
theorem dX6_nameFound_18 : decode cX6_nameFound 18 = .ok (.iload_n 1, 1) := by decide +kernel
theorem dX6_nameFound_19 : decode cX6_nameFound 19 = .ok (.iconst 4, 1) := by decide +kernel
theorem dX6_nameFound_20 : decode cX6_nameFound 20 = .ok (.invokevirtual 46, 3) := by decide +kernel
theorem dX6_nameFound_23 : decode cX6_nameFound 23 = .ok (.if_icmp .ne 18, 3) := by decide +kernel
theorem dX6_nameFound_26 : decode cX6_nameFound 26 = .ok (.aload_n 0, 1) := by decide +kernel
theorem dX6_nameFound_27 : decode cX6_nameFound 27 = .ok (.aload_n 0, 1) := by decide +kernel
theorem dX6_nameFound_28 : decode cX6_nameFound 28 = .ok (.getfield 32, 3) := by decide +kernel
theorem dX6_nameFound_31 : decode cX6_nameFound 31 = .ok (.iload_n 2, 1) := by decide +kernel
theorem dX6_nameFound_32 : decode cX6_nameFound 32 = .ok (.iaload, 1) := by decide +kernel
theorem dX6_nameFound_33 : decode cX6_nameFound 33 = .ok (.aload_n 0, 1) := by decide +kernel
theorem dX6_nameFound_34 : decode cX6_nameFound 34 = .ok (.getfield 78, 3) := by decide +kernel
theorem dX6_nameFound_37 : decode cX6_nameFound 37 = .ok (.invokevirtual 132, 3) := by decide +kernel
theorem dX6_nameFound_40 : decode cX6_nameFound 40 = .ok (.ireturn, 1) := by decide +kernel
theorem dX6_nameFound_41 : decode cX6_nameFound 41 = .ok (.iinc 2 (-1), 3) := by decide +kernel
theorem dX6_nameFound_44 : decode cX6_nameFound 44 = .ok (.goto (-37), 3) := by decide +kernel
theorem dX6_nameFound_47 : decode cX6_nameFound 47 = .ok (.aload_n 0, 1) := by decide +kernel
theorem dX6_nameFound_48 : decode cX6_nameFound 48 = .ok (.iconst 1, 1) := by decide +kernel
theorem dX6_nameFound_49 : decode cX6_nameFound 49 = .ok (.iload_n 1, 1) := by decide +kernel
theorem dX6_nameFound_50 : decode cX6_nameFound 50 = .ok (.invokevirtual 105, 3) := by decide +kernel
theorem dX6_nameFound_53 : decode cX6_nameFound 53 = .ok (.ireturn, 1) := by decide +kernel
section M3
variable {p : Program} {l : Launch} {e : Env} {R : Room} {s : State} {m : MethodId} {args : Array Value} {below : List Frame} {meth : Method} {c : Code} {D : va_G} {g : gT} {N : Nat} {ad ln ad0 ln0 : Nat → Nat}
def mX6_node_b87 (N cp k n : Nat) (A : gM) (x1 : Int32) (x2 : Int32) (x3 : Int32) : Option (gM × (Nat × Nat × Nat) × Int32) :=
  if g_in (A 183 3) cp = true then g_let (g_up A 185 (A 183 3).toNatClampNeg x1) fun A2 =>
  if g_in (A2 183 3) cp = true then g_let (g_up A2 186 (A2 183 3).toNatClampNeg x2) fun A4 =>
  if g_in (A4 183 3) cp = true then g_let (g_up A4 187 (A4 183 3).toNatClampNeg x3) fun A6 =>
  if g_in (A6 183 3) cp = true then g_let (g_up A6 188 (A6 183 3).toNatClampNeg (vp_nar .boolean 0)) fun A8 =>
  if g_in (A8 183 3) cp = true then g_let (g_up A8 189 (A8 183 3).toNatClampNeg (-1)) fun A10 =>
  g_let (g_up A10 183 3 ((A10 183 3) + 1)) fun A11 =>
  some (A11, (cp, k, n), ((A11 183 3) - 1))
  else none
  else none
  else none
  else none
  else none
def mX6_node_b0 (N cp k n : Nat) (A : gM) (x1 : Int32) (x2 : Int32) (x3 : Int32) : Option (gM × (Nat × Nat × Nat) × Int32) :=
  if (A 183 3) = (Int32.ofNat cp) then
  if g_grok A cp = true then
  mX6_node_b87 N (2 * cp) (k + 5) (n + 10 * cp) (g_grown A cp) x1 x2 x3
  else none
  else
  mX6_node_b87 N cp k n A x1 x2 x3
def mX6_node (N cp : Nat) (A : gM) (x1 : Int32) (x2 : Int32) (x3 : Int32) : Option (gM × (Nat × Nat × Nat) × Int32) := mX6_node_b0 N cp 0 0 A x1 x2 x3
set_option maxHeartbeats 2000000 in
set_option maxRecDepth 20000 in
theorem oX6_node_b87 {N : Nat} {A' : gM} {u : Nat × Nat × Nat} {r : Int32}  {cp k n : Nat} {A : gM} {x1 : Int32} {x2 : Int32} {x3 : Int32} (h : mX6_node_b87 N cp k n A x1 x2 x3 = some (A', u, r)) : k ≤ u.2.1 ∧ n ≤ u.2.2 := by
  unfold mX6_node_b87 at h
  obtain ⟨hg1, h⟩ := g_gd h
  obtain ⟨A2, eA2, h⟩ := g_lt h
  obtain ⟨hg3, h⟩ := g_gd h
  obtain ⟨A4, eA4, h⟩ := g_lt h
  obtain ⟨hg5, h⟩ := g_gd h
  obtain ⟨A6, eA6, h⟩ := g_lt h
  obtain ⟨hg7, h⟩ := g_gd h
  obtain ⟨A8, eA8, h⟩ := g_lt h
  obtain ⟨hg9, h⟩ := g_gd h
  obtain ⟨A10, eA10, h⟩ := g_lt h
  obtain ⟨A11, eA11, h⟩ := g_lt h
  obtain ⟨rfl, h2⟩ := Prod.mk.inj (Option.some.inj h)
  obtain ⟨rfl, rfl⟩ := Prod.mk.inj h2
  exact ⟨Nat.le_refl _, Nat.le_refl _⟩

set_option maxHeartbeats 2000000 in
set_option maxRecDepth 20000 in
theorem wX6_node_b87 (hN : 193 ≤ N)  {A0 A' : gM} {u : Nat × Nat × Nat} {r : Int32} (C : gC p (g_rmx 3 u.2.1 u.2.2) s m args meth c cX6_node RX6 5 D g (va_A (gw g ad0 ln0 A0 N) s.heap.size) 3) (hr : meth.sig.returnType = some .int)  {cp k n : Nat} (hch : g_chg N ad0 ln0 ad ln cp) {A : gM} {x1 : Int32} {x2 : Int32} {x3 : Int32} (h : mX6_node_b87 N cp k n A x1 x2 x3 = some (A', u, r)) : gJ p l e (g_rmx 3 u.2.1 u.2.2) s m args below meth c (gEAi below D g N ad0 ln0 A0 A' u r args s) 5 D g (va_A (gw g ad0 ln0 A0 N) s.heap.size) N ad ln A [(0, gr 183), (1, gi x1), (2, gi x2), (3, gi x3)] k n 87 [] := by
  have hkn := oX6_node_b87 h
  unfold mX6_node_b87 at h
  refine g_aload_n C 0 dX6_node_87 rfl ?_
  refine g_get (v := gr 185) C 183 4 (by omega) rfl rfl gu_6 (by decide) qf_X6_13 rfl dX6_node_88 ?_
  refine g_aload_n C 0 dX6_node_91 rfl ?_
  refine g_get (v := gi (A 183 3)) C 183 3 (by omega) rfl rfl gu_6 (by decide) qf_X6_78 rfl dX6_node_92 ?_
  refine g_iload_n C 1 dX6_node_95 rfl ?_
  obtain ⟨hg1, h⟩ := g_gd h
  obtain ⟨A2, eA2, h⟩ := g_lt h
  refine g_iast C 185 (by omega) rfl (show g_ln ln 185 = cp from hch.2.1) hg1 eA2 dX6_node_96 ?_
  refine g_aload_n C 0 dX6_node_97 rfl ?_
  refine g_get (v := gr 186) C 183 5 (by omega) rfl rfl gu_6 (by decide) qf_X6_16 rfl dX6_node_98 ?_
  refine g_aload_n C 0 dX6_node_101 rfl ?_
  refine g_get (v := gi (A2 183 3)) C 183 3 (by omega) rfl rfl gu_6 (by decide) qf_X6_78 rfl dX6_node_102 ?_
  refine g_iload_n C 2 dX6_node_105 rfl ?_
  obtain ⟨hg3, h⟩ := g_gd h
  obtain ⟨A4, eA4, h⟩ := g_lt h
  refine g_iast C 186 (by omega) rfl (show g_ln ln 186 = cp from hch.2.2.1) hg3 eA4 dX6_node_106 ?_
  refine g_aload_n C 0 dX6_node_107 rfl ?_
  refine g_get (v := gr 187) C 183 6 (by omega) rfl rfl gu_6 (by decide) qf_X6_19 rfl dX6_node_108 ?_
  refine g_aload_n C 0 dX6_node_111 rfl ?_
  refine g_get (v := gi (A4 183 3)) C 183 3 (by omega) rfl rfl gu_6 (by decide) qf_X6_78 rfl dX6_node_112 ?_
  refine g_iload_n C 3 dX6_node_115 rfl ?_
  obtain ⟨hg5, h⟩ := g_gd h
  obtain ⟨A6, eA6, h⟩ := g_lt h
  refine g_iast C 187 (by omega) rfl (show g_ln ln 187 = cp from hch.2.2.2.1) hg5 eA6 dX6_node_116 ?_
  refine g_aload_n C 0 dX6_node_117 rfl ?_
  refine g_get (v := gr 188) C 183 7 (by omega) rfl rfl gu_6 (by decide) qf_X6_22 rfl dX6_node_118 ?_
  refine g_aload_n C 0 dX6_node_121 rfl ?_
  refine g_get (v := gi (A6 183 3)) C 183 3 (by omega) rfl rfl gu_6 (by decide) qf_X6_78 rfl dX6_node_122 ?_
  refine g_iconst (v := 0) C dX6_node_125 (by decide) ?_
  obtain ⟨hg7, h⟩ := g_gd h
  obtain ⟨A8, eA8, h⟩ := g_lt h
  refine g_zast C (by omega) (by rw [hch.2.2.2.2.1]; exact hg7) eA8 dX6_node_126 ?_
  refine g_aload_n C 0 dX6_node_127 rfl ?_
  refine g_get (v := gr 189) C 183 8 (by omega) rfl rfl gu_6 (by decide) qf_X6_26 rfl dX6_node_128 ?_
  refine g_aload_n C 0 dX6_node_131 rfl ?_
  refine g_get (v := gi (A8 183 3)) C 183 3 (by omega) rfl rfl gu_6 (by decide) qf_X6_78 rfl dX6_node_132 ?_
  refine g_iconst (v := (-1)) C dX6_node_135 (by decide) ?_
  obtain ⟨hg9, h⟩ := g_gd h
  obtain ⟨A10, eA10, h⟩ := g_lt h
  refine g_iast C 189 (by omega) rfl (show g_ln ln 189 = cp from hch.2.2.2.2.2) hg9 eA10 dX6_node_136 ?_
  refine g_aload_n C 0 dX6_node_137 rfl ?_
  refine g_dup_r C dX6_node_138 ?_
  refine g_get (v := gi (A10 183 3)) C 183 3 (by omega) rfl rfl gu_6 (by decide) qf_X6_78 rfl dX6_node_139 ?_
  refine g_iconst (v := 1) C dX6_node_142 (by decide) ?_
  refine g_iadd C dX6_node_143 ?_
  obtain ⟨A11, eA11, h⟩ := g_lt h
  refine g_put C 183 3 tyX6 tyX6_ok nmX6 (by omega) rfl rfl gu_6 (by decide) qf_X6_78 rfl (by decide +kernel) (Nat.le_of_ble_eq_true rfl) rfl eA11 dX6_node_144 ?_
  refine g_aload_n C 0 dX6_node_147 rfl ?_
  refine g_get (v := gi (A11 183 3)) C 183 3 (by omega) rfl rfl gu_6 (by decide) qf_X6_78 rfl dX6_node_148 ?_
  refine g_iconst (v := 1) C dX6_node_151 (by decide) ?_
  refine g_isub C dX6_node_152 ?_
  obtain ⟨rfl, h2⟩ := Prod.mk.inj (Option.some.inj h)
  obtain ⟨rfl, rfl⟩ := Prod.mk.inj h2
  exact g_retAi C hch hr dX6_node_153

set_option maxHeartbeats 2000000 in
set_option maxRecDepth 20000 in
theorem oX6_node_b0 {N : Nat} {A' : gM} {u : Nat × Nat × Nat} {r : Int32}  {cp k n : Nat} {A : gM} {x1 : Int32} {x2 : Int32} {x3 : Int32} (h : mX6_node_b0 N cp k n A x1 x2 x3 = some (A', u, r)) : k ≤ u.2.1 ∧ n ≤ u.2.2 := by
  unfold mX6_node_b0 at h
  by_cases c1 : (A 183 3) = (Int32.ofNat cp)
  · have h := g_tt c1 h
    obtain ⟨hg, h⟩ := g_gd h
    have mo := oX6_node_b87 h
    exact ⟨by omega, by omega⟩
  · have h := g_ff c1 h
    exact oX6_node_b87 h

set_option maxHeartbeats 2000000 in
set_option maxRecDepth 20000 in
theorem wX6_node_b0 (hN : 193 ≤ N)  {A0 A' : gM} {u : Nat × Nat × Nat} {r : Int32} (C : gC p (g_rmx 3 u.2.1 u.2.2) s m args meth c cX6_node RX6 5 D g (va_A (gw g ad0 ln0 A0 N) s.heap.size) 3) (hr : meth.sig.returnType = some .int)  {cp k n : Nat} (hch : g_chg N ad0 ln0 ad ln cp) {A : gM} {x1 : Int32} {x2 : Int32} {x3 : Int32} (h : mX6_node_b0 N cp k n A x1 x2 x3 = some (A', u, r)) : gJ p l e (g_rmx 3 u.2.1 u.2.2) s m args below meth c (gEAi below D g N ad0 ln0 A0 A' u r args s) 5 D g (va_A (gw g ad0 ln0 A0 N) s.heap.size) N ad ln A [(0, gr 183), (1, gi x1), (2, gi x2), (3, gi x3)] k n 0 [] := by
  have hkn := oX6_node_b0 h
  unfold mX6_node_b0 at h
  refine g_aload_n C 0 dX6_node_0 rfl ?_
  refine g_get (v := gi (A 183 3)) C 183 3 (by omega) rfl rfl gu_6 (by decide) qf_X6_78 rfl dX6_node_1 ?_
  refine g_aload_n C 0 dX6_node_4 rfl ?_
  refine g_get (v := gr 185) C 183 4 (by omega) rfl rfl gu_6 (by decide) qf_X6_13 rfl dX6_node_5 ?_
  refine g_alen (v := Int32.ofNat cp) C 185 (by omega) rfl (by rw [(show g_ln ln 185 = cp from hch.2.1)]) dX6_node_8 ?_
  refine g_icmp_ne C dX6_node_9 (tgt := 87) (by decide) (fun c1 => ?_) (fun c1 => ?_)
  · have h := g_ff c1 h
    refine g_sub [0, 1, 2, 3] rfl ?_
    exact wX6_node_b87 hN C hr hch h
  · have h := g_tt c1 h
    have hcN := c1
    obtain ⟨hg, h⟩ := g_gd h
    have mo := oX6_node_b87 h
    refine g_grow hN C hch hg (by omega) hcN ⟨mo.1, mo.2⟩ (fun ad ln hch => ?_)
    refine g_sub [0, 1, 2, 3] rfl ?_
    exact wX6_node_b87 hN C hr hch h

set_option maxHeartbeats 2000000 in
set_option maxRecDepth 20000 in
theorem kX6_node {l : Launch} {D : va_G} {g : gT} {N : Nat} (hN : 193 ≤ N) {ad ln : Nat → Nat} {cp : Nat} (hcp : g_cap ln cp) {A A' : gM} {x1 : Int32} {x2 : Int32} {x3 : Int32} {u : Nat × Nat × Nat} {r : Int32} (h : mX6_node N cp A x1 x2 x3 = some (A', u, r)) : gAi l yX6_node cX6_node 5 (some .int) (3) D g N ad ln A [gr 183, gi x1, gi x2, gi x3] A' u r := by
  refine g_metAi (by decide) (Nat.le_of_ble_eq_true rfl) ?_
  intro p e s m args below meth c C hr
  refine g_sub [0, 1, 2, 3] rfl ?_
  exact wX6_node_b0 hN C hr (g_chg.rf hcp) h
def mX6_variable_b7 (N cp k n : Nat) (A : gM) (s0 : Int32) : Option (gM × (Nat × Nat × Nat) × Int32) :=
  some (A, (cp, k, n), s0)
def mX6_variable_b0 (N cp k n : Nat) (A : gM) : Option (gM × (Nat × Nat × Nat) × Int32) :=
  (mX6_node N cp A 4 (-1) (-1)).bind fun q1 =>
  mX6_variable_b7 N q1.2.1.1 (k + q1.2.1.2.1) (n + q1.2.1.2.2) q1.1 q1.2.2
def mX6_variable (N cp : Nat) (A : gM) : Option (gM × (Nat × Nat × Nat) × Int32) := mX6_variable_b0 N cp 0 0 A
set_option maxHeartbeats 2000000 in
set_option maxRecDepth 20000 in
theorem oX6_variable_b7 {N : Nat} {A' : gM} {u : Nat × Nat × Nat} {r : Int32}  {cp k n : Nat} {A : gM} {s0 : Int32} (h : mX6_variable_b7 N cp k n A s0 = some (A', u, r)) : k ≤ u.2.1 ∧ n ≤ u.2.2 := by
  unfold mX6_variable_b7 at h
  obtain ⟨rfl, h2⟩ := Prod.mk.inj (Option.some.inj h)
  obtain ⟨rfl, rfl⟩ := Prod.mk.inj h2
  exact ⟨Nat.le_refl _, Nat.le_refl _⟩

set_option maxHeartbeats 2000000 in
set_option maxRecDepth 20000 in
theorem wX6_variable_b7 (hN : 193 ≤ N)  {A0 A' : gM} {u : Nat × Nat × Nat} {r : Int32} (C : gC p (g_rmx 4 u.2.1 u.2.2) s m args meth c cX6_variable RX6 1 D g (va_A (gw g ad0 ln0 A0 N) s.heap.size) 4) (hr : meth.sig.returnType = some .int)  {cp k n : Nat} (hch : g_chg N ad0 ln0 ad ln cp) {A : gM} {s0 : Int32} (h : mX6_variable_b7 N cp k n A s0 = some (A', u, r)) : gJ p l e (g_rmx 4 u.2.1 u.2.2) s m args below meth c (gEAi below D g N ad0 ln0 A0 A' u r args s) 1 D g (va_A (gw g ad0 ln0 A0 N) s.heap.size) N ad ln A [] k n 7 [gi s0] := by
  have hkn := oX6_variable_b7 h
  unfold mX6_variable_b7 at h
  obtain ⟨rfl, h2⟩ := Prod.mk.inj (Option.some.inj h)
  obtain ⟨rfl, rfl⟩ := Prod.mk.inj h2
  exact g_retAi C hch hr dX6_variable_7

set_option maxHeartbeats 2000000 in
set_option maxRecDepth 20000 in
theorem oX6_variable_b0 {N : Nat} {A' : gM} {u : Nat × Nat × Nat} {r : Int32}  {cp k n : Nat} {A : gM} (h : mX6_variable_b0 N cp k n A = some (A', u, r)) : k ≤ u.2.1 ∧ n ≤ u.2.2 := by
  unfold mX6_variable_b0 at h
  obtain ⟨q1, eq1, h⟩ := g_bd h
  have mo := oX6_variable_b7 h
  exact ⟨by omega, by omega⟩

set_option maxHeartbeats 2000000 in
set_option maxRecDepth 20000 in
theorem wX6_variable_b0 (hN : 193 ≤ N)  {A0 A' : gM} {u : Nat × Nat × Nat} {r : Int32} (C : gC p (g_rmx 4 u.2.1 u.2.2) s m args meth c cX6_variable RX6 1 D g (va_A (gw g ad0 ln0 A0 N) s.heap.size) 4) (hr : meth.sig.returnType = some .int)  {cp k n : Nat} (hch : g_chg N ad0 ln0 ad ln cp) {A : gM} (h : mX6_variable_b0 N cp k n A = some (A', u, r)) : gJ p l e (g_rmx 4 u.2.1 u.2.2) s m args below meth c (gEAi below D g N ad0 ln0 A0 A' u r args s) 1 D g (va_A (gw g ad0 ln0 A0 N) s.heap.size) N ad ln A [(0, gr 183)] k n 0 [] := by
  have hkn := oX6_variable_b0 h
  unfold mX6_variable_b0 at h
  refine g_aload_n C 0 dX6_variable_0 rfl ?_
  refine g_iconst (v := 4) C dX6_variable_1 (by decide) ?_
  refine g_iconst (v := (-1)) C dX6_variable_2 (by decide) ?_
  refine g_iconst (v := (-1)) C dX6_variable_3 (by decide) ?_
  obtain ⟨q1, eq1, h⟩ := g_bd h
  have mo := oX6_variable_b7 h
  refine g_callAiV C 183 [gi 4, gi (-1), gi (-1)] (kX6_node hN hch.2 eq1) qs_X6_85 (by omega) (by omega) rfl rfl rfl rfl (Nat.le_of_ble_eq_true rfl) ⟨mo.1, mo.2⟩ (And.intro ⟨by omega, by omega⟩ True.intro) True.intro dX6_variable_4 (fun ad1 ln1 hch1 => ?_)
  have hch := g_chg.trans (by omega) hch hch1
  refine g_sub [] rfl ?_
  exact wX6_variable_b7 hN C hr hch h

set_option maxHeartbeats 2000000 in
set_option maxRecDepth 20000 in
theorem kX6_variable {l : Launch} {D : va_G} {g : gT} {N : Nat} (hN : 193 ≤ N) {ad ln : Nat → Nat} {cp : Nat} (hcp : g_cap ln cp) {A A' : gM} {u : Nat × Nat × Nat} {r : Int32} (h : mX6_variable N cp A = some (A', u, r)) : gAi l yX6_variable cX6_variable 1 (some .int) (4) D g N ad ln A [gr 183] A' u r := by
  refine g_metAi (by decide) (Nat.le_of_ble_eq_true rfl) ?_
  intro p e s m args below meth c C hr
  refine g_sub [0] rfl ?_
  exact wX6_variable_b0 hN C hr (g_chg.rf hcp) h
def mX6_put_b4 (N cp k n : Nat) (A : gM) (x1 : Int32) (x2 : Int32) (x3 : Int32) (x4 : Int32) (x5 : Int32) (ws0 : Nat) : Option (gM × (Nat × Nat × Nat)) :=
  if g_in 0 ws0 = true then g_let (g_up A N (0 : Int32).toNatClampNeg x1) fun A2 =>
  if g_in 1 ws0 = true then g_let (g_up A2 N (1 : Int32).toNatClampNeg x2) fun A4 =>
  if g_in 2 ws0 = true then g_let (g_up A4 N (2 : Int32).toNatClampNeg x3) fun A6 =>
  if g_in 3 ws0 = true then g_let (g_up A6 N (3 : Int32).toNatClampNeg x4) fun A8 =>
  if g_in 4 ws0 = true then g_let (g_up A8 N (4 : Int32).toNatClampNeg x5) fun A10 =>
  (mX6_size cp A10 x2).bind fun q11 =>
  (mX6_size cp q11.1 x3).bind fun q12 =>
  (mX6_size cp q12.1 x4).bind fun q13 =>
  if g_in 5 ws0 = true then g_let (g_up q13.1 N (5 : Int32).toNatClampNeg (((1 + q11.2) + q12.2) + q13.2)) fun A15 =>
  if ¬ 0 < (0 : Int32) ∧ ¬ (6 * (A15 183 1)) < (0 : Int32) ∧ ¬ 6 < (0 : Int32) ∧ (0 : Int32).toNatClampNeg + (6 : Int32).toNatClampNeg ≤ ws0 ∧ (6 * (A15 183 1)).toNatClampNeg + (6 : Int32).toNatClampNeg ≤ 246 then g_let (g_row A15 184 (va_cpy (A15 N) (A15 184) (0 : Int32).toNatClampNeg (6 * (A15 183 1)).toNatClampNeg (6 : Int32).toNatClampNeg)) fun A17 =>
  some (A17, (cp, k, n))
  else none
  else none
  else none
  else none
  else none
  else none
  else none
def mX6_put_b0 (N cp k n : Nat) (A : gM) (x1 : Int32) (x2 : Int32) (x3 : Int32) (x4 : Int32) (x5 : Int32) : Option (gM × (Nat × Nat × Nat)) :=
  if ¬ 6 < (0 : Int32) ∧ (6 : Int32).toNatClampNeg ≤ 100000 then
  mX6_put_b4 N cp (k + 1) (n + (6 : Int32).toNatClampNeg) (g_row A N (fun _ => 0)) x1 x2 x3 x4 x5 ((6 : Int32).toNatClampNeg)
  else none
def mX6_put (N cp : Nat) (A : gM) (x1 : Int32) (x2 : Int32) (x3 : Int32) (x4 : Int32) (x5 : Int32) : Option (gM × (Nat × Nat × Nat)) := mX6_put_b0 N cp 0 0 A x1 x2 x3 x4 x5
set_option maxHeartbeats 2000000 in
set_option maxRecDepth 20000 in
theorem oX6_put_b4 {N : Nat} {A' : gM} {u : Nat × Nat × Nat}  {cp k n : Nat} {A : gM} {x1 : Int32} {x2 : Int32} {x3 : Int32} {x4 : Int32} {x5 : Int32} {ws0 : Nat} (h : mX6_put_b4 N cp k n A x1 x2 x3 x4 x5 ws0 = some (A', u)) : k ≤ u.2.1 ∧ n ≤ u.2.2 := by
  unfold mX6_put_b4 at h
  obtain ⟨hg1, h⟩ := g_gd h
  obtain ⟨A2, eA2, h⟩ := g_lt h
  obtain ⟨hg3, h⟩ := g_gd h
  obtain ⟨A4, eA4, h⟩ := g_lt h
  obtain ⟨hg5, h⟩ := g_gd h
  obtain ⟨A6, eA6, h⟩ := g_lt h
  obtain ⟨hg7, h⟩ := g_gd h
  obtain ⟨A8, eA8, h⟩ := g_lt h
  obtain ⟨hg9, h⟩ := g_gd h
  obtain ⟨A10, eA10, h⟩ := g_lt h
  obtain ⟨q11, eq11, h⟩ := g_bd h
  obtain ⟨q12, eq12, h⟩ := g_bd h
  obtain ⟨q13, eq13, h⟩ := g_bd h
  obtain ⟨hg14, h⟩ := g_gd h
  obtain ⟨A15, eA15, h⟩ := g_lt h
  obtain ⟨hg16, h⟩ := g_gd h
  obtain ⟨A17, eA17, h⟩ := g_lt h
  obtain ⟨rfl, rfl⟩ := Prod.mk.inj (Option.some.inj h)
  exact ⟨Nat.le_refl _, Nat.le_refl _⟩

set_option maxHeartbeats 2000000 in
set_option maxRecDepth 20000 in
theorem wX6_put_b4 (hN : 193 ≤ N)  {A0 A' : gM} {u : Nat × Nat × Nat} (C : gC p (g_rmx 3 u.2.1 u.2.2) s m args meth c cX6_put RX6 7 D g (va_A (gw g ad0 ln0 A0 N) s.heap.size) 3) (hr : meth.sig.returnType = none)  {cp k n : Nat} (hch : g_chg N ad0 ln0 ad ln cp) {A : gM} {x1 : Int32} {x2 : Int32} {x3 : Int32} {x4 : Int32} {x5 : Int32} {ws0 : Nat} (hws0 : g_ln ln N = ws0) (h : mX6_put_b4 N cp k n A x1 x2 x3 x4 x5 ws0 = some (A', u)) : gJ p l e (g_rmx 3 u.2.1 u.2.2) s m args below meth c (gEAv below D g N ad0 ln0 A0 A' u args s) 7 D g (va_A (gw g ad0 ln0 A0 N) s.heap.size) (N + 1) ad ln A [(0, gr 183), (1, gi x1), (2, gi x2), (3, gi x3), (4, gi x4), (5, gi x5)] k n 4 [gr N] := by
  have hkn := oX6_put_b4 h
  unfold mX6_put_b4 at h
  refine g_dup_r C dX6_put_4 ?_
  refine g_iconst (v := 0) C dX6_put_5 (by decide) ?_
  refine g_iload_n C 1 dX6_put_6 rfl ?_
  obtain ⟨hg1, h⟩ := g_gd h
  obtain ⟨A2, eA2, h⟩ := g_lt h
  refine g_iast C N (by omega) (g_isI_big (by omega)) hws0 hg1 eA2 dX6_put_7 ?_
  refine g_dup_r C dX6_put_8 ?_
  refine g_iconst (v := 1) C dX6_put_9 (by decide) ?_
  refine g_iload_n C 2 dX6_put_10 rfl ?_
  obtain ⟨hg3, h⟩ := g_gd h
  obtain ⟨A4, eA4, h⟩ := g_lt h
  refine g_iast C N (by omega) (g_isI_big (by omega)) hws0 hg3 eA4 dX6_put_11 ?_
  refine g_dup_r C dX6_put_12 ?_
  refine g_iconst (v := 2) C dX6_put_13 (by decide) ?_
  refine g_iload_n C 3 dX6_put_14 rfl ?_
  obtain ⟨hg5, h⟩ := g_gd h
  obtain ⟨A6, eA6, h⟩ := g_lt h
  refine g_iast C N (by omega) (g_isI_big (by omega)) hws0 hg5 eA6 dX6_put_15 ?_
  refine g_dup_r C dX6_put_16 ?_
  refine g_iconst (v := 3) C dX6_put_17 (by decide) ?_
  refine g_iload C 4 dX6_put_18 rfl ?_
  obtain ⟨hg7, h⟩ := g_gd h
  obtain ⟨A8, eA8, h⟩ := g_lt h
  refine g_iast C N (by omega) (g_isI_big (by omega)) hws0 hg7 eA8 dX6_put_20 ?_
  refine g_dup_r C dX6_put_21 ?_
  refine g_iconst (v := 4) C dX6_put_22 (by decide) ?_
  refine g_iload C 5 dX6_put_23 rfl ?_
  obtain ⟨hg9, h⟩ := g_gd h
  obtain ⟨A10, eA10, h⟩ := g_lt h
  refine g_iast C N (by omega) (g_isI_big (by omega)) hws0 hg9 eA10 dX6_put_25 ?_
  refine g_dup_r C dX6_put_26 ?_
  refine g_iconst (v := 5) C dX6_put_27 (by decide) ?_
  refine g_iconst (v := 1) C dX6_put_28 (by decide) ?_
  refine g_aload_n C 0 dX6_put_29 rfl ?_
  refine g_iload_n C 2 dX6_put_30 rfl ?_
  obtain ⟨q11, eq11, h⟩ := g_bd h
  refine g_calliV C 183 [gi x2] (kX6_size (by omega) hch.2 eq11) qs_X6_50 (by omega) (by omega) rfl rfl rfl rfl (Nat.le_of_ble_eq_true rfl) hkn dX6_put_31 ?_
  refine g_iadd C dX6_put_34 ?_
  refine g_aload_n C 0 dX6_put_35 rfl ?_
  refine g_iload_n C 3 dX6_put_36 rfl ?_
  obtain ⟨q12, eq12, h⟩ := g_bd h
  refine g_calliV C 183 [gi x3] (kX6_size (by omega) hch.2 eq12) qs_X6_50 (by omega) (by omega) rfl rfl rfl rfl (Nat.le_of_ble_eq_true rfl) hkn dX6_put_37 ?_
  refine g_iadd C dX6_put_40 ?_
  refine g_aload_n C 0 dX6_put_41 rfl ?_
  refine g_iload C 4 dX6_put_42 rfl ?_
  obtain ⟨q13, eq13, h⟩ := g_bd h
  refine g_calliV C 183 [gi x4] (kX6_size (by omega) hch.2 eq13) qs_X6_50 (by omega) (by omega) rfl rfl rfl rfl (Nat.le_of_ble_eq_true rfl) hkn dX6_put_44 ?_
  refine g_iadd C dX6_put_47 ?_
  obtain ⟨hg14, h⟩ := g_gd h
  obtain ⟨A15, eA15, h⟩ := g_lt h
  refine g_iast C N (by omega) (g_isI_big (by omega)) hws0 hg14 eA15 dX6_put_48 ?_
  refine g_astore C dX6_put_49 (by decide) rfl ?_
  refine g_aload C 0 dX6_put_51 rfl ?_
  refine g_iconst (v := 0) C dX6_put_53 (by decide) ?_
  refine g_aload_n C 1 dX6_put_54 rfl ?_
  refine g_get (v := gr 184) C 183 2 (by omega) rfl rfl gu_6 (by decide) qf_X6_9 rfl dX6_put_55 ?_
  refine g_bipush (v := 6) C dX6_put_58 (by decide) ?_
  refine g_aload_n C 1 dX6_put_60 rfl ?_
  refine g_get (v := gi (A15 183 1)) C 183 1 (by omega) rfl rfl gu_6 (by decide) qf_X6_39 rfl dX6_put_61 ?_
  refine g_imul C dX6_put_64 ?_
  refine g_bipush (v := 6) C dX6_put_65 (by decide) ?_
  obtain ⟨hg16, h⟩ := g_gd h
  obtain ⟨A17, eA17, h⟩ := g_lt h
  refine g_copy C N 184 qsC_X6_54 (by omega) (g_isI_big (by omega)) hws0 (by omega) rfl rfl hg16.1 hg16.2.1 hg16.2.2.1 hg16.2.2.2.1 hg16.2.2.2.2 (by omega) (Nat.le_of_ble_eq_true rfl) eA17 dX6_put_67 ?_
  obtain ⟨rfl, rfl⟩ := Prod.mk.inj (Option.some.inj h)
  refine g_drop ?_
  exact g_retAv C hch hr dX6_put_70

set_option maxHeartbeats 2000000 in
set_option maxRecDepth 20000 in
theorem oX6_put_b0 {N : Nat} {A' : gM} {u : Nat × Nat × Nat}  {cp k n : Nat} {A : gM} {x1 : Int32} {x2 : Int32} {x3 : Int32} {x4 : Int32} {x5 : Int32} (h : mX6_put_b0 N cp k n A x1 x2 x3 x4 x5 = some (A', u)) : k ≤ u.2.1 ∧ n ≤ u.2.2 := by
  unfold mX6_put_b0 at h
  obtain ⟨hg1, h⟩ := g_gd h
  have mo := oX6_put_b4 h
  exact ⟨by omega, by omega⟩

set_option maxHeartbeats 2000000 in
set_option maxRecDepth 20000 in
theorem wX6_put_b0 (hN : 193 ≤ N)  {A0 A' : gM} {u : Nat × Nat × Nat} (C : gC p (g_rmx 3 u.2.1 u.2.2) s m args meth c cX6_put RX6 7 D g (va_A (gw g ad0 ln0 A0 N) s.heap.size) 3) (hr : meth.sig.returnType = none)  {cp k n : Nat} (hch : g_chg N ad0 ln0 ad ln cp) {A : gM} {x1 : Int32} {x2 : Int32} {x3 : Int32} {x4 : Int32} {x5 : Int32} (h : mX6_put_b0 N cp k n A x1 x2 x3 x4 x5 = some (A', u)) : gJ p l e (g_rmx 3 u.2.1 u.2.2) s m args below meth c (gEAv below D g N ad0 ln0 A0 A' u args s) 7 D g (va_A (gw g ad0 ln0 A0 N) s.heap.size) N ad ln A [(0, gr 183), (1, gi x1), (2, gi x2), (3, gi x3), (4, gi x4), (5, gi x5)] k n 0 [] := by
  have hkn := oX6_put_b0 h
  unfold mX6_put_b0 at h
  refine g_bipush (v := 6) C dX6_put_0 (by decide) ?_
  obtain ⟨hg1, h⟩ := g_gd h
  have mo := oX6_put_b4 h
  refine g_newI C (N := N) (by omega) qa_int hg1.1 rfl hg1.2 ⟨mo.1, mo.2⟩ (by simp [g_rlt] <;> omega) (by simp [g_rlt] <;> omega) dX6_put_2 (fun q => ?_)
  have hch : g_chg N ad0 ln0 (va_up ad N q) (va_up ln N (6 : Int32).toNatClampNeg) cp := g_chg_new (by omega) hch
  refine g_sub [0, 1, 2, 3, 4, 5] rfl ?_
  exact wX6_put_b4 hN C hr hch (g_len_made (N := N) (by omega)) h

set_option maxHeartbeats 2000000 in
set_option maxRecDepth 20000 in
theorem kX6_put {l : Launch} {D : va_G} {g : gT} {N : Nat} (hN : 193 ≤ N) {ad ln : Nat → Nat} {cp : Nat} (hcp : g_cap ln cp) {A A' : gM} {x1 : Int32} {x2 : Int32} {x3 : Int32} {x4 : Int32} {x5 : Int32} {u : Nat × Nat × Nat} (h : mX6_put N cp A x1 x2 x3 x4 x5 = some (A', u)) : gAv l yX6_put cX6_put 7 (none) (3) D g N ad ln A [gr 183, gi x1, gi x2, gi x3, gi x4, gi x5] A' u := by
  refine g_metAv (by decide) (Nat.le_of_ble_eq_true rfl) ?_
  intro p e s m args below meth c C hr
  refine g_sub [0, 1, 2, 3, 4, 5] rfl ?_
  exact wX6_put_b0 hN C hr (g_chg.rf hcp) h
def mX6_made_b34 (N cp k n : Nat) (A : gM) (x6 : Int32) : Option (gM × (Nat × Nat × Nat) × Int32) :=
  (mX6_fail cp A x6).bind fun q1 =>
  some (q1.1, (cp, k, n), q1.2)
def mX6_made_b52 (N cp k n : Nat) (A : gM) : Option (gM × (Nat × Nat × Nat) × Int32) :=
  g_let (g_up A 183 1 ((A 183 1) + 1)) fun A1 =>
  some (A1, (cp, k, n), ((A1 183 1) - 1))
def mX6_made_b0 (N cp k n : Nat) (A : gM) (x1 : Int32) (x2 : Int32) (x3 : Int32) (x4 : Int32) (x5 : Int32) (x6 : Int32) : Option (gM × (Nat × Nat × Nat) × Int32) :=
  if (A 183 1) = 40 then
  mX6_made_b34 N cp k n A x6
  else
  (mX6_size cp A x2).bind fun q2 =>
  (mX6_size cp q2.1 x3).bind fun q3 =>
  (mX6_size cp q3.1 x4).bind fun q4 =>
  if (((1 + q2.2) + q3.2) + q4.2) ≤ 60 then
  (mX6_put N cp q4.1 x1 x2 x3 x4 x5).bind fun q6 =>
  mX6_made_b52 N q6.2.1 (k + q6.2.2.1) (n + q6.2.2.2) q6.1
  else
  mX6_made_b34 N cp k n q4.1 x6
def mX6_made (N cp : Nat) (A : gM) (x1 : Int32) (x2 : Int32) (x3 : Int32) (x4 : Int32) (x5 : Int32) (x6 : Int32) : Option (gM × (Nat × Nat × Nat) × Int32) := mX6_made_b0 N cp 0 0 A x1 x2 x3 x4 x5 x6
set_option maxHeartbeats 2000000 in
set_option maxRecDepth 20000 in
theorem oX6_made_b34 {N : Nat} {A' : gM} {u : Nat × Nat × Nat} {r : Int32}  {cp k n : Nat} {A : gM} {x6 : Int32} (h : mX6_made_b34 N cp k n A x6 = some (A', u, r)) : k ≤ u.2.1 ∧ n ≤ u.2.2 := by
  unfold mX6_made_b34 at h
  obtain ⟨q1, eq1, h⟩ := g_bd h
  obtain ⟨rfl, h2⟩ := Prod.mk.inj (Option.some.inj h)
  obtain ⟨rfl, rfl⟩ := Prod.mk.inj h2
  exact ⟨Nat.le_refl _, Nat.le_refl _⟩

set_option maxHeartbeats 2000000 in
set_option maxRecDepth 20000 in
theorem wX6_made_b34 (hN : 193 ≤ N)  {A0 A' : gM} {u : Nat × Nat × Nat} {r : Int32} (C : gC p (g_rmx 4 u.2.1 u.2.2) s m args meth c cX6_made RX6 7 D g (va_A (gw g ad0 ln0 A0 N) s.heap.size) 4) (hr : meth.sig.returnType = some .int)  {cp k n : Nat} (hch : g_chg N ad0 ln0 ad ln cp) {A : gM} {x6 : Int32} (h : mX6_made_b34 N cp k n A x6 = some (A', u, r)) : gJ p l e (g_rmx 4 u.2.1 u.2.2) s m args below meth c (gEAi below D g N ad0 ln0 A0 A' u r args s) 7 D g (va_A (gw g ad0 ln0 A0 N) s.heap.size) N ad ln A [(0, gr 183), (6, gi x6)] k n 34 [] := by
  have hkn := oX6_made_b34 h
  unfold mX6_made_b34 at h
  refine g_aload_n C 0 dX6_made_34 rfl ?_
  refine g_iload C 1 dX6_made_35 rfl ?_
  obtain ⟨q1, eq1, h⟩ := g_bd h
  refine g_calliV C 183 [gi x6] (kX6_fail hN hch.2 eq1) qs_X6_60 (by omega) (by omega) rfl rfl rfl rfl (Nat.le_of_ble_eq_true rfl) hkn dX6_made_37 ?_
  obtain ⟨rfl, h2⟩ := Prod.mk.inj (Option.some.inj h)
  obtain ⟨rfl, rfl⟩ := Prod.mk.inj h2
  exact g_retAi C hch hr dX6_made_40

set_option maxHeartbeats 2000000 in
set_option maxRecDepth 20000 in
theorem oX6_made_b52 {N : Nat} {A' : gM} {u : Nat × Nat × Nat} {r : Int32}  {cp k n : Nat} {A : gM} (h : mX6_made_b52 N cp k n A = some (A', u, r)) : k ≤ u.2.1 ∧ n ≤ u.2.2 := by
  unfold mX6_made_b52 at h
  obtain ⟨A1, eA1, h⟩ := g_lt h
  obtain ⟨rfl, h2⟩ := Prod.mk.inj (Option.some.inj h)
  obtain ⟨rfl, rfl⟩ := Prod.mk.inj h2
  exact ⟨Nat.le_refl _, Nat.le_refl _⟩

set_option maxHeartbeats 2000000 in
set_option maxRecDepth 20000 in
theorem wX6_made_b52 (hN : 193 ≤ N)  {A0 A' : gM} {u : Nat × Nat × Nat} {r : Int32} (C : gC p (g_rmx 4 u.2.1 u.2.2) s m args meth c cX6_made RX6 7 D g (va_A (gw g ad0 ln0 A0 N) s.heap.size) 4) (hr : meth.sig.returnType = some .int)  {cp k n : Nat} (hch : g_chg N ad0 ln0 ad ln cp) {A : gM} (h : mX6_made_b52 N cp k n A = some (A', u, r)) : gJ p l e (g_rmx 4 u.2.1 u.2.2) s m args below meth c (gEAi below D g N ad0 ln0 A0 A' u r args s) 7 D g (va_A (gw g ad0 ln0 A0 N) s.heap.size) N ad ln A [(0, gr 183)] k n 52 [] := by
  have hkn := oX6_made_b52 h
  unfold mX6_made_b52 at h
  refine g_aload_n C 0 dX6_made_52 rfl ?_
  refine g_dup_r C dX6_made_53 ?_
  refine g_get (v := gi (A 183 1)) C 183 1 (by omega) rfl rfl gu_6 (by decide) qf_X6_39 rfl dX6_made_54 ?_
  refine g_iconst (v := 1) C dX6_made_57 (by decide) ?_
  refine g_iadd C dX6_made_58 ?_
  obtain ⟨A1, eA1, h⟩ := g_lt h
  refine g_put C 183 1 tyX6 tyX6_ok nmX6 (by omega) rfl rfl gu_6 (by decide) qf_X6_39 rfl (by decide +kernel) (Nat.le_of_ble_eq_true rfl) rfl eA1 dX6_made_59 ?_
  refine g_aload_n C 0 dX6_made_62 rfl ?_
  refine g_get (v := gi (A1 183 1)) C 183 1 (by omega) rfl rfl gu_6 (by decide) qf_X6_39 rfl dX6_made_63 ?_
  refine g_iconst (v := 1) C dX6_made_66 (by decide) ?_
  refine g_isub C dX6_made_67 ?_
  obtain ⟨rfl, h2⟩ := Prod.mk.inj (Option.some.inj h)
  obtain ⟨rfl, rfl⟩ := Prod.mk.inj h2
  exact g_retAi C hch hr dX6_made_68

set_option maxHeartbeats 2000000 in
set_option maxRecDepth 20000 in
theorem oX6_made_b0 {N : Nat} {A' : gM} {u : Nat × Nat × Nat} {r : Int32}  {cp k n : Nat} {A : gM} {x1 : Int32} {x2 : Int32} {x3 : Int32} {x4 : Int32} {x5 : Int32} {x6 : Int32} (h : mX6_made_b0 N cp k n A x1 x2 x3 x4 x5 x6 = some (A', u, r)) : k ≤ u.2.1 ∧ n ≤ u.2.2 := by
  unfold mX6_made_b0 at h
  by_cases c1 : (A 183 1) = 40
  · have h := g_tt c1 h
    exact oX6_made_b34 h
  · have h := g_ff c1 h
    obtain ⟨q2, eq2, h⟩ := g_bd h
    obtain ⟨q3, eq3, h⟩ := g_bd h
    obtain ⟨q4, eq4, h⟩ := g_bd h
    by_cases c5 : (((1 + q2.2) + q3.2) + q4.2) ≤ 60
    · have h := g_tt c5 h
      obtain ⟨q6, eq6, h⟩ := g_bd h
      have mo := oX6_made_b52 h
      exact ⟨by omega, by omega⟩
    · have h := g_ff c5 h
      exact oX6_made_b34 h

set_option maxHeartbeats 2000000 in
set_option maxRecDepth 20000 in
theorem wX6_made_b0 (hN : 193 ≤ N)  {A0 A' : gM} {u : Nat × Nat × Nat} {r : Int32} (C : gC p (g_rmx 4 u.2.1 u.2.2) s m args meth c cX6_made RX6 7 D g (va_A (gw g ad0 ln0 A0 N) s.heap.size) 4) (hr : meth.sig.returnType = some .int)  {cp k n : Nat} (hch : g_chg N ad0 ln0 ad ln cp) {A : gM} {x1 : Int32} {x2 : Int32} {x3 : Int32} {x4 : Int32} {x5 : Int32} {x6 : Int32} (h : mX6_made_b0 N cp k n A x1 x2 x3 x4 x5 x6 = some (A', u, r)) : gJ p l e (g_rmx 4 u.2.1 u.2.2) s m args below meth c (gEAi below D g N ad0 ln0 A0 A' u r args s) 7 D g (va_A (gw g ad0 ln0 A0 N) s.heap.size) N ad ln A [(0, gr 183), (1, gi x1), (2, gi x2), (3, gi x3), (4, gi x4), (5, gi x5), (6, gi x6)] k n 0 [] := by
  have hkn := oX6_made_b0 h
  unfold mX6_made_b0 at h
  refine g_aload_n C 0 dX6_made_0 rfl ?_
  refine g_get (v := gi (A 183 1)) C 183 1 (by omega) rfl rfl gu_6 (by decide) qf_X6_39 rfl dX6_made_1 ?_
  refine g_bipush (v := 40) C dX6_made_4 (by decide) ?_
  refine g_icmp_eq C dX6_made_6 (tgt := 34) (by decide) (fun c1 => ?_) (fun c1 => ?_)
  · have h := g_tt c1 h
    refine g_sub [0, 6] rfl ?_
    exact wX6_made_b34 hN C hr hch h
  · have h := g_ff c1 h
    refine g_iconst (v := 1) C dX6_made_9 (by decide) ?_
    refine g_aload_n C 0 dX6_made_10 rfl ?_
    refine g_iload_n C 2 dX6_made_11 rfl ?_
    obtain ⟨q2, eq2, h⟩ := g_bd h
    refine g_calliV C 183 [gi x2] (kX6_size hN hch.2 eq2) qs_X6_50 (by omega) (by omega) rfl rfl rfl rfl (Nat.le_of_ble_eq_true rfl) hkn dX6_made_12 ?_
    refine g_iadd C dX6_made_15 ?_
    refine g_aload_n C 0 dX6_made_16 rfl ?_
    refine g_iload_n C 3 dX6_made_17 rfl ?_
    obtain ⟨q3, eq3, h⟩ := g_bd h
    refine g_calliV C 183 [gi x3] (kX6_size hN hch.2 eq3) qs_X6_50 (by omega) (by omega) rfl rfl rfl rfl (Nat.le_of_ble_eq_true rfl) hkn dX6_made_18 ?_
    refine g_iadd C dX6_made_21 ?_
    refine g_aload_n C 0 dX6_made_22 rfl ?_
    refine g_iload C 4 dX6_made_23 rfl ?_
    obtain ⟨q4, eq4, h⟩ := g_bd h
    refine g_calliV C 183 [gi x4] (kX6_size hN hch.2 eq4) qs_X6_50 (by omega) (by omega) rfl rfl rfl rfl (Nat.le_of_ble_eq_true rfl) hkn dX6_made_25 ?_
    refine g_iadd C dX6_made_28 ?_
    refine g_bipush (v := 60) C dX6_made_29 (by decide) ?_
    refine g_icmp_le C dX6_made_31 (tgt := 41) (by decide) (fun c5 => ?_) (fun c5 => ?_)
    · have h := g_tt c5 h
      refine g_aload_n C 0 dX6_made_41 rfl ?_
      refine g_iload_n C 1 dX6_made_42 rfl ?_
      refine g_iload_n C 2 dX6_made_43 rfl ?_
      refine g_iload_n C 3 dX6_made_44 rfl ?_
      refine g_iload C 4 dX6_made_45 rfl ?_
      refine g_iload C 5 dX6_made_47 rfl ?_
      obtain ⟨q6, eq6, h⟩ := g_bd h
      have mo := oX6_made_b52 h
      refine g_callAvV C 183 [gi x1, gi x2, gi x3, gi x4, gi x5] (kX6_put hN hch.2 eq6) qs_X6_63 (by omega) (by omega) rfl rfl rfl rfl (Nat.le_of_ble_eq_true rfl) ⟨mo.1, mo.2⟩ (And.intro ⟨by omega, by omega⟩ True.intro) True.intro dX6_made_49 (fun ad1 ln1 hch1 => ?_)
      have hch := g_chg.trans (by omega) hch hch1
      refine g_sub [0] rfl ?_
      exact wX6_made_b52 hN C hr hch h
    · have h := g_ff c5 h
      refine g_sub [0, 6] rfl ?_
      exact wX6_made_b34 hN C hr hch h

set_option maxHeartbeats 2000000 in
set_option maxRecDepth 20000 in
theorem kX6_made {l : Launch} {D : va_G} {g : gT} {N : Nat} (hN : 193 ≤ N) {ad ln : Nat → Nat} {cp : Nat} (hcp : g_cap ln cp) {A A' : gM} {x1 : Int32} {x2 : Int32} {x3 : Int32} {x4 : Int32} {x5 : Int32} {x6 : Int32} {u : Nat × Nat × Nat} {r : Int32} (h : mX6_made N cp A x1 x2 x3 x4 x5 x6 = some (A', u, r)) : gAi l yX6_made cX6_made 7 (some .int) (4) D g N ad ln A [gr 183, gi x1, gi x2, gi x3, gi x4, gi x5, gi x6] A' u r := by
  refine g_metAi (by decide) (Nat.le_of_ble_eq_true rfl) ?_
  intro p e s m args below meth c C hr
  refine g_sub [0, 1, 2, 3, 4, 5, 6] rfl ?_
  exact wX6_made_b0 hN C hr (g_chg.rf hcp) h
def mX6_plain_b32 (N cp k n : Nat) (A : gM) (s0 : Int32) : Option (gM × (Nat × Nat × Nat) × Int32) :=
  some (A, (cp, k, n), s0)
def mX6_plain_b24 (N cp k n : Nat) (A : gM) (s0 : Int32) : Option (gM × (Nat × Nat × Nat) × Int32) :=
  mX6_plain_b32 N cp k n A s0
def mX6_plain_b0 (N cp k n : Nat) (A : gM) (x1 : Int32) : Option (gM × (Nat × Nat × Nat) × Int32) :=
  g_let (g_up A 183 0 0) fun A1 =>
  (mX6_isIn cp A1 x1 0 1).bind fun q2 =>
  if q2.2 = 0 then
  (mX6_fail cp q2.1 1).bind fun q4 =>
  mX6_plain_b32 N cp k n q4.1 q4.2
  else
  (mX6_made N cp q2.1 x1 (-1) (-1) (-1) (-1) 2).bind fun q5 =>
  mX6_plain_b24 N q5.2.1.1 (k + q5.2.1.2.1) (n + q5.2.1.2.2) q5.1 q5.2.2
def mX6_plain (N cp : Nat) (A : gM) (x1 : Int32) : Option (gM × (Nat × Nat × Nat) × Int32) := mX6_plain_b0 N cp 0 0 A x1
set_option maxHeartbeats 2000000 in
set_option maxRecDepth 20000 in
theorem oX6_plain_b32 {N : Nat} {A' : gM} {u : Nat × Nat × Nat} {r : Int32}  {cp k n : Nat} {A : gM} {s0 : Int32} (h : mX6_plain_b32 N cp k n A s0 = some (A', u, r)) : k ≤ u.2.1 ∧ n ≤ u.2.2 := by
  unfold mX6_plain_b32 at h
  obtain ⟨rfl, h2⟩ := Prod.mk.inj (Option.some.inj h)
  obtain ⟨rfl, rfl⟩ := Prod.mk.inj h2
  exact ⟨Nat.le_refl _, Nat.le_refl _⟩

set_option maxHeartbeats 2000000 in
set_option maxRecDepth 20000 in
theorem wX6_plain_b32 (hN : 193 ≤ N)  {A0 A' : gM} {u : Nat × Nat × Nat} {r : Int32} (C : gC p (g_rmx 5 u.2.1 u.2.2) s m args meth c cX6_plain RX6 2 D g (va_A (gw g ad0 ln0 A0 N) s.heap.size) 5) (hr : meth.sig.returnType = some .int)  {cp k n : Nat} (hch : g_chg N ad0 ln0 ad ln cp) {A : gM} {s0 : Int32} (h : mX6_plain_b32 N cp k n A s0 = some (A', u, r)) : gJ p l e (g_rmx 5 u.2.1 u.2.2) s m args below meth c (gEAi below D g N ad0 ln0 A0 A' u r args s) 2 D g (va_A (gw g ad0 ln0 A0 N) s.heap.size) N ad ln A [] k n 32 [gi s0] := by
  have hkn := oX6_plain_b32 h
  unfold mX6_plain_b32 at h
  obtain ⟨rfl, h2⟩ := Prod.mk.inj (Option.some.inj h)
  obtain ⟨rfl, rfl⟩ := Prod.mk.inj h2
  exact g_retAi C hch hr dX6_plain_32

set_option maxHeartbeats 2000000 in
set_option maxRecDepth 20000 in
theorem oX6_plain_b24 {N : Nat} {A' : gM} {u : Nat × Nat × Nat} {r : Int32}  {cp k n : Nat} {A : gM} {s0 : Int32} (h : mX6_plain_b24 N cp k n A s0 = some (A', u, r)) : k ≤ u.2.1 ∧ n ≤ u.2.2 := by
  unfold mX6_plain_b24 at h
  exact oX6_plain_b32 h

set_option maxHeartbeats 2000000 in
set_option maxRecDepth 20000 in
theorem wX6_plain_b24 (hN : 193 ≤ N)  {A0 A' : gM} {u : Nat × Nat × Nat} {r : Int32} (C : gC p (g_rmx 5 u.2.1 u.2.2) s m args meth c cX6_plain RX6 2 D g (va_A (gw g ad0 ln0 A0 N) s.heap.size) 5) (hr : meth.sig.returnType = some .int)  {cp k n : Nat} (hch : g_chg N ad0 ln0 ad ln cp) {A : gM} {s0 : Int32} (h : mX6_plain_b24 N cp k n A s0 = some (A', u, r)) : gJ p l e (g_rmx 5 u.2.1 u.2.2) s m args below meth c (gEAi below D g N ad0 ln0 A0 A' u r args s) 2 D g (va_A (gw g ad0 ln0 A0 N) s.heap.size) N ad ln A [] k n 24 [gi s0] := by
  have hkn := oX6_plain_b24 h
  unfold mX6_plain_b24 at h
  refine g_goto C dX6_plain_24 (tgt := 32) (by decide) ?_
  refine g_sub [] rfl ?_
  exact wX6_plain_b32 hN C hr hch h

set_option maxHeartbeats 2000000 in
set_option maxRecDepth 20000 in
theorem oX6_plain_b0 {N : Nat} {A' : gM} {u : Nat × Nat × Nat} {r : Int32}  {cp k n : Nat} {A : gM} {x1 : Int32} (h : mX6_plain_b0 N cp k n A x1 = some (A', u, r)) : k ≤ u.2.1 ∧ n ≤ u.2.2 := by
  unfold mX6_plain_b0 at h
  obtain ⟨A1, eA1, h⟩ := g_lt h
  obtain ⟨q2, eq2, h⟩ := g_bd h
  by_cases c3 : q2.2 = 0
  · have h := g_tt c3 h
    obtain ⟨q4, eq4, h⟩ := g_bd h
    exact oX6_plain_b32 h
  · have h := g_ff c3 h
    obtain ⟨q5, eq5, h⟩ := g_bd h
    have mo := oX6_plain_b24 h
    exact ⟨by omega, by omega⟩

set_option maxHeartbeats 2000000 in
set_option maxRecDepth 20000 in
theorem wX6_plain_b0 (hN : 193 ≤ N)  {A0 A' : gM} {u : Nat × Nat × Nat} {r : Int32} (C : gC p (g_rmx 5 u.2.1 u.2.2) s m args meth c cX6_plain RX6 2 D g (va_A (gw g ad0 ln0 A0 N) s.heap.size) 5) (hr : meth.sig.returnType = some .int)  {cp k n : Nat} (hch : g_chg N ad0 ln0 ad ln cp) {A : gM} {x1 : Int32} (h : mX6_plain_b0 N cp k n A x1 = some (A', u, r)) : gJ p l e (g_rmx 5 u.2.1 u.2.2) s m args below meth c (gEAi below D g N ad0 ln0 A0 A' u r args s) 2 D g (va_A (gw g ad0 ln0 A0 N) s.heap.size) N ad ln A [(0, gr 183), (1, gi x1)] k n 0 [] := by
  have hkn := oX6_plain_b0 h
  unfold mX6_plain_b0 at h
  refine g_aload_n C 0 dX6_plain_0 rfl ?_
  refine g_iconst (v := 0) C dX6_plain_1 (by decide) ?_
  obtain ⟨A1, eA1, h⟩ := g_lt h
  refine g_put C 183 0 tyX6 tyX6_ok nmX6 (by omega) rfl rfl gu_6 (by decide) qf_X6_35 rfl (by decide +kernel) (Nat.le_of_ble_eq_true rfl) rfl eA1 dX6_plain_2 ?_
  refine g_iload_n C 1 dX6_plain_5 rfl ?_
  refine g_iconst (v := 0) C dX6_plain_6 (by decide) ?_
  refine g_iconst (v := 1) C dX6_plain_7 (by decide) ?_
  obtain ⟨q2, eq2, h⟩ := g_bd h
  refine g_calliS C [gi x1, gi 0, gi 1] (kX6_isIn hN hch.2 eq2) qs_X6_42 (by omega) rfl rfl (Nat.le_of_ble_eq_true rfl) hkn dX6_plain_8 ?_
  refine g_if_eq C dX6_plain_11 (tgt := 27) (by decide) (fun c3 => ?_) (fun c3 => ?_)
  · have h := g_tt c3 h
    refine g_aload_n C 0 dX6_plain_27 rfl ?_
    refine g_iconst (v := 1) C dX6_plain_28 (by decide) ?_
    obtain ⟨q4, eq4, h⟩ := g_bd h
    refine g_calliV C 183 [gi 1] (kX6_fail hN hch.2 eq4) qs_X6_60 (by omega) (by omega) rfl rfl rfl rfl (Nat.le_of_ble_eq_true rfl) hkn dX6_plain_29 ?_
    refine g_sub [] rfl ?_
    exact wX6_plain_b32 hN C hr hch h
  · have h := g_ff c3 h
    refine g_aload_n C 0 dX6_plain_14 rfl ?_
    refine g_iload_n C 1 dX6_plain_15 rfl ?_
    refine g_iconst (v := (-1)) C dX6_plain_16 (by decide) ?_
    refine g_iconst (v := (-1)) C dX6_plain_17 (by decide) ?_
    refine g_iconst (v := (-1)) C dX6_plain_18 (by decide) ?_
    refine g_iconst (v := (-1)) C dX6_plain_19 (by decide) ?_
    refine g_iconst (v := 2) C dX6_plain_20 (by decide) ?_
    obtain ⟨q5, eq5, h⟩ := g_bd h
    have mo := oX6_plain_b24 h
    refine g_callAiV C 183 [gi x1, gi (-1), gi (-1), gi (-1), gi (-1), gi 2] (kX6_made hN hch.2 eq5) qs_X6_67 (by omega) (by omega) rfl rfl rfl rfl (Nat.le_of_ble_eq_true rfl) ⟨mo.1, mo.2⟩ (And.intro ⟨by omega, by omega⟩ True.intro) True.intro dX6_plain_21 (fun ad1 ln1 hch1 => ?_)
    have hch := g_chg.trans (by omega) hch hch1
    refine g_sub [] rfl ?_
    exact wX6_plain_b24 hN C hr hch h

set_option maxHeartbeats 2000000 in
set_option maxRecDepth 20000 in
theorem kX6_plain {l : Launch} {D : va_G} {g : gT} {N : Nat} (hN : 193 ≤ N) {ad ln : Nat → Nat} {cp : Nat} (hcp : g_cap ln cp) {A A' : gM} {x1 : Int32} {u : Nat × Nat × Nat} {r : Int32} (h : mX6_plain N cp A x1 = some (A', u, r)) : gAi l yX6_plain cX6_plain 2 (some .int) (5) D g N ad ln A [gr 183, gi x1] A' u r := by
  refine g_metAi (by decide) (Nat.le_of_ble_eq_true rfl) ?_
  intro p e s m args below meth c C hr
  refine g_sub [0, 1] rfl ?_
  exact wX6_plain_b0 hN C hr (g_chg.rf hcp) h
def mX6_name_b30 (N cp k n : Nat) (A : gM) (s0 : Int32) : Option (gM × (Nat × Nat × Nat) × Int32) :=
  some (A, (cp, k, n), s0)
def mX6_name_b22 (N cp k n : Nat) (A : gM) (s0 : Int32) : Option (gM × (Nat × Nat × Nat) × Int32) :=
  mX6_name_b30 N cp k n A s0
def mX6_name_b0 (N cp k n : Nat) (A : gM) (x1 : Int32) : Option (gM × (Nat × Nat × Nat) × Int32) :=
  g_let (g_up A 183 0 0) fun A1 =>
  (mX6_isName cp A1 x1).bind fun q2 =>
  if q2.2 = 0 then
  (mX6_fail cp q2.1 1).bind fun q4 =>
  mX6_name_b30 N cp k n q4.1 q4.2
  else
  (mX6_made N cp q2.1 2 (-1) (-1) (-1) x1 2).bind fun q5 =>
  mX6_name_b22 N q5.2.1.1 (k + q5.2.1.2.1) (n + q5.2.1.2.2) q5.1 q5.2.2
def mX6_name (N cp : Nat) (A : gM) (x1 : Int32) : Option (gM × (Nat × Nat × Nat) × Int32) := mX6_name_b0 N cp 0 0 A x1
set_option maxHeartbeats 2000000 in
set_option maxRecDepth 20000 in
theorem oX6_name_b30 {N : Nat} {A' : gM} {u : Nat × Nat × Nat} {r : Int32}  {cp k n : Nat} {A : gM} {s0 : Int32} (h : mX6_name_b30 N cp k n A s0 = some (A', u, r)) : k ≤ u.2.1 ∧ n ≤ u.2.2 := by
  unfold mX6_name_b30 at h
  obtain ⟨rfl, h2⟩ := Prod.mk.inj (Option.some.inj h)
  obtain ⟨rfl, rfl⟩ := Prod.mk.inj h2
  exact ⟨Nat.le_refl _, Nat.le_refl _⟩

set_option maxHeartbeats 2000000 in
set_option maxRecDepth 20000 in
theorem wX6_name_b30 (hN : 193 ≤ N)  {A0 A' : gM} {u : Nat × Nat × Nat} {r : Int32} (C : gC p (g_rmx 5 u.2.1 u.2.2) s m args meth c cX6_name RX6 2 D g (va_A (gw g ad0 ln0 A0 N) s.heap.size) 5) (hr : meth.sig.returnType = some .int)  {cp k n : Nat} (hch : g_chg N ad0 ln0 ad ln cp) {A : gM} {s0 : Int32} (h : mX6_name_b30 N cp k n A s0 = some (A', u, r)) : gJ p l e (g_rmx 5 u.2.1 u.2.2) s m args below meth c (gEAi below D g N ad0 ln0 A0 A' u r args s) 2 D g (va_A (gw g ad0 ln0 A0 N) s.heap.size) N ad ln A [] k n 30 [gi s0] := by
  have hkn := oX6_name_b30 h
  unfold mX6_name_b30 at h
  obtain ⟨rfl, h2⟩ := Prod.mk.inj (Option.some.inj h)
  obtain ⟨rfl, rfl⟩ := Prod.mk.inj h2
  exact g_retAi C hch hr dX6_name_30

set_option maxHeartbeats 2000000 in
set_option maxRecDepth 20000 in
theorem oX6_name_b22 {N : Nat} {A' : gM} {u : Nat × Nat × Nat} {r : Int32}  {cp k n : Nat} {A : gM} {s0 : Int32} (h : mX6_name_b22 N cp k n A s0 = some (A', u, r)) : k ≤ u.2.1 ∧ n ≤ u.2.2 := by
  unfold mX6_name_b22 at h
  exact oX6_name_b30 h

set_option maxHeartbeats 2000000 in
set_option maxRecDepth 20000 in
theorem wX6_name_b22 (hN : 193 ≤ N)  {A0 A' : gM} {u : Nat × Nat × Nat} {r : Int32} (C : gC p (g_rmx 5 u.2.1 u.2.2) s m args meth c cX6_name RX6 2 D g (va_A (gw g ad0 ln0 A0 N) s.heap.size) 5) (hr : meth.sig.returnType = some .int)  {cp k n : Nat} (hch : g_chg N ad0 ln0 ad ln cp) {A : gM} {s0 : Int32} (h : mX6_name_b22 N cp k n A s0 = some (A', u, r)) : gJ p l e (g_rmx 5 u.2.1 u.2.2) s m args below meth c (gEAi below D g N ad0 ln0 A0 A' u r args s) 2 D g (va_A (gw g ad0 ln0 A0 N) s.heap.size) N ad ln A [] k n 22 [gi s0] := by
  have hkn := oX6_name_b22 h
  unfold mX6_name_b22 at h
  refine g_goto C dX6_name_22 (tgt := 30) (by decide) ?_
  refine g_sub [] rfl ?_
  exact wX6_name_b30 hN C hr hch h

set_option maxHeartbeats 2000000 in
set_option maxRecDepth 20000 in
theorem oX6_name_b0 {N : Nat} {A' : gM} {u : Nat × Nat × Nat} {r : Int32}  {cp k n : Nat} {A : gM} {x1 : Int32} (h : mX6_name_b0 N cp k n A x1 = some (A', u, r)) : k ≤ u.2.1 ∧ n ≤ u.2.2 := by
  unfold mX6_name_b0 at h
  obtain ⟨A1, eA1, h⟩ := g_lt h
  obtain ⟨q2, eq2, h⟩ := g_bd h
  by_cases c3 : q2.2 = 0
  · have h := g_tt c3 h
    obtain ⟨q4, eq4, h⟩ := g_bd h
    exact oX6_name_b30 h
  · have h := g_ff c3 h
    obtain ⟨q5, eq5, h⟩ := g_bd h
    have mo := oX6_name_b22 h
    exact ⟨by omega, by omega⟩

set_option maxHeartbeats 2000000 in
set_option maxRecDepth 20000 in
theorem wX6_name_b0 (hN : 193 ≤ N)  {A0 A' : gM} {u : Nat × Nat × Nat} {r : Int32} (C : gC p (g_rmx 5 u.2.1 u.2.2) s m args meth c cX6_name RX6 2 D g (va_A (gw g ad0 ln0 A0 N) s.heap.size) 5) (hr : meth.sig.returnType = some .int)  {cp k n : Nat} (hch : g_chg N ad0 ln0 ad ln cp) {A : gM} {x1 : Int32} (h : mX6_name_b0 N cp k n A x1 = some (A', u, r)) : gJ p l e (g_rmx 5 u.2.1 u.2.2) s m args below meth c (gEAi below D g N ad0 ln0 A0 A' u r args s) 2 D g (va_A (gw g ad0 ln0 A0 N) s.heap.size) N ad ln A [(0, gr 183), (1, gi x1)] k n 0 [] := by
  have hkn := oX6_name_b0 h
  unfold mX6_name_b0 at h
  refine g_aload_n C 0 dX6_name_0 rfl ?_
  refine g_iconst (v := 0) C dX6_name_1 (by decide) ?_
  obtain ⟨A1, eA1, h⟩ := g_lt h
  refine g_put C 183 0 tyX6 tyX6_ok nmX6 (by omega) rfl rfl gu_6 (by decide) qf_X6_35 rfl (by decide +kernel) (Nat.le_of_ble_eq_true rfl) rfl eA1 dX6_name_2 ?_
  refine g_iload_n C 1 dX6_name_5 rfl ?_
  obtain ⟨q2, eq2, h⟩ := g_bd h
  refine g_calliS C [gi x1] (kX6_isName hN hch.2 eq2) qs_X6_71 (by omega) rfl rfl (Nat.le_of_ble_eq_true rfl) hkn dX6_name_6 ?_
  refine g_if_eq C dX6_name_9 (tgt := 25) (by decide) (fun c3 => ?_) (fun c3 => ?_)
  · have h := g_tt c3 h
    refine g_aload_n C 0 dX6_name_25 rfl ?_
    refine g_iconst (v := 1) C dX6_name_26 (by decide) ?_
    obtain ⟨q4, eq4, h⟩ := g_bd h
    refine g_calliV C 183 [gi 1] (kX6_fail hN hch.2 eq4) qs_X6_60 (by omega) (by omega) rfl rfl rfl rfl (Nat.le_of_ble_eq_true rfl) hkn dX6_name_27 ?_
    refine g_sub [] rfl ?_
    exact wX6_name_b30 hN C hr hch h
  · have h := g_ff c3 h
    refine g_aload_n C 0 dX6_name_12 rfl ?_
    refine g_iconst (v := 2) C dX6_name_13 (by decide) ?_
    refine g_iconst (v := (-1)) C dX6_name_14 (by decide) ?_
    refine g_iconst (v := (-1)) C dX6_name_15 (by decide) ?_
    refine g_iconst (v := (-1)) C dX6_name_16 (by decide) ?_
    refine g_iload_n C 1 dX6_name_17 rfl ?_
    refine g_iconst (v := 2) C dX6_name_18 (by decide) ?_
    obtain ⟨q5, eq5, h⟩ := g_bd h
    have mo := oX6_name_b22 h
    refine g_callAiV C 183 [gi 2, gi (-1), gi (-1), gi (-1), gi x1, gi 2] (kX6_made hN hch.2 eq5) qs_X6_67 (by omega) (by omega) rfl rfl rfl rfl (Nat.le_of_ble_eq_true rfl) ⟨mo.1, mo.2⟩ (And.intro ⟨by omega, by omega⟩ True.intro) True.intro dX6_name_19 (fun ad1 ln1 hch1 => ?_)
    have hch := g_chg.trans (by omega) hch hch1
    refine g_sub [] rfl ?_
    exact wX6_name_b22 hN C hr hch h

set_option maxHeartbeats 2000000 in
set_option maxRecDepth 20000 in
theorem kX6_name {l : Launch} {D : va_G} {g : gT} {N : Nat} (hN : 193 ≤ N) {ad ln : Nat → Nat} {cp : Nat} (hcp : g_cap ln cp) {A A' : gM} {x1 : Int32} {u : Nat × Nat × Nat} {r : Int32} (h : mX6_name N cp A x1 = some (A', u, r)) : gAi l yX6_name cX6_name 2 (some .int) (5) D g N ad ln A [gr 183, gi x1] A' u r := by
  refine g_metAi (by decide) (Nat.le_of_ble_eq_true rfl) ?_
  intro p e s m args below meth c C hr
  refine g_sub [0, 1] rfl ?_
  exact wX6_name_b0 hN C hr (g_chg.rf hcp) h
def mX6_wheel_b44 (N cp k n : Nat) (A : gM) (s0 : Int32) : Option (gM × (Nat × Nat × Nat) × Int32) :=
  some (A, (cp, k, n), s0)
def mX6_wheel_b36 (N cp k n : Nat) (A : gM) (s0 : Int32) : Option (gM × (Nat × Nat × Nat) × Int32) :=
  mX6_wheel_b44 N cp k n A s0
def mX6_wheel_b0 (N cp k n : Nat) (A : gM) (x1 : Int32) (x2 : Int32) : Option (gM × (Nat × Nat × Nat) × Int32) :=
  g_let (g_up A 183 0 0) fun A1 =>
  (mX6_isPart cp A1 x2).bind fun q2 =>
  if q2.2 = 0 then
  (mX6_fail cp q2.1 1).bind fun q8 =>
  some (q8.1, (cp, k, n), q8.2)
  else
  (mX6_isName cp q2.1 x1).bind fun q4 =>
  if q4.2 = 0 then
  (mX6_fail cp q4.1 2).bind fun q6 =>
  mX6_wheel_b44 N cp k n q6.1 q6.2
  else
  (mX6_made N cp q4.1 3 x2 (-1) (-1) x1 3).bind fun q7 =>
  mX6_wheel_b36 N q7.2.1.1 (k + q7.2.1.2.1) (n + q7.2.1.2.2) q7.1 q7.2.2
def mX6_wheel (N cp : Nat) (A : gM) (x1 : Int32) (x2 : Int32) : Option (gM × (Nat × Nat × Nat) × Int32) := mX6_wheel_b0 N cp 0 0 A x1 x2
set_option maxHeartbeats 2000000 in
set_option maxRecDepth 20000 in
theorem oX6_wheel_b44 {N : Nat} {A' : gM} {u : Nat × Nat × Nat} {r : Int32}  {cp k n : Nat} {A : gM} {s0 : Int32} (h : mX6_wheel_b44 N cp k n A s0 = some (A', u, r)) : k ≤ u.2.1 ∧ n ≤ u.2.2 := by
  unfold mX6_wheel_b44 at h
  obtain ⟨rfl, h2⟩ := Prod.mk.inj (Option.some.inj h)
  obtain ⟨rfl, rfl⟩ := Prod.mk.inj h2
  exact ⟨Nat.le_refl _, Nat.le_refl _⟩

set_option maxHeartbeats 2000000 in
set_option maxRecDepth 20000 in
theorem wX6_wheel_b44 (hN : 193 ≤ N)  {A0 A' : gM} {u : Nat × Nat × Nat} {r : Int32} (C : gC p (g_rmx 5 u.2.1 u.2.2) s m args meth c cX6_wheel RX6 3 D g (va_A (gw g ad0 ln0 A0 N) s.heap.size) 5) (hr : meth.sig.returnType = some .int)  {cp k n : Nat} (hch : g_chg N ad0 ln0 ad ln cp) {A : gM} {s0 : Int32} (h : mX6_wheel_b44 N cp k n A s0 = some (A', u, r)) : gJ p l e (g_rmx 5 u.2.1 u.2.2) s m args below meth c (gEAi below D g N ad0 ln0 A0 A' u r args s) 3 D g (va_A (gw g ad0 ln0 A0 N) s.heap.size) N ad ln A [] k n 44 [gi s0] := by
  have hkn := oX6_wheel_b44 h
  unfold mX6_wheel_b44 at h
  obtain ⟨rfl, h2⟩ := Prod.mk.inj (Option.some.inj h)
  obtain ⟨rfl, rfl⟩ := Prod.mk.inj h2
  exact g_retAi C hch hr dX6_wheel_44

set_option maxHeartbeats 2000000 in
set_option maxRecDepth 20000 in
theorem oX6_wheel_b36 {N : Nat} {A' : gM} {u : Nat × Nat × Nat} {r : Int32}  {cp k n : Nat} {A : gM} {s0 : Int32} (h : mX6_wheel_b36 N cp k n A s0 = some (A', u, r)) : k ≤ u.2.1 ∧ n ≤ u.2.2 := by
  unfold mX6_wheel_b36 at h
  exact oX6_wheel_b44 h

set_option maxHeartbeats 2000000 in
set_option maxRecDepth 20000 in
theorem wX6_wheel_b36 (hN : 193 ≤ N)  {A0 A' : gM} {u : Nat × Nat × Nat} {r : Int32} (C : gC p (g_rmx 5 u.2.1 u.2.2) s m args meth c cX6_wheel RX6 3 D g (va_A (gw g ad0 ln0 A0 N) s.heap.size) 5) (hr : meth.sig.returnType = some .int)  {cp k n : Nat} (hch : g_chg N ad0 ln0 ad ln cp) {A : gM} {s0 : Int32} (h : mX6_wheel_b36 N cp k n A s0 = some (A', u, r)) : gJ p l e (g_rmx 5 u.2.1 u.2.2) s m args below meth c (gEAi below D g N ad0 ln0 A0 A' u r args s) 3 D g (va_A (gw g ad0 ln0 A0 N) s.heap.size) N ad ln A [] k n 36 [gi s0] := by
  have hkn := oX6_wheel_b36 h
  unfold mX6_wheel_b36 at h
  refine g_goto C dX6_wheel_36 (tgt := 44) (by decide) ?_
  refine g_sub [] rfl ?_
  exact wX6_wheel_b44 hN C hr hch h

set_option maxHeartbeats 2000000 in
set_option maxRecDepth 20000 in
theorem oX6_wheel_b0 {N : Nat} {A' : gM} {u : Nat × Nat × Nat} {r : Int32}  {cp k n : Nat} {A : gM} {x1 : Int32} {x2 : Int32} (h : mX6_wheel_b0 N cp k n A x1 x2 = some (A', u, r)) : k ≤ u.2.1 ∧ n ≤ u.2.2 := by
  unfold mX6_wheel_b0 at h
  obtain ⟨A1, eA1, h⟩ := g_lt h
  obtain ⟨q2, eq2, h⟩ := g_bd h
  by_cases c3 : q2.2 = 0
  · have h := g_tt c3 h
    obtain ⟨q8, eq8, h⟩ := g_bd h
    obtain ⟨rfl, h2⟩ := Prod.mk.inj (Option.some.inj h)
    obtain ⟨rfl, rfl⟩ := Prod.mk.inj h2
    exact ⟨Nat.le_refl _, Nat.le_refl _⟩
  · have h := g_ff c3 h
    obtain ⟨q4, eq4, h⟩ := g_bd h
    by_cases c5 : q4.2 = 0
    · have h := g_tt c5 h
      obtain ⟨q6, eq6, h⟩ := g_bd h
      exact oX6_wheel_b44 h
    · have h := g_ff c5 h
      obtain ⟨q7, eq7, h⟩ := g_bd h
      have mo := oX6_wheel_b36 h
      exact ⟨by omega, by omega⟩

set_option maxHeartbeats 2000000 in
set_option maxRecDepth 20000 in
theorem wX6_wheel_b0 (hN : 193 ≤ N)  {A0 A' : gM} {u : Nat × Nat × Nat} {r : Int32} (C : gC p (g_rmx 5 u.2.1 u.2.2) s m args meth c cX6_wheel RX6 3 D g (va_A (gw g ad0 ln0 A0 N) s.heap.size) 5) (hr : meth.sig.returnType = some .int)  {cp k n : Nat} (hch : g_chg N ad0 ln0 ad ln cp) {A : gM} {x1 : Int32} {x2 : Int32} (h : mX6_wheel_b0 N cp k n A x1 x2 = some (A', u, r)) : gJ p l e (g_rmx 5 u.2.1 u.2.2) s m args below meth c (gEAi below D g N ad0 ln0 A0 A' u r args s) 3 D g (va_A (gw g ad0 ln0 A0 N) s.heap.size) N ad ln A [(0, gr 183), (1, gi x1), (2, gi x2)] k n 0 [] := by
  have hkn := oX6_wheel_b0 h
  unfold mX6_wheel_b0 at h
  refine g_aload_n C 0 dX6_wheel_0 rfl ?_
  refine g_iconst (v := 0) C dX6_wheel_1 (by decide) ?_
  obtain ⟨A1, eA1, h⟩ := g_lt h
  refine g_put C 183 0 tyX6 tyX6_ok nmX6 (by omega) rfl rfl gu_6 (by decide) qf_X6_35 rfl (by decide +kernel) (Nat.le_of_ble_eq_true rfl) rfl eA1 dX6_wheel_2 ?_
  refine g_aload_n C 0 dX6_wheel_5 rfl ?_
  refine g_iload_n C 2 dX6_wheel_6 rfl ?_
  obtain ⟨q2, eq2, h⟩ := g_bd h
  refine g_calliV C 183 [gi x2] (kX6_isPart hN hch.2 eq2) qs_X6_75 (by omega) (by omega) rfl rfl rfl rfl (Nat.le_of_ble_eq_true rfl) hkn dX6_wheel_7 ?_
  refine g_if_ne C dX6_wheel_10 (tgt := 19) (by decide) (fun c3 => ?_) (fun c3 => ?_)
  · have h := g_ff c3 h
    refine g_iload_n C 1 dX6_wheel_19 rfl ?_
    obtain ⟨q4, eq4, h⟩ := g_bd h
    refine g_calliS C [gi x1] (kX6_isName hN hch.2 eq4) qs_X6_71 (by omega) rfl rfl (Nat.le_of_ble_eq_true rfl) hkn dX6_wheel_20 ?_
    refine g_if_eq C dX6_wheel_23 (tgt := 39) (by decide) (fun c5 => ?_) (fun c5 => ?_)
    · have h := g_tt c5 h
      refine g_aload_n C 0 dX6_wheel_39 rfl ?_
      refine g_iconst (v := 2) C dX6_wheel_40 (by decide) ?_
      obtain ⟨q6, eq6, h⟩ := g_bd h
      refine g_calliV C 183 [gi 2] (kX6_fail hN hch.2 eq6) qs_X6_60 (by omega) (by omega) rfl rfl rfl rfl (Nat.le_of_ble_eq_true rfl) hkn dX6_wheel_41 ?_
      refine g_sub [] rfl ?_
      exact wX6_wheel_b44 hN C hr hch h
    · have h := g_ff c5 h
      refine g_aload_n C 0 dX6_wheel_26 rfl ?_
      refine g_iconst (v := 3) C dX6_wheel_27 (by decide) ?_
      refine g_iload_n C 2 dX6_wheel_28 rfl ?_
      refine g_iconst (v := (-1)) C dX6_wheel_29 (by decide) ?_
      refine g_iconst (v := (-1)) C dX6_wheel_30 (by decide) ?_
      refine g_iload_n C 1 dX6_wheel_31 rfl ?_
      refine g_iconst (v := 3) C dX6_wheel_32 (by decide) ?_
      obtain ⟨q7, eq7, h⟩ := g_bd h
      have mo := oX6_wheel_b36 h
      refine g_callAiV C 183 [gi 3, gi x2, gi (-1), gi (-1), gi x1, gi 3] (kX6_made hN hch.2 eq7) qs_X6_67 (by omega) (by omega) rfl rfl rfl rfl (Nat.le_of_ble_eq_true rfl) ⟨mo.1, mo.2⟩ (And.intro ⟨by omega, by omega⟩ True.intro) True.intro dX6_wheel_33 (fun ad1 ln1 hch1 => ?_)
      have hch := g_chg.trans (by omega) hch hch1
      refine g_sub [] rfl ?_
      exact wX6_wheel_b36 hN C hr hch h
  · have h := g_tt c3 h
    refine g_aload_n C 0 dX6_wheel_13 rfl ?_
    refine g_iconst (v := 1) C dX6_wheel_14 (by decide) ?_
    obtain ⟨q8, eq8, h⟩ := g_bd h
    refine g_calliV C 183 [gi 1] (kX6_fail hN hch.2 eq8) qs_X6_60 (by omega) (by omega) rfl rfl rfl rfl (Nat.le_of_ble_eq_true rfl) hkn dX6_wheel_15 ?_
    obtain ⟨rfl, h2⟩ := Prod.mk.inj (Option.some.inj h)
    obtain ⟨rfl, rfl⟩ := Prod.mk.inj h2
    exact g_retAi C hch hr dX6_wheel_18

set_option maxHeartbeats 2000000 in
set_option maxRecDepth 20000 in
theorem kX6_wheel {l : Launch} {D : va_G} {g : gT} {N : Nat} (hN : 193 ≤ N) {ad ln : Nat → Nat} {cp : Nat} (hcp : g_cap ln cp) {A A' : gM} {x1 : Int32} {x2 : Int32} {u : Nat × Nat × Nat} {r : Int32} (h : mX6_wheel N cp A x1 x2 = some (A', u, r)) : gAi l yX6_wheel cX6_wheel 3 (some .int) (5) D g N ad ln A [gr 183, gi x1, gi x2] A' u r := by
  refine g_metAi (by decide) (Nat.le_of_ble_eq_true rfl) ?_
  intro p e s m args below meth c C hr
  refine g_sub [0, 1, 2] rfl ?_
  exact wX6_wheel_b0 hN C hr (g_chg.rf hcp) h
def mX6_turn_b39 (N cp k n : Nat) (A : gM) (s0 : Int32) : Option (gM × (Nat × Nat × Nat) × Int32) :=
  some (A, (cp, k, n), s0)
def mX6_turn_b34 (N cp k n : Nat) (A : gM) : Option (gM × (Nat × Nat × Nat) × Int32) :=
  (mX6_fail cp A 1).bind fun q1 =>
  mX6_turn_b39 N cp k n q1.1 q1.2
def mX6_turn_b31 (N cp k n : Nat) (A : gM) (s0 : Int32) : Option (gM × (Nat × Nat × Nat) × Int32) :=
  mX6_turn_b39 N cp k n A s0
def mX6_turn_b0 (N cp k n : Nat) (A : gM) (x1 : Int32) (x2 : Int32) : Option (gM × (Nat × Nat × Nat) × Int32) :=
  g_let (g_up A 183 0 0) fun A1 =>
  (mX6_isPart cp A1 x1).bind fun q2 =>
  if q2.2 = 0 then
  mX6_turn_b34 N cp k n q2.1
  else
  (mX6_isPart cp q2.1 x2).bind fun q4 =>
  if q4.2 = 0 then
  mX6_turn_b34 N cp k n q4.1
  else
  (mX6_made N cp q4.1 4 x1 x2 (-1) (-1) 2).bind fun q6 =>
  mX6_turn_b31 N q6.2.1.1 (k + q6.2.1.2.1) (n + q6.2.1.2.2) q6.1 q6.2.2
def mX6_turn (N cp : Nat) (A : gM) (x1 : Int32) (x2 : Int32) : Option (gM × (Nat × Nat × Nat) × Int32) := mX6_turn_b0 N cp 0 0 A x1 x2
set_option maxHeartbeats 2000000 in
set_option maxRecDepth 20000 in
theorem oX6_turn_b39 {N : Nat} {A' : gM} {u : Nat × Nat × Nat} {r : Int32}  {cp k n : Nat} {A : gM} {s0 : Int32} (h : mX6_turn_b39 N cp k n A s0 = some (A', u, r)) : k ≤ u.2.1 ∧ n ≤ u.2.2 := by
  unfold mX6_turn_b39 at h
  obtain ⟨rfl, h2⟩ := Prod.mk.inj (Option.some.inj h)
  obtain ⟨rfl, rfl⟩ := Prod.mk.inj h2
  exact ⟨Nat.le_refl _, Nat.le_refl _⟩

set_option maxHeartbeats 2000000 in
set_option maxRecDepth 20000 in
theorem wX6_turn_b39 (hN : 193 ≤ N)  {A0 A' : gM} {u : Nat × Nat × Nat} {r : Int32} (C : gC p (g_rmx 5 u.2.1 u.2.2) s m args meth c cX6_turn RX6 3 D g (va_A (gw g ad0 ln0 A0 N) s.heap.size) 5) (hr : meth.sig.returnType = some .int)  {cp k n : Nat} (hch : g_chg N ad0 ln0 ad ln cp) {A : gM} {s0 : Int32} (h : mX6_turn_b39 N cp k n A s0 = some (A', u, r)) : gJ p l e (g_rmx 5 u.2.1 u.2.2) s m args below meth c (gEAi below D g N ad0 ln0 A0 A' u r args s) 3 D g (va_A (gw g ad0 ln0 A0 N) s.heap.size) N ad ln A [] k n 39 [gi s0] := by
  have hkn := oX6_turn_b39 h
  unfold mX6_turn_b39 at h
  obtain ⟨rfl, h2⟩ := Prod.mk.inj (Option.some.inj h)
  obtain ⟨rfl, rfl⟩ := Prod.mk.inj h2
  exact g_retAi C hch hr dX6_turn_39

set_option maxHeartbeats 2000000 in
set_option maxRecDepth 20000 in
theorem oX6_turn_b34 {N : Nat} {A' : gM} {u : Nat × Nat × Nat} {r : Int32}  {cp k n : Nat} {A : gM} (h : mX6_turn_b34 N cp k n A = some (A', u, r)) : k ≤ u.2.1 ∧ n ≤ u.2.2 := by
  unfold mX6_turn_b34 at h
  obtain ⟨q1, eq1, h⟩ := g_bd h
  exact oX6_turn_b39 h

set_option maxHeartbeats 2000000 in
set_option maxRecDepth 20000 in
theorem wX6_turn_b34 (hN : 193 ≤ N)  {A0 A' : gM} {u : Nat × Nat × Nat} {r : Int32} (C : gC p (g_rmx 5 u.2.1 u.2.2) s m args meth c cX6_turn RX6 3 D g (va_A (gw g ad0 ln0 A0 N) s.heap.size) 5) (hr : meth.sig.returnType = some .int)  {cp k n : Nat} (hch : g_chg N ad0 ln0 ad ln cp) {A : gM} (h : mX6_turn_b34 N cp k n A = some (A', u, r)) : gJ p l e (g_rmx 5 u.2.1 u.2.2) s m args below meth c (gEAi below D g N ad0 ln0 A0 A' u r args s) 3 D g (va_A (gw g ad0 ln0 A0 N) s.heap.size) N ad ln A [(0, gr 183)] k n 34 [] := by
  have hkn := oX6_turn_b34 h
  unfold mX6_turn_b34 at h
  refine g_aload_n C 0 dX6_turn_34 rfl ?_
  refine g_iconst (v := 1) C dX6_turn_35 (by decide) ?_
  obtain ⟨q1, eq1, h⟩ := g_bd h
  refine g_calliV C 183 [gi 1] (kX6_fail hN hch.2 eq1) qs_X6_60 (by omega) (by omega) rfl rfl rfl rfl (Nat.le_of_ble_eq_true rfl) hkn dX6_turn_36 ?_
  refine g_sub [] rfl ?_
  exact wX6_turn_b39 hN C hr hch h

set_option maxHeartbeats 2000000 in
set_option maxRecDepth 20000 in
theorem oX6_turn_b31 {N : Nat} {A' : gM} {u : Nat × Nat × Nat} {r : Int32}  {cp k n : Nat} {A : gM} {s0 : Int32} (h : mX6_turn_b31 N cp k n A s0 = some (A', u, r)) : k ≤ u.2.1 ∧ n ≤ u.2.2 := by
  unfold mX6_turn_b31 at h
  exact oX6_turn_b39 h

set_option maxHeartbeats 2000000 in
set_option maxRecDepth 20000 in
theorem wX6_turn_b31 (hN : 193 ≤ N)  {A0 A' : gM} {u : Nat × Nat × Nat} {r : Int32} (C : gC p (g_rmx 5 u.2.1 u.2.2) s m args meth c cX6_turn RX6 3 D g (va_A (gw g ad0 ln0 A0 N) s.heap.size) 5) (hr : meth.sig.returnType = some .int)  {cp k n : Nat} (hch : g_chg N ad0 ln0 ad ln cp) {A : gM} {s0 : Int32} (h : mX6_turn_b31 N cp k n A s0 = some (A', u, r)) : gJ p l e (g_rmx 5 u.2.1 u.2.2) s m args below meth c (gEAi below D g N ad0 ln0 A0 A' u r args s) 3 D g (va_A (gw g ad0 ln0 A0 N) s.heap.size) N ad ln A [] k n 31 [gi s0] := by
  have hkn := oX6_turn_b31 h
  unfold mX6_turn_b31 at h
  refine g_goto C dX6_turn_31 (tgt := 39) (by decide) ?_
  refine g_sub [] rfl ?_
  exact wX6_turn_b39 hN C hr hch h

set_option maxHeartbeats 2000000 in
set_option maxRecDepth 20000 in
theorem oX6_turn_b0 {N : Nat} {A' : gM} {u : Nat × Nat × Nat} {r : Int32}  {cp k n : Nat} {A : gM} {x1 : Int32} {x2 : Int32} (h : mX6_turn_b0 N cp k n A x1 x2 = some (A', u, r)) : k ≤ u.2.1 ∧ n ≤ u.2.2 := by
  unfold mX6_turn_b0 at h
  obtain ⟨A1, eA1, h⟩ := g_lt h
  obtain ⟨q2, eq2, h⟩ := g_bd h
  by_cases c3 : q2.2 = 0
  · have h := g_tt c3 h
    exact oX6_turn_b34 h
  · have h := g_ff c3 h
    obtain ⟨q4, eq4, h⟩ := g_bd h
    by_cases c5 : q4.2 = 0
    · have h := g_tt c5 h
      exact oX6_turn_b34 h
    · have h := g_ff c5 h
      obtain ⟨q6, eq6, h⟩ := g_bd h
      have mo := oX6_turn_b31 h
      exact ⟨by omega, by omega⟩

set_option maxHeartbeats 2000000 in
set_option maxRecDepth 20000 in
theorem wX6_turn_b0 (hN : 193 ≤ N)  {A0 A' : gM} {u : Nat × Nat × Nat} {r : Int32} (C : gC p (g_rmx 5 u.2.1 u.2.2) s m args meth c cX6_turn RX6 3 D g (va_A (gw g ad0 ln0 A0 N) s.heap.size) 5) (hr : meth.sig.returnType = some .int)  {cp k n : Nat} (hch : g_chg N ad0 ln0 ad ln cp) {A : gM} {x1 : Int32} {x2 : Int32} (h : mX6_turn_b0 N cp k n A x1 x2 = some (A', u, r)) : gJ p l e (g_rmx 5 u.2.1 u.2.2) s m args below meth c (gEAi below D g N ad0 ln0 A0 A' u r args s) 3 D g (va_A (gw g ad0 ln0 A0 N) s.heap.size) N ad ln A [(0, gr 183), (1, gi x1), (2, gi x2)] k n 0 [] := by
  have hkn := oX6_turn_b0 h
  unfold mX6_turn_b0 at h
  refine g_aload_n C 0 dX6_turn_0 rfl ?_
  refine g_iconst (v := 0) C dX6_turn_1 (by decide) ?_
  obtain ⟨A1, eA1, h⟩ := g_lt h
  refine g_put C 183 0 tyX6 tyX6_ok nmX6 (by omega) rfl rfl gu_6 (by decide) qf_X6_35 rfl (by decide +kernel) (Nat.le_of_ble_eq_true rfl) rfl eA1 dX6_turn_2 ?_
  refine g_aload_n C 0 dX6_turn_5 rfl ?_
  refine g_iload_n C 1 dX6_turn_6 rfl ?_
  obtain ⟨q2, eq2, h⟩ := g_bd h
  refine g_calliV C 183 [gi x1] (kX6_isPart hN hch.2 eq2) qs_X6_75 (by omega) (by omega) rfl rfl rfl rfl (Nat.le_of_ble_eq_true rfl) hkn dX6_turn_7 ?_
  refine g_if_eq C dX6_turn_10 (tgt := 34) (by decide) (fun c3 => ?_) (fun c3 => ?_)
  · have h := g_tt c3 h
    refine g_sub [0] rfl ?_
    exact wX6_turn_b34 hN C hr hch h
  · have h := g_ff c3 h
    refine g_aload_n C 0 dX6_turn_13 rfl ?_
    refine g_iload_n C 2 dX6_turn_14 rfl ?_
    obtain ⟨q4, eq4, h⟩ := g_bd h
    refine g_calliV C 183 [gi x2] (kX6_isPart hN hch.2 eq4) qs_X6_75 (by omega) (by omega) rfl rfl rfl rfl (Nat.le_of_ble_eq_true rfl) hkn dX6_turn_15 ?_
    refine g_if_eq C dX6_turn_18 (tgt := 34) (by decide) (fun c5 => ?_) (fun c5 => ?_)
    · have h := g_tt c5 h
      refine g_sub [0] rfl ?_
      exact wX6_turn_b34 hN C hr hch h
    · have h := g_ff c5 h
      refine g_aload_n C 0 dX6_turn_21 rfl ?_
      refine g_iconst (v := 4) C dX6_turn_22 (by decide) ?_
      refine g_iload_n C 1 dX6_turn_23 rfl ?_
      refine g_iload_n C 2 dX6_turn_24 rfl ?_
      refine g_iconst (v := (-1)) C dX6_turn_25 (by decide) ?_
      refine g_iconst (v := (-1)) C dX6_turn_26 (by decide) ?_
      refine g_iconst (v := 2) C dX6_turn_27 (by decide) ?_
      obtain ⟨q6, eq6, h⟩ := g_bd h
      have mo := oX6_turn_b31 h
      refine g_callAiV C 183 [gi 4, gi x1, gi x2, gi (-1), gi (-1), gi 2] (kX6_made hN hch.2 eq6) qs_X6_67 (by omega) (by omega) rfl rfl rfl rfl (Nat.le_of_ble_eq_true rfl) ⟨mo.1, mo.2⟩ (And.intro ⟨by omega, by omega⟩ True.intro) True.intro dX6_turn_28 (fun ad1 ln1 hch1 => ?_)
      have hch := g_chg.trans (by omega) hch hch1
      refine g_sub [] rfl ?_
      exact wX6_turn_b31 hN C hr hch h

set_option maxHeartbeats 2000000 in
set_option maxRecDepth 20000 in
theorem kX6_turn {l : Launch} {D : va_G} {g : gT} {N : Nat} (hN : 193 ≤ N) {ad ln : Nat → Nat} {cp : Nat} (hcp : g_cap ln cp) {A A' : gM} {x1 : Int32} {x2 : Int32} {u : Nat × Nat × Nat} {r : Int32} (h : mX6_turn N cp A x1 x2 = some (A', u, r)) : gAi l yX6_turn cX6_turn 3 (some .int) (5) D g N ad ln A [gr 183, gi x1, gi x2] A' u r := by
  refine g_metAi (by decide) (Nat.le_of_ble_eq_true rfl) ?_
  intro p e s m args below meth c C hr
  refine g_sub [0, 1, 2] rfl ?_
  exact wX6_turn_b0 hN C hr (g_chg.rf hcp) h
def mX6_tell_b21 (N cp k n : Nat) (A : gM) : Option (gM × (Nat × Nat × Nat) × Int32) :=
  (mX6_fail cp A 1).bind fun q1 =>
  some (q1.1, (cp, k, n), q1.2)
def mX6_tell_b52 (N cp k n : Nat) (A : gM) (s0 : Int32) : Option (gM × (Nat × Nat × Nat) × Int32) :=
  some (A, (cp, k, n), s0)
def mX6_tell_b44 (N cp k n : Nat) (A : gM) (s0 : Int32) : Option (gM × (Nat × Nat × Nat) × Int32) :=
  mX6_tell_b52 N cp k n A s0
def mX6_tell_b0 (N cp k n : Nat) (A : gM) (x1 : Int32) (x2 : Int32) (x3 : Int32) : Option (gM × (Nat × Nat × Nat) × Int32) :=
  g_let (g_up A 183 0 0) fun A1 =>
  (mX6_isPart cp A1 x2).bind fun q2 =>
  if q2.2 = 0 then
  mX6_tell_b21 N cp k n q2.1
  else
  (mX6_isPart cp q2.1 x3).bind fun q4 =>
  if q4.2 = 0 then
  mX6_tell_b21 N cp k n q4.1
  else
  (mX6_isName cp q4.1 x1).bind fun q6 =>
  if q6.2 = 0 then
  (mX6_fail cp q6.1 2).bind fun q8 =>
  mX6_tell_b52 N cp k n q8.1 q8.2
  else
  (mX6_made N cp q6.1 5 x2 x3 (-1) x1 3).bind fun q9 =>
  mX6_tell_b44 N q9.2.1.1 (k + q9.2.1.2.1) (n + q9.2.1.2.2) q9.1 q9.2.2
def mX6_tell (N cp : Nat) (A : gM) (x1 : Int32) (x2 : Int32) (x3 : Int32) : Option (gM × (Nat × Nat × Nat) × Int32) := mX6_tell_b0 N cp 0 0 A x1 x2 x3
set_option maxHeartbeats 2000000 in
set_option maxRecDepth 20000 in
theorem oX6_tell_b21 {N : Nat} {A' : gM} {u : Nat × Nat × Nat} {r : Int32}  {cp k n : Nat} {A : gM} (h : mX6_tell_b21 N cp k n A = some (A', u, r)) : k ≤ u.2.1 ∧ n ≤ u.2.2 := by
  unfold mX6_tell_b21 at h
  obtain ⟨q1, eq1, h⟩ := g_bd h
  obtain ⟨rfl, h2⟩ := Prod.mk.inj (Option.some.inj h)
  obtain ⟨rfl, rfl⟩ := Prod.mk.inj h2
  exact ⟨Nat.le_refl _, Nat.le_refl _⟩

set_option maxHeartbeats 2000000 in
set_option maxRecDepth 20000 in
theorem wX6_tell_b21 (hN : 193 ≤ N)  {A0 A' : gM} {u : Nat × Nat × Nat} {r : Int32} (C : gC p (g_rmx 5 u.2.1 u.2.2) s m args meth c cX6_tell RX6 4 D g (va_A (gw g ad0 ln0 A0 N) s.heap.size) 5) (hr : meth.sig.returnType = some .int)  {cp k n : Nat} (hch : g_chg N ad0 ln0 ad ln cp) {A : gM} (h : mX6_tell_b21 N cp k n A = some (A', u, r)) : gJ p l e (g_rmx 5 u.2.1 u.2.2) s m args below meth c (gEAi below D g N ad0 ln0 A0 A' u r args s) 4 D g (va_A (gw g ad0 ln0 A0 N) s.heap.size) N ad ln A [(0, gr 183)] k n 21 [] := by
  have hkn := oX6_tell_b21 h
  unfold mX6_tell_b21 at h
  refine g_aload_n C 0 dX6_tell_21 rfl ?_
  refine g_iconst (v := 1) C dX6_tell_22 (by decide) ?_
  obtain ⟨q1, eq1, h⟩ := g_bd h
  refine g_calliV C 183 [gi 1] (kX6_fail hN hch.2 eq1) qs_X6_60 (by omega) (by omega) rfl rfl rfl rfl (Nat.le_of_ble_eq_true rfl) hkn dX6_tell_23 ?_
  obtain ⟨rfl, h2⟩ := Prod.mk.inj (Option.some.inj h)
  obtain ⟨rfl, rfl⟩ := Prod.mk.inj h2
  exact g_retAi C hch hr dX6_tell_26

set_option maxHeartbeats 2000000 in
set_option maxRecDepth 20000 in
theorem oX6_tell_b52 {N : Nat} {A' : gM} {u : Nat × Nat × Nat} {r : Int32}  {cp k n : Nat} {A : gM} {s0 : Int32} (h : mX6_tell_b52 N cp k n A s0 = some (A', u, r)) : k ≤ u.2.1 ∧ n ≤ u.2.2 := by
  unfold mX6_tell_b52 at h
  obtain ⟨rfl, h2⟩ := Prod.mk.inj (Option.some.inj h)
  obtain ⟨rfl, rfl⟩ := Prod.mk.inj h2
  exact ⟨Nat.le_refl _, Nat.le_refl _⟩

set_option maxHeartbeats 2000000 in
set_option maxRecDepth 20000 in
theorem wX6_tell_b52 (hN : 193 ≤ N)  {A0 A' : gM} {u : Nat × Nat × Nat} {r : Int32} (C : gC p (g_rmx 5 u.2.1 u.2.2) s m args meth c cX6_tell RX6 4 D g (va_A (gw g ad0 ln0 A0 N) s.heap.size) 5) (hr : meth.sig.returnType = some .int)  {cp k n : Nat} (hch : g_chg N ad0 ln0 ad ln cp) {A : gM} {s0 : Int32} (h : mX6_tell_b52 N cp k n A s0 = some (A', u, r)) : gJ p l e (g_rmx 5 u.2.1 u.2.2) s m args below meth c (gEAi below D g N ad0 ln0 A0 A' u r args s) 4 D g (va_A (gw g ad0 ln0 A0 N) s.heap.size) N ad ln A [] k n 52 [gi s0] := by
  have hkn := oX6_tell_b52 h
  unfold mX6_tell_b52 at h
  obtain ⟨rfl, h2⟩ := Prod.mk.inj (Option.some.inj h)
  obtain ⟨rfl, rfl⟩ := Prod.mk.inj h2
  exact g_retAi C hch hr dX6_tell_52

set_option maxHeartbeats 2000000 in
set_option maxRecDepth 20000 in
theorem oX6_tell_b44 {N : Nat} {A' : gM} {u : Nat × Nat × Nat} {r : Int32}  {cp k n : Nat} {A : gM} {s0 : Int32} (h : mX6_tell_b44 N cp k n A s0 = some (A', u, r)) : k ≤ u.2.1 ∧ n ≤ u.2.2 := by
  unfold mX6_tell_b44 at h
  exact oX6_tell_b52 h

set_option maxHeartbeats 2000000 in
set_option maxRecDepth 20000 in
theorem wX6_tell_b44 (hN : 193 ≤ N)  {A0 A' : gM} {u : Nat × Nat × Nat} {r : Int32} (C : gC p (g_rmx 5 u.2.1 u.2.2) s m args meth c cX6_tell RX6 4 D g (va_A (gw g ad0 ln0 A0 N) s.heap.size) 5) (hr : meth.sig.returnType = some .int)  {cp k n : Nat} (hch : g_chg N ad0 ln0 ad ln cp) {A : gM} {s0 : Int32} (h : mX6_tell_b44 N cp k n A s0 = some (A', u, r)) : gJ p l e (g_rmx 5 u.2.1 u.2.2) s m args below meth c (gEAi below D g N ad0 ln0 A0 A' u r args s) 4 D g (va_A (gw g ad0 ln0 A0 N) s.heap.size) N ad ln A [] k n 44 [gi s0] := by
  have hkn := oX6_tell_b44 h
  unfold mX6_tell_b44 at h
  refine g_goto C dX6_tell_44 (tgt := 52) (by decide) ?_
  refine g_sub [] rfl ?_
  exact wX6_tell_b52 hN C hr hch h

set_option maxHeartbeats 2000000 in
set_option maxRecDepth 20000 in
theorem oX6_tell_b0 {N : Nat} {A' : gM} {u : Nat × Nat × Nat} {r : Int32}  {cp k n : Nat} {A : gM} {x1 : Int32} {x2 : Int32} {x3 : Int32} (h : mX6_tell_b0 N cp k n A x1 x2 x3 = some (A', u, r)) : k ≤ u.2.1 ∧ n ≤ u.2.2 := by
  unfold mX6_tell_b0 at h
  obtain ⟨A1, eA1, h⟩ := g_lt h
  obtain ⟨q2, eq2, h⟩ := g_bd h
  by_cases c3 : q2.2 = 0
  · have h := g_tt c3 h
    exact oX6_tell_b21 h
  · have h := g_ff c3 h
    obtain ⟨q4, eq4, h⟩ := g_bd h
    by_cases c5 : q4.2 = 0
    · have h := g_tt c5 h
      exact oX6_tell_b21 h
    · have h := g_ff c5 h
      obtain ⟨q6, eq6, h⟩ := g_bd h
      by_cases c7 : q6.2 = 0
      · have h := g_tt c7 h
        obtain ⟨q8, eq8, h⟩ := g_bd h
        exact oX6_tell_b52 h
      · have h := g_ff c7 h
        obtain ⟨q9, eq9, h⟩ := g_bd h
        have mo := oX6_tell_b44 h
        exact ⟨by omega, by omega⟩

set_option maxHeartbeats 2000000 in
set_option maxRecDepth 20000 in
theorem wX6_tell_b0 (hN : 193 ≤ N)  {A0 A' : gM} {u : Nat × Nat × Nat} {r : Int32} (C : gC p (g_rmx 5 u.2.1 u.2.2) s m args meth c cX6_tell RX6 4 D g (va_A (gw g ad0 ln0 A0 N) s.heap.size) 5) (hr : meth.sig.returnType = some .int)  {cp k n : Nat} (hch : g_chg N ad0 ln0 ad ln cp) {A : gM} {x1 : Int32} {x2 : Int32} {x3 : Int32} (h : mX6_tell_b0 N cp k n A x1 x2 x3 = some (A', u, r)) : gJ p l e (g_rmx 5 u.2.1 u.2.2) s m args below meth c (gEAi below D g N ad0 ln0 A0 A' u r args s) 4 D g (va_A (gw g ad0 ln0 A0 N) s.heap.size) N ad ln A [(0, gr 183), (1, gi x1), (2, gi x2), (3, gi x3)] k n 0 [] := by
  have hkn := oX6_tell_b0 h
  unfold mX6_tell_b0 at h
  refine g_aload_n C 0 dX6_tell_0 rfl ?_
  refine g_iconst (v := 0) C dX6_tell_1 (by decide) ?_
  obtain ⟨A1, eA1, h⟩ := g_lt h
  refine g_put C 183 0 tyX6 tyX6_ok nmX6 (by omega) rfl rfl gu_6 (by decide) qf_X6_35 rfl (by decide +kernel) (Nat.le_of_ble_eq_true rfl) rfl eA1 dX6_tell_2 ?_
  refine g_aload_n C 0 dX6_tell_5 rfl ?_
  refine g_iload_n C 2 dX6_tell_6 rfl ?_
  obtain ⟨q2, eq2, h⟩ := g_bd h
  refine g_calliV C 183 [gi x2] (kX6_isPart hN hch.2 eq2) qs_X6_75 (by omega) (by omega) rfl rfl rfl rfl (Nat.le_of_ble_eq_true rfl) hkn dX6_tell_7 ?_
  refine g_if_eq C dX6_tell_10 (tgt := 21) (by decide) (fun c3 => ?_) (fun c3 => ?_)
  · have h := g_tt c3 h
    refine g_sub [0] rfl ?_
    exact wX6_tell_b21 hN C hr hch h
  · have h := g_ff c3 h
    refine g_aload_n C 0 dX6_tell_13 rfl ?_
    refine g_iload_n C 3 dX6_tell_14 rfl ?_
    obtain ⟨q4, eq4, h⟩ := g_bd h
    refine g_calliV C 183 [gi x3] (kX6_isPart hN hch.2 eq4) qs_X6_75 (by omega) (by omega) rfl rfl rfl rfl (Nat.le_of_ble_eq_true rfl) hkn dX6_tell_15 ?_
    refine g_if_ne C dX6_tell_18 (tgt := 27) (by decide) (fun c5 => ?_) (fun c5 => ?_)
    · have h := g_ff c5 h
      refine g_iload_n C 1 dX6_tell_27 rfl ?_
      obtain ⟨q6, eq6, h⟩ := g_bd h
      refine g_calliS C [gi x1] (kX6_isName hN hch.2 eq6) qs_X6_71 (by omega) rfl rfl (Nat.le_of_ble_eq_true rfl) hkn dX6_tell_28 ?_
      refine g_if_eq C dX6_tell_31 (tgt := 47) (by decide) (fun c7 => ?_) (fun c7 => ?_)
      · have h := g_tt c7 h
        refine g_aload_n C 0 dX6_tell_47 rfl ?_
        refine g_iconst (v := 2) C dX6_tell_48 (by decide) ?_
        obtain ⟨q8, eq8, h⟩ := g_bd h
        refine g_calliV C 183 [gi 2] (kX6_fail hN hch.2 eq8) qs_X6_60 (by omega) (by omega) rfl rfl rfl rfl (Nat.le_of_ble_eq_true rfl) hkn dX6_tell_49 ?_
        refine g_sub [] rfl ?_
        exact wX6_tell_b52 hN C hr hch h
      · have h := g_ff c7 h
        refine g_aload_n C 0 dX6_tell_34 rfl ?_
        refine g_iconst (v := 5) C dX6_tell_35 (by decide) ?_
        refine g_iload_n C 2 dX6_tell_36 rfl ?_
        refine g_iload_n C 3 dX6_tell_37 rfl ?_
        refine g_iconst (v := (-1)) C dX6_tell_38 (by decide) ?_
        refine g_iload_n C 1 dX6_tell_39 rfl ?_
        refine g_iconst (v := 3) C dX6_tell_40 (by decide) ?_
        obtain ⟨q9, eq9, h⟩ := g_bd h
        have mo := oX6_tell_b44 h
        refine g_callAiV C 183 [gi 5, gi x2, gi x3, gi (-1), gi x1, gi 3] (kX6_made hN hch.2 eq9) qs_X6_67 (by omega) (by omega) rfl rfl rfl rfl (Nat.le_of_ble_eq_true rfl) ⟨mo.1, mo.2⟩ (And.intro ⟨by omega, by omega⟩ True.intro) True.intro dX6_tell_41 (fun ad1 ln1 hch1 => ?_)
        have hch := g_chg.trans (by omega) hch hch1
        refine g_sub [] rfl ?_
        exact wX6_tell_b44 hN C hr hch h
    · have h := g_tt c5 h
      refine g_sub [0] rfl ?_
      exact wX6_tell_b21 hN C hr hch h

set_option maxHeartbeats 2000000 in
set_option maxRecDepth 20000 in
theorem kX6_tell {l : Launch} {D : va_G} {g : gT} {N : Nat} (hN : 193 ≤ N) {ad ln : Nat → Nat} {cp : Nat} (hcp : g_cap ln cp) {A A' : gM} {x1 : Int32} {x2 : Int32} {x3 : Int32} {u : Nat × Nat × Nat} {r : Int32} (h : mX6_tell N cp A x1 x2 x3 = some (A', u, r)) : gAi l yX6_tell cX6_tell 4 (some .int) (5) D g N ad ln A [gr 183, gi x1, gi x2, gi x3] A' u r := by
  refine g_metAi (by decide) (Nat.le_of_ble_eq_true rfl) ?_
  intro p e s m args below meth c C hr
  refine g_sub [0, 1, 2, 3] rfl ?_
  exact wX6_tell_b0 hN C hr (g_chg.rf hcp) h
def mX6_axle_b40 (N cp k n : Nat) (A : gM) (s0 : Int32) : Option (gM × (Nat × Nat × Nat) × Int32) :=
  some (A, (cp, k, n), s0)
def mX6_axle_b35 (N cp k n : Nat) (A : gM) : Option (gM × (Nat × Nat × Nat) × Int32) :=
  (mX6_fail cp A 1).bind fun q1 =>
  mX6_axle_b40 N cp k n q1.1 q1.2
def mX6_axle_b32 (N cp k n : Nat) (A : gM) (s0 : Int32) : Option (gM × (Nat × Nat × Nat) × Int32) :=
  mX6_axle_b40 N cp k n A s0
def mX6_axle_b0 (N cp k n : Nat) (A : gM) (x1 : Int32) (x2 : Int32) : Option (gM × (Nat × Nat × Nat) × Int32) :=
  g_let (g_up A 183 0 0) fun A1 =>
  (mX6_isPart cp A1 x1).bind fun q2 =>
  if q2.2 = 0 then
  mX6_axle_b35 N cp k n q2.1
  else
  (mX6_isPart cp q2.1 x2).bind fun q4 =>
  if q4.2 = 0 then
  mX6_axle_b35 N cp k n q4.1
  else
  (mX6_made N cp q4.1 6 x1 x2 (-1) (-1) 2).bind fun q6 =>
  mX6_axle_b32 N q6.2.1.1 (k + q6.2.1.2.1) (n + q6.2.1.2.2) q6.1 q6.2.2
def mX6_axle (N cp : Nat) (A : gM) (x1 : Int32) (x2 : Int32) : Option (gM × (Nat × Nat × Nat) × Int32) := mX6_axle_b0 N cp 0 0 A x1 x2
set_option maxHeartbeats 2000000 in
set_option maxRecDepth 20000 in
theorem oX6_axle_b40 {N : Nat} {A' : gM} {u : Nat × Nat × Nat} {r : Int32}  {cp k n : Nat} {A : gM} {s0 : Int32} (h : mX6_axle_b40 N cp k n A s0 = some (A', u, r)) : k ≤ u.2.1 ∧ n ≤ u.2.2 := by
  unfold mX6_axle_b40 at h
  obtain ⟨rfl, h2⟩ := Prod.mk.inj (Option.some.inj h)
  obtain ⟨rfl, rfl⟩ := Prod.mk.inj h2
  exact ⟨Nat.le_refl _, Nat.le_refl _⟩

set_option maxHeartbeats 2000000 in
set_option maxRecDepth 20000 in
theorem wX6_axle_b40 (hN : 193 ≤ N)  {A0 A' : gM} {u : Nat × Nat × Nat} {r : Int32} (C : gC p (g_rmx 5 u.2.1 u.2.2) s m args meth c cX6_axle RX6 3 D g (va_A (gw g ad0 ln0 A0 N) s.heap.size) 5) (hr : meth.sig.returnType = some .int)  {cp k n : Nat} (hch : g_chg N ad0 ln0 ad ln cp) {A : gM} {s0 : Int32} (h : mX6_axle_b40 N cp k n A s0 = some (A', u, r)) : gJ p l e (g_rmx 5 u.2.1 u.2.2) s m args below meth c (gEAi below D g N ad0 ln0 A0 A' u r args s) 3 D g (va_A (gw g ad0 ln0 A0 N) s.heap.size) N ad ln A [] k n 40 [gi s0] := by
  have hkn := oX6_axle_b40 h
  unfold mX6_axle_b40 at h
  obtain ⟨rfl, h2⟩ := Prod.mk.inj (Option.some.inj h)
  obtain ⟨rfl, rfl⟩ := Prod.mk.inj h2
  exact g_retAi C hch hr dX6_axle_40

set_option maxHeartbeats 2000000 in
set_option maxRecDepth 20000 in
theorem oX6_axle_b35 {N : Nat} {A' : gM} {u : Nat × Nat × Nat} {r : Int32}  {cp k n : Nat} {A : gM} (h : mX6_axle_b35 N cp k n A = some (A', u, r)) : k ≤ u.2.1 ∧ n ≤ u.2.2 := by
  unfold mX6_axle_b35 at h
  obtain ⟨q1, eq1, h⟩ := g_bd h
  exact oX6_axle_b40 h

set_option maxHeartbeats 2000000 in
set_option maxRecDepth 20000 in
theorem wX6_axle_b35 (hN : 193 ≤ N)  {A0 A' : gM} {u : Nat × Nat × Nat} {r : Int32} (C : gC p (g_rmx 5 u.2.1 u.2.2) s m args meth c cX6_axle RX6 3 D g (va_A (gw g ad0 ln0 A0 N) s.heap.size) 5) (hr : meth.sig.returnType = some .int)  {cp k n : Nat} (hch : g_chg N ad0 ln0 ad ln cp) {A : gM} (h : mX6_axle_b35 N cp k n A = some (A', u, r)) : gJ p l e (g_rmx 5 u.2.1 u.2.2) s m args below meth c (gEAi below D g N ad0 ln0 A0 A' u r args s) 3 D g (va_A (gw g ad0 ln0 A0 N) s.heap.size) N ad ln A [(0, gr 183)] k n 35 [] := by
  have hkn := oX6_axle_b35 h
  unfold mX6_axle_b35 at h
  refine g_aload_n C 0 dX6_axle_35 rfl ?_
  refine g_iconst (v := 1) C dX6_axle_36 (by decide) ?_
  obtain ⟨q1, eq1, h⟩ := g_bd h
  refine g_calliV C 183 [gi 1] (kX6_fail hN hch.2 eq1) qs_X6_60 (by omega) (by omega) rfl rfl rfl rfl (Nat.le_of_ble_eq_true rfl) hkn dX6_axle_37 ?_
  refine g_sub [] rfl ?_
  exact wX6_axle_b40 hN C hr hch h

set_option maxHeartbeats 2000000 in
set_option maxRecDepth 20000 in
theorem oX6_axle_b32 {N : Nat} {A' : gM} {u : Nat × Nat × Nat} {r : Int32}  {cp k n : Nat} {A : gM} {s0 : Int32} (h : mX6_axle_b32 N cp k n A s0 = some (A', u, r)) : k ≤ u.2.1 ∧ n ≤ u.2.2 := by
  unfold mX6_axle_b32 at h
  exact oX6_axle_b40 h

set_option maxHeartbeats 2000000 in
set_option maxRecDepth 20000 in
theorem wX6_axle_b32 (hN : 193 ≤ N)  {A0 A' : gM} {u : Nat × Nat × Nat} {r : Int32} (C : gC p (g_rmx 5 u.2.1 u.2.2) s m args meth c cX6_axle RX6 3 D g (va_A (gw g ad0 ln0 A0 N) s.heap.size) 5) (hr : meth.sig.returnType = some .int)  {cp k n : Nat} (hch : g_chg N ad0 ln0 ad ln cp) {A : gM} {s0 : Int32} (h : mX6_axle_b32 N cp k n A s0 = some (A', u, r)) : gJ p l e (g_rmx 5 u.2.1 u.2.2) s m args below meth c (gEAi below D g N ad0 ln0 A0 A' u r args s) 3 D g (va_A (gw g ad0 ln0 A0 N) s.heap.size) N ad ln A [] k n 32 [gi s0] := by
  have hkn := oX6_axle_b32 h
  unfold mX6_axle_b32 at h
  refine g_goto C dX6_axle_32 (tgt := 40) (by decide) ?_
  refine g_sub [] rfl ?_
  exact wX6_axle_b40 hN C hr hch h

set_option maxHeartbeats 2000000 in
set_option maxRecDepth 20000 in
theorem oX6_axle_b0 {N : Nat} {A' : gM} {u : Nat × Nat × Nat} {r : Int32}  {cp k n : Nat} {A : gM} {x1 : Int32} {x2 : Int32} (h : mX6_axle_b0 N cp k n A x1 x2 = some (A', u, r)) : k ≤ u.2.1 ∧ n ≤ u.2.2 := by
  unfold mX6_axle_b0 at h
  obtain ⟨A1, eA1, h⟩ := g_lt h
  obtain ⟨q2, eq2, h⟩ := g_bd h
  by_cases c3 : q2.2 = 0
  · have h := g_tt c3 h
    exact oX6_axle_b35 h
  · have h := g_ff c3 h
    obtain ⟨q4, eq4, h⟩ := g_bd h
    by_cases c5 : q4.2 = 0
    · have h := g_tt c5 h
      exact oX6_axle_b35 h
    · have h := g_ff c5 h
      obtain ⟨q6, eq6, h⟩ := g_bd h
      have mo := oX6_axle_b32 h
      exact ⟨by omega, by omega⟩

set_option maxHeartbeats 2000000 in
set_option maxRecDepth 20000 in
theorem wX6_axle_b0 (hN : 193 ≤ N)  {A0 A' : gM} {u : Nat × Nat × Nat} {r : Int32} (C : gC p (g_rmx 5 u.2.1 u.2.2) s m args meth c cX6_axle RX6 3 D g (va_A (gw g ad0 ln0 A0 N) s.heap.size) 5) (hr : meth.sig.returnType = some .int)  {cp k n : Nat} (hch : g_chg N ad0 ln0 ad ln cp) {A : gM} {x1 : Int32} {x2 : Int32} (h : mX6_axle_b0 N cp k n A x1 x2 = some (A', u, r)) : gJ p l e (g_rmx 5 u.2.1 u.2.2) s m args below meth c (gEAi below D g N ad0 ln0 A0 A' u r args s) 3 D g (va_A (gw g ad0 ln0 A0 N) s.heap.size) N ad ln A [(0, gr 183), (1, gi x1), (2, gi x2)] k n 0 [] := by
  have hkn := oX6_axle_b0 h
  unfold mX6_axle_b0 at h
  refine g_aload_n C 0 dX6_axle_0 rfl ?_
  refine g_iconst (v := 0) C dX6_axle_1 (by decide) ?_
  obtain ⟨A1, eA1, h⟩ := g_lt h
  refine g_put C 183 0 tyX6 tyX6_ok nmX6 (by omega) rfl rfl gu_6 (by decide) qf_X6_35 rfl (by decide +kernel) (Nat.le_of_ble_eq_true rfl) rfl eA1 dX6_axle_2 ?_
  refine g_aload_n C 0 dX6_axle_5 rfl ?_
  refine g_iload_n C 1 dX6_axle_6 rfl ?_
  obtain ⟨q2, eq2, h⟩ := g_bd h
  refine g_calliV C 183 [gi x1] (kX6_isPart hN hch.2 eq2) qs_X6_75 (by omega) (by omega) rfl rfl rfl rfl (Nat.le_of_ble_eq_true rfl) hkn dX6_axle_7 ?_
  refine g_if_eq C dX6_axle_10 (tgt := 35) (by decide) (fun c3 => ?_) (fun c3 => ?_)
  · have h := g_tt c3 h
    refine g_sub [0] rfl ?_
    exact wX6_axle_b35 hN C hr hch h
  · have h := g_ff c3 h
    refine g_aload_n C 0 dX6_axle_13 rfl ?_
    refine g_iload_n C 2 dX6_axle_14 rfl ?_
    obtain ⟨q4, eq4, h⟩ := g_bd h
    refine g_calliV C 183 [gi x2] (kX6_isPart hN hch.2 eq4) qs_X6_75 (by omega) (by omega) rfl rfl rfl rfl (Nat.le_of_ble_eq_true rfl) hkn dX6_axle_15 ?_
    refine g_if_eq C dX6_axle_18 (tgt := 35) (by decide) (fun c5 => ?_) (fun c5 => ?_)
    · have h := g_tt c5 h
      refine g_sub [0] rfl ?_
      exact wX6_axle_b35 hN C hr hch h
    · have h := g_ff c5 h
      refine g_aload_n C 0 dX6_axle_21 rfl ?_
      refine g_bipush (v := 6) C dX6_axle_22 (by decide) ?_
      refine g_iload_n C 1 dX6_axle_24 rfl ?_
      refine g_iload_n C 2 dX6_axle_25 rfl ?_
      refine g_iconst (v := (-1)) C dX6_axle_26 (by decide) ?_
      refine g_iconst (v := (-1)) C dX6_axle_27 (by decide) ?_
      refine g_iconst (v := 2) C dX6_axle_28 (by decide) ?_
      obtain ⟨q6, eq6, h⟩ := g_bd h
      have mo := oX6_axle_b32 h
      refine g_callAiV C 183 [gi 6, gi x1, gi x2, gi (-1), gi (-1), gi 2] (kX6_made hN hch.2 eq6) qs_X6_67 (by omega) (by omega) rfl rfl rfl rfl (Nat.le_of_ble_eq_true rfl) ⟨mo.1, mo.2⟩ (And.intro ⟨by omega, by omega⟩ True.intro) True.intro dX6_axle_29 (fun ad1 ln1 hch1 => ?_)
      have hch := g_chg.trans (by omega) hch hch1
      refine g_sub [] rfl ?_
      exact wX6_axle_b32 hN C hr hch h

set_option maxHeartbeats 2000000 in
set_option maxRecDepth 20000 in
theorem kX6_axle {l : Launch} {D : va_G} {g : gT} {N : Nat} (hN : 193 ≤ N) {ad ln : Nat → Nat} {cp : Nat} (hcp : g_cap ln cp) {A A' : gM} {x1 : Int32} {x2 : Int32} {u : Nat × Nat × Nat} {r : Int32} (h : mX6_axle N cp A x1 x2 = some (A', u, r)) : gAi l yX6_axle cX6_axle 3 (some .int) (5) D g N ad ln A [gr 183, gi x1, gi x2] A' u r := by
  refine g_metAi (by decide) (Nat.le_of_ble_eq_true rfl) ?_
  intro p e s m args below meth c C hr
  refine g_sub [0, 1, 2] rfl ?_
  exact wX6_axle_b0 hN C hr (g_chg.rf hcp) h
def mX6_end_b47 (N cp k n : Nat) (A : gM) (s0 : Int32) : Option (gM × (Nat × Nat × Nat) × Int32) :=
  some (A, (cp, k, n), s0)
def mX6_end_b39 (N cp k n : Nat) (A : gM) (s0 : Int32) : Option (gM × (Nat × Nat × Nat) × Int32) :=
  mX6_end_b47 N cp k n A s0
def mX6_end_b0 (N cp k n : Nat) (A : gM) (x1 : Int32) (x2 : Int32) : Option (gM × (Nat × Nat × Nat) × Int32) :=
  g_let (g_up A 183 0 0) fun A1 =>
  (mX6_isPart cp A1 x1).bind fun q2 =>
  if q2.2 = 0 then
  (mX6_fail cp q2.1 1).bind fun q8 =>
  some (q8.1, (cp, k, n), q8.2)
  else
  (mX6_isIn cp q2.1 x2 0 1).bind fun q4 =>
  if q4.2 = 0 then
  (mX6_fail cp q4.1 2).bind fun q6 =>
  mX6_end_b47 N cp k n q6.1 q6.2
  else
  (mX6_made N cp q4.1 7 x1 (-1) (-1) x2 3).bind fun q7 =>
  mX6_end_b39 N q7.2.1.1 (k + q7.2.1.2.1) (n + q7.2.1.2.2) q7.1 q7.2.2
def mX6_end (N cp : Nat) (A : gM) (x1 : Int32) (x2 : Int32) : Option (gM × (Nat × Nat × Nat) × Int32) := mX6_end_b0 N cp 0 0 A x1 x2
set_option maxHeartbeats 2000000 in
set_option maxRecDepth 20000 in
theorem oX6_end_b47 {N : Nat} {A' : gM} {u : Nat × Nat × Nat} {r : Int32}  {cp k n : Nat} {A : gM} {s0 : Int32} (h : mX6_end_b47 N cp k n A s0 = some (A', u, r)) : k ≤ u.2.1 ∧ n ≤ u.2.2 := by
  unfold mX6_end_b47 at h
  obtain ⟨rfl, h2⟩ := Prod.mk.inj (Option.some.inj h)
  obtain ⟨rfl, rfl⟩ := Prod.mk.inj h2
  exact ⟨Nat.le_refl _, Nat.le_refl _⟩

set_option maxHeartbeats 2000000 in
set_option maxRecDepth 20000 in
theorem wX6_end_b47 (hN : 193 ≤ N)  {A0 A' : gM} {u : Nat × Nat × Nat} {r : Int32} (C : gC p (g_rmx 5 u.2.1 u.2.2) s m args meth c cX6_end RX6 3 D g (va_A (gw g ad0 ln0 A0 N) s.heap.size) 5) (hr : meth.sig.returnType = some .int)  {cp k n : Nat} (hch : g_chg N ad0 ln0 ad ln cp) {A : gM} {s0 : Int32} (h : mX6_end_b47 N cp k n A s0 = some (A', u, r)) : gJ p l e (g_rmx 5 u.2.1 u.2.2) s m args below meth c (gEAi below D g N ad0 ln0 A0 A' u r args s) 3 D g (va_A (gw g ad0 ln0 A0 N) s.heap.size) N ad ln A [] k n 47 [gi s0] := by
  have hkn := oX6_end_b47 h
  unfold mX6_end_b47 at h
  obtain ⟨rfl, h2⟩ := Prod.mk.inj (Option.some.inj h)
  obtain ⟨rfl, rfl⟩ := Prod.mk.inj h2
  exact g_retAi C hch hr dX6_end_47

set_option maxHeartbeats 2000000 in
set_option maxRecDepth 20000 in
theorem oX6_end_b39 {N : Nat} {A' : gM} {u : Nat × Nat × Nat} {r : Int32}  {cp k n : Nat} {A : gM} {s0 : Int32} (h : mX6_end_b39 N cp k n A s0 = some (A', u, r)) : k ≤ u.2.1 ∧ n ≤ u.2.2 := by
  unfold mX6_end_b39 at h
  exact oX6_end_b47 h

set_option maxHeartbeats 2000000 in
set_option maxRecDepth 20000 in
theorem wX6_end_b39 (hN : 193 ≤ N)  {A0 A' : gM} {u : Nat × Nat × Nat} {r : Int32} (C : gC p (g_rmx 5 u.2.1 u.2.2) s m args meth c cX6_end RX6 3 D g (va_A (gw g ad0 ln0 A0 N) s.heap.size) 5) (hr : meth.sig.returnType = some .int)  {cp k n : Nat} (hch : g_chg N ad0 ln0 ad ln cp) {A : gM} {s0 : Int32} (h : mX6_end_b39 N cp k n A s0 = some (A', u, r)) : gJ p l e (g_rmx 5 u.2.1 u.2.2) s m args below meth c (gEAi below D g N ad0 ln0 A0 A' u r args s) 3 D g (va_A (gw g ad0 ln0 A0 N) s.heap.size) N ad ln A [] k n 39 [gi s0] := by
  have hkn := oX6_end_b39 h
  unfold mX6_end_b39 at h
  refine g_goto C dX6_end_39 (tgt := 47) (by decide) ?_
  refine g_sub [] rfl ?_
  exact wX6_end_b47 hN C hr hch h

set_option maxHeartbeats 2000000 in
set_option maxRecDepth 20000 in
theorem oX6_end_b0 {N : Nat} {A' : gM} {u : Nat × Nat × Nat} {r : Int32}  {cp k n : Nat} {A : gM} {x1 : Int32} {x2 : Int32} (h : mX6_end_b0 N cp k n A x1 x2 = some (A', u, r)) : k ≤ u.2.1 ∧ n ≤ u.2.2 := by
  unfold mX6_end_b0 at h
  obtain ⟨A1, eA1, h⟩ := g_lt h
  obtain ⟨q2, eq2, h⟩ := g_bd h
  by_cases c3 : q2.2 = 0
  · have h := g_tt c3 h
    obtain ⟨q8, eq8, h⟩ := g_bd h
    obtain ⟨rfl, h2⟩ := Prod.mk.inj (Option.some.inj h)
    obtain ⟨rfl, rfl⟩ := Prod.mk.inj h2
    exact ⟨Nat.le_refl _, Nat.le_refl _⟩
  · have h := g_ff c3 h
    obtain ⟨q4, eq4, h⟩ := g_bd h
    by_cases c5 : q4.2 = 0
    · have h := g_tt c5 h
      obtain ⟨q6, eq6, h⟩ := g_bd h
      exact oX6_end_b47 h
    · have h := g_ff c5 h
      obtain ⟨q7, eq7, h⟩ := g_bd h
      have mo := oX6_end_b39 h
      exact ⟨by omega, by omega⟩

set_option maxHeartbeats 2000000 in
set_option maxRecDepth 20000 in
theorem wX6_end_b0 (hN : 193 ≤ N)  {A0 A' : gM} {u : Nat × Nat × Nat} {r : Int32} (C : gC p (g_rmx 5 u.2.1 u.2.2) s m args meth c cX6_end RX6 3 D g (va_A (gw g ad0 ln0 A0 N) s.heap.size) 5) (hr : meth.sig.returnType = some .int)  {cp k n : Nat} (hch : g_chg N ad0 ln0 ad ln cp) {A : gM} {x1 : Int32} {x2 : Int32} (h : mX6_end_b0 N cp k n A x1 x2 = some (A', u, r)) : gJ p l e (g_rmx 5 u.2.1 u.2.2) s m args below meth c (gEAi below D g N ad0 ln0 A0 A' u r args s) 3 D g (va_A (gw g ad0 ln0 A0 N) s.heap.size) N ad ln A [(0, gr 183), (1, gi x1), (2, gi x2)] k n 0 [] := by
  have hkn := oX6_end_b0 h
  unfold mX6_end_b0 at h
  refine g_aload_n C 0 dX6_end_0 rfl ?_
  refine g_iconst (v := 0) C dX6_end_1 (by decide) ?_
  obtain ⟨A1, eA1, h⟩ := g_lt h
  refine g_put C 183 0 tyX6 tyX6_ok nmX6 (by omega) rfl rfl gu_6 (by decide) qf_X6_35 rfl (by decide +kernel) (Nat.le_of_ble_eq_true rfl) rfl eA1 dX6_end_2 ?_
  refine g_aload_n C 0 dX6_end_5 rfl ?_
  refine g_iload_n C 1 dX6_end_6 rfl ?_
  obtain ⟨q2, eq2, h⟩ := g_bd h
  refine g_calliV C 183 [gi x1] (kX6_isPart hN hch.2 eq2) qs_X6_75 (by omega) (by omega) rfl rfl rfl rfl (Nat.le_of_ble_eq_true rfl) hkn dX6_end_7 ?_
  refine g_if_ne C dX6_end_10 (tgt := 19) (by decide) (fun c3 => ?_) (fun c3 => ?_)
  · have h := g_ff c3 h
    refine g_iload_n C 2 dX6_end_19 rfl ?_
    refine g_iconst (v := 0) C dX6_end_20 (by decide) ?_
    refine g_iconst (v := 1) C dX6_end_21 (by decide) ?_
    obtain ⟨q4, eq4, h⟩ := g_bd h
    refine g_calliS C [gi x2, gi 0, gi 1] (kX6_isIn hN hch.2 eq4) qs_X6_42 (by omega) rfl rfl (Nat.le_of_ble_eq_true rfl) hkn dX6_end_22 ?_
    refine g_if_eq C dX6_end_25 (tgt := 42) (by decide) (fun c5 => ?_) (fun c5 => ?_)
    · have h := g_tt c5 h
      refine g_aload_n C 0 dX6_end_42 rfl ?_
      refine g_iconst (v := 2) C dX6_end_43 (by decide) ?_
      obtain ⟨q6, eq6, h⟩ := g_bd h
      refine g_calliV C 183 [gi 2] (kX6_fail hN hch.2 eq6) qs_X6_60 (by omega) (by omega) rfl rfl rfl rfl (Nat.le_of_ble_eq_true rfl) hkn dX6_end_44 ?_
      refine g_sub [] rfl ?_
      exact wX6_end_b47 hN C hr hch h
    · have h := g_ff c5 h
      refine g_aload_n C 0 dX6_end_28 rfl ?_
      refine g_bipush (v := 7) C dX6_end_29 (by decide) ?_
      refine g_iload_n C 1 dX6_end_31 rfl ?_
      refine g_iconst (v := (-1)) C dX6_end_32 (by decide) ?_
      refine g_iconst (v := (-1)) C dX6_end_33 (by decide) ?_
      refine g_iload_n C 2 dX6_end_34 rfl ?_
      refine g_iconst (v := 3) C dX6_end_35 (by decide) ?_
      obtain ⟨q7, eq7, h⟩ := g_bd h
      have mo := oX6_end_b39 h
      refine g_callAiV C 183 [gi 7, gi x1, gi (-1), gi (-1), gi x2, gi 3] (kX6_made hN hch.2 eq7) qs_X6_67 (by omega) (by omega) rfl rfl rfl rfl (Nat.le_of_ble_eq_true rfl) ⟨mo.1, mo.2⟩ (And.intro ⟨by omega, by omega⟩ True.intro) True.intro dX6_end_36 (fun ad1 ln1 hch1 => ?_)
      have hch := g_chg.trans (by omega) hch hch1
      refine g_sub [] rfl ?_
      exact wX6_end_b39 hN C hr hch h
  · have h := g_tt c3 h
    refine g_aload_n C 0 dX6_end_13 rfl ?_
    refine g_iconst (v := 1) C dX6_end_14 (by decide) ?_
    obtain ⟨q8, eq8, h⟩ := g_bd h
    refine g_calliV C 183 [gi 1] (kX6_fail hN hch.2 eq8) qs_X6_60 (by omega) (by omega) rfl rfl rfl rfl (Nat.le_of_ble_eq_true rfl) hkn dX6_end_15 ?_
    obtain ⟨rfl, h2⟩ := Prod.mk.inj (Option.some.inj h)
    obtain ⟨rfl, rfl⟩ := Prod.mk.inj h2
    exact g_retAi C hch hr dX6_end_18

set_option maxHeartbeats 2000000 in
set_option maxRecDepth 20000 in
theorem kX6_end {l : Launch} {D : va_G} {g : gT} {N : Nat} (hN : 193 ≤ N) {ad ln : Nat → Nat} {cp : Nat} (hcp : g_cap ln cp) {A A' : gM} {x1 : Int32} {x2 : Int32} {u : Nat × Nat × Nat} {r : Int32} (h : mX6_end N cp A x1 x2 = some (A', u, r)) : gAi l yX6_end cX6_end 3 (some .int) (5) D g N ad ln A [gr 183, gi x1, gi x2] A' u r := by
  refine g_metAi (by decide) (Nat.le_of_ble_eq_true rfl) ?_
  intro p e s m args below meth c C hr
  refine g_sub [0, 1, 2] rfl ?_
  exact wX6_end_b0 hN C hr (g_chg.rf hcp) h
def mX6_either_b48 (N cp k n : Nat) (A : gM) (s0 : Int32) : Option (gM × (Nat × Nat × Nat) × Int32) :=
  some (A, (cp, k, n), s0)
def mX6_either_b43 (N cp k n : Nat) (A : gM) : Option (gM × (Nat × Nat × Nat) × Int32) :=
  (mX6_fail cp A 1).bind fun q1 =>
  mX6_either_b48 N cp k n q1.1 q1.2
def mX6_either_b40 (N cp k n : Nat) (A : gM) (s0 : Int32) : Option (gM × (Nat × Nat × Nat) × Int32) :=
  mX6_either_b48 N cp k n A s0
def mX6_either_b0 (N cp k n : Nat) (A : gM) (x1 : Int32) (x2 : Int32) (x3 : Int32) : Option (gM × (Nat × Nat × Nat) × Int32) :=
  g_let (g_up A 183 0 0) fun A1 =>
  (mX6_isPart cp A1 x1).bind fun q2 =>
  if q2.2 = 0 then
  mX6_either_b43 N cp k n q2.1
  else
  (mX6_isPart cp q2.1 x2).bind fun q4 =>
  if q4.2 = 0 then
  mX6_either_b43 N cp k n q4.1
  else
  (mX6_isPart cp q4.1 x3).bind fun q6 =>
  if q6.2 = 0 then
  mX6_either_b43 N cp k n q6.1
  else
  (mX6_made N cp q6.1 8 x1 x2 x3 (-1) 2).bind fun q8 =>
  mX6_either_b40 N q8.2.1.1 (k + q8.2.1.2.1) (n + q8.2.1.2.2) q8.1 q8.2.2
def mX6_either (N cp : Nat) (A : gM) (x1 : Int32) (x2 : Int32) (x3 : Int32) : Option (gM × (Nat × Nat × Nat) × Int32) := mX6_either_b0 N cp 0 0 A x1 x2 x3
set_option maxHeartbeats 2000000 in
set_option maxRecDepth 20000 in
theorem oX6_either_b48 {N : Nat} {A' : gM} {u : Nat × Nat × Nat} {r : Int32}  {cp k n : Nat} {A : gM} {s0 : Int32} (h : mX6_either_b48 N cp k n A s0 = some (A', u, r)) : k ≤ u.2.1 ∧ n ≤ u.2.2 := by
  unfold mX6_either_b48 at h
  obtain ⟨rfl, h2⟩ := Prod.mk.inj (Option.some.inj h)
  obtain ⟨rfl, rfl⟩ := Prod.mk.inj h2
  exact ⟨Nat.le_refl _, Nat.le_refl _⟩

set_option maxHeartbeats 2000000 in
set_option maxRecDepth 20000 in
theorem wX6_either_b48 (hN : 193 ≤ N)  {A0 A' : gM} {u : Nat × Nat × Nat} {r : Int32} (C : gC p (g_rmx 5 u.2.1 u.2.2) s m args meth c cX6_either RX6 4 D g (va_A (gw g ad0 ln0 A0 N) s.heap.size) 5) (hr : meth.sig.returnType = some .int)  {cp k n : Nat} (hch : g_chg N ad0 ln0 ad ln cp) {A : gM} {s0 : Int32} (h : mX6_either_b48 N cp k n A s0 = some (A', u, r)) : gJ p l e (g_rmx 5 u.2.1 u.2.2) s m args below meth c (gEAi below D g N ad0 ln0 A0 A' u r args s) 4 D g (va_A (gw g ad0 ln0 A0 N) s.heap.size) N ad ln A [] k n 48 [gi s0] := by
  have hkn := oX6_either_b48 h
  unfold mX6_either_b48 at h
  obtain ⟨rfl, h2⟩ := Prod.mk.inj (Option.some.inj h)
  obtain ⟨rfl, rfl⟩ := Prod.mk.inj h2
  exact g_retAi C hch hr dX6_either_48

set_option maxHeartbeats 2000000 in
set_option maxRecDepth 20000 in
theorem oX6_either_b43 {N : Nat} {A' : gM} {u : Nat × Nat × Nat} {r : Int32}  {cp k n : Nat} {A : gM} (h : mX6_either_b43 N cp k n A = some (A', u, r)) : k ≤ u.2.1 ∧ n ≤ u.2.2 := by
  unfold mX6_either_b43 at h
  obtain ⟨q1, eq1, h⟩ := g_bd h
  exact oX6_either_b48 h

set_option maxHeartbeats 2000000 in
set_option maxRecDepth 20000 in
theorem wX6_either_b43 (hN : 193 ≤ N)  {A0 A' : gM} {u : Nat × Nat × Nat} {r : Int32} (C : gC p (g_rmx 5 u.2.1 u.2.2) s m args meth c cX6_either RX6 4 D g (va_A (gw g ad0 ln0 A0 N) s.heap.size) 5) (hr : meth.sig.returnType = some .int)  {cp k n : Nat} (hch : g_chg N ad0 ln0 ad ln cp) {A : gM} (h : mX6_either_b43 N cp k n A = some (A', u, r)) : gJ p l e (g_rmx 5 u.2.1 u.2.2) s m args below meth c (gEAi below D g N ad0 ln0 A0 A' u r args s) 4 D g (va_A (gw g ad0 ln0 A0 N) s.heap.size) N ad ln A [(0, gr 183)] k n 43 [] := by
  have hkn := oX6_either_b43 h
  unfold mX6_either_b43 at h
  refine g_aload_n C 0 dX6_either_43 rfl ?_
  refine g_iconst (v := 1) C dX6_either_44 (by decide) ?_
  obtain ⟨q1, eq1, h⟩ := g_bd h
  refine g_calliV C 183 [gi 1] (kX6_fail hN hch.2 eq1) qs_X6_60 (by omega) (by omega) rfl rfl rfl rfl (Nat.le_of_ble_eq_true rfl) hkn dX6_either_45 ?_
  refine g_sub [] rfl ?_
  exact wX6_either_b48 hN C hr hch h

set_option maxHeartbeats 2000000 in
set_option maxRecDepth 20000 in
theorem oX6_either_b40 {N : Nat} {A' : gM} {u : Nat × Nat × Nat} {r : Int32}  {cp k n : Nat} {A : gM} {s0 : Int32} (h : mX6_either_b40 N cp k n A s0 = some (A', u, r)) : k ≤ u.2.1 ∧ n ≤ u.2.2 := by
  unfold mX6_either_b40 at h
  exact oX6_either_b48 h

set_option maxHeartbeats 2000000 in
set_option maxRecDepth 20000 in
theorem wX6_either_b40 (hN : 193 ≤ N)  {A0 A' : gM} {u : Nat × Nat × Nat} {r : Int32} (C : gC p (g_rmx 5 u.2.1 u.2.2) s m args meth c cX6_either RX6 4 D g (va_A (gw g ad0 ln0 A0 N) s.heap.size) 5) (hr : meth.sig.returnType = some .int)  {cp k n : Nat} (hch : g_chg N ad0 ln0 ad ln cp) {A : gM} {s0 : Int32} (h : mX6_either_b40 N cp k n A s0 = some (A', u, r)) : gJ p l e (g_rmx 5 u.2.1 u.2.2) s m args below meth c (gEAi below D g N ad0 ln0 A0 A' u r args s) 4 D g (va_A (gw g ad0 ln0 A0 N) s.heap.size) N ad ln A [] k n 40 [gi s0] := by
  have hkn := oX6_either_b40 h
  unfold mX6_either_b40 at h
  refine g_goto C dX6_either_40 (tgt := 48) (by decide) ?_
  refine g_sub [] rfl ?_
  exact wX6_either_b48 hN C hr hch h

set_option maxHeartbeats 2000000 in
set_option maxRecDepth 20000 in
theorem oX6_either_b0 {N : Nat} {A' : gM} {u : Nat × Nat × Nat} {r : Int32}  {cp k n : Nat} {A : gM} {x1 : Int32} {x2 : Int32} {x3 : Int32} (h : mX6_either_b0 N cp k n A x1 x2 x3 = some (A', u, r)) : k ≤ u.2.1 ∧ n ≤ u.2.2 := by
  unfold mX6_either_b0 at h
  obtain ⟨A1, eA1, h⟩ := g_lt h
  obtain ⟨q2, eq2, h⟩ := g_bd h
  by_cases c3 : q2.2 = 0
  · have h := g_tt c3 h
    exact oX6_either_b43 h
  · have h := g_ff c3 h
    obtain ⟨q4, eq4, h⟩ := g_bd h
    by_cases c5 : q4.2 = 0
    · have h := g_tt c5 h
      exact oX6_either_b43 h
    · have h := g_ff c5 h
      obtain ⟨q6, eq6, h⟩ := g_bd h
      by_cases c7 : q6.2 = 0
      · have h := g_tt c7 h
        exact oX6_either_b43 h
      · have h := g_ff c7 h
        obtain ⟨q8, eq8, h⟩ := g_bd h
        have mo := oX6_either_b40 h
        exact ⟨by omega, by omega⟩

set_option maxHeartbeats 2000000 in
set_option maxRecDepth 20000 in
theorem wX6_either_b0 (hN : 193 ≤ N)  {A0 A' : gM} {u : Nat × Nat × Nat} {r : Int32} (C : gC p (g_rmx 5 u.2.1 u.2.2) s m args meth c cX6_either RX6 4 D g (va_A (gw g ad0 ln0 A0 N) s.heap.size) 5) (hr : meth.sig.returnType = some .int)  {cp k n : Nat} (hch : g_chg N ad0 ln0 ad ln cp) {A : gM} {x1 : Int32} {x2 : Int32} {x3 : Int32} (h : mX6_either_b0 N cp k n A x1 x2 x3 = some (A', u, r)) : gJ p l e (g_rmx 5 u.2.1 u.2.2) s m args below meth c (gEAi below D g N ad0 ln0 A0 A' u r args s) 4 D g (va_A (gw g ad0 ln0 A0 N) s.heap.size) N ad ln A [(0, gr 183), (1, gi x1), (2, gi x2), (3, gi x3)] k n 0 [] := by
  have hkn := oX6_either_b0 h
  unfold mX6_either_b0 at h
  refine g_aload_n C 0 dX6_either_0 rfl ?_
  refine g_iconst (v := 0) C dX6_either_1 (by decide) ?_
  obtain ⟨A1, eA1, h⟩ := g_lt h
  refine g_put C 183 0 tyX6 tyX6_ok nmX6 (by omega) rfl rfl gu_6 (by decide) qf_X6_35 rfl (by decide +kernel) (Nat.le_of_ble_eq_true rfl) rfl eA1 dX6_either_2 ?_
  refine g_aload_n C 0 dX6_either_5 rfl ?_
  refine g_iload_n C 1 dX6_either_6 rfl ?_
  obtain ⟨q2, eq2, h⟩ := g_bd h
  refine g_calliV C 183 [gi x1] (kX6_isPart hN hch.2 eq2) qs_X6_75 (by omega) (by omega) rfl rfl rfl rfl (Nat.le_of_ble_eq_true rfl) hkn dX6_either_7 ?_
  refine g_if_eq C dX6_either_10 (tgt := 43) (by decide) (fun c3 => ?_) (fun c3 => ?_)
  · have h := g_tt c3 h
    refine g_sub [0] rfl ?_
    exact wX6_either_b43 hN C hr hch h
  · have h := g_ff c3 h
    refine g_aload_n C 0 dX6_either_13 rfl ?_
    refine g_iload_n C 2 dX6_either_14 rfl ?_
    obtain ⟨q4, eq4, h⟩ := g_bd h
    refine g_calliV C 183 [gi x2] (kX6_isPart hN hch.2 eq4) qs_X6_75 (by omega) (by omega) rfl rfl rfl rfl (Nat.le_of_ble_eq_true rfl) hkn dX6_either_15 ?_
    refine g_if_eq C dX6_either_18 (tgt := 43) (by decide) (fun c5 => ?_) (fun c5 => ?_)
    · have h := g_tt c5 h
      refine g_sub [0] rfl ?_
      exact wX6_either_b43 hN C hr hch h
    · have h := g_ff c5 h
      refine g_aload_n C 0 dX6_either_21 rfl ?_
      refine g_iload_n C 3 dX6_either_22 rfl ?_
      obtain ⟨q6, eq6, h⟩ := g_bd h
      refine g_calliV C 183 [gi x3] (kX6_isPart hN hch.2 eq6) qs_X6_75 (by omega) (by omega) rfl rfl rfl rfl (Nat.le_of_ble_eq_true rfl) hkn dX6_either_23 ?_
      refine g_if_eq C dX6_either_26 (tgt := 43) (by decide) (fun c7 => ?_) (fun c7 => ?_)
      · have h := g_tt c7 h
        refine g_sub [0] rfl ?_
        exact wX6_either_b43 hN C hr hch h
      · have h := g_ff c7 h
        refine g_aload_n C 0 dX6_either_29 rfl ?_
        refine g_bipush (v := 8) C dX6_either_30 (by decide) ?_
        refine g_iload_n C 1 dX6_either_32 rfl ?_
        refine g_iload_n C 2 dX6_either_33 rfl ?_
        refine g_iload_n C 3 dX6_either_34 rfl ?_
        refine g_iconst (v := (-1)) C dX6_either_35 (by decide) ?_
        refine g_iconst (v := 2) C dX6_either_36 (by decide) ?_
        obtain ⟨q8, eq8, h⟩ := g_bd h
        have mo := oX6_either_b40 h
        refine g_callAiV C 183 [gi 8, gi x1, gi x2, gi x3, gi (-1), gi 2] (kX6_made hN hch.2 eq8) qs_X6_67 (by omega) (by omega) rfl rfl rfl rfl (Nat.le_of_ble_eq_true rfl) ⟨mo.1, mo.2⟩ (And.intro ⟨by omega, by omega⟩ True.intro) True.intro dX6_either_37 (fun ad1 ln1 hch1 => ?_)
        have hch := g_chg.trans (by omega) hch hch1
        refine g_sub [] rfl ?_
        exact wX6_either_b40 hN C hr hch h

set_option maxHeartbeats 2000000 in
set_option maxRecDepth 20000 in
theorem kX6_either {l : Launch} {D : va_G} {g : gT} {N : Nat} (hN : 193 ≤ N) {ad ln : Nat → Nat} {cp : Nat} (hcp : g_cap ln cp) {A A' : gM} {x1 : Int32} {x2 : Int32} {x3 : Int32} {u : Nat × Nat × Nat} {r : Int32} (h : mX6_either N cp A x1 x2 x3 = some (A', u, r)) : gAi l yX6_either cX6_either 4 (some .int) (5) D g N ad ln A [gr 183, gi x1, gi x2, gi x3] A' u r := by
  refine g_metAi (by decide) (Nat.le_of_ble_eq_true rfl) ?_
  intro p e s m args below meth c C hr
  refine g_sub [0, 1, 2, 3] rfl ?_
  exact wX6_either_b0 hN C hr (g_chg.rf hcp) h
def mX6_used_b82 (N cp k n : Nat) (rec : Nat → gM → Int32 → Int32 → Option (gM × (Nat × Nat × Nat) × Int32)) (fu : Nat) (A : gM) (x3 : Int32) (s0 : Int32) : Option (gM × (Nat × Nat × Nat) × Int32) :=
  if g_in x3 cp = true then g_let (g_up A 189 x3.toNatClampNeg s0) fun A2 =>
  some (A2, (cp, k, n), s0)
  else none
def mX6_used_b60 (N cp k n : Nat) (rec : Nat → gM → Int32 → Int32 → Option (gM × (Nat × Nat × Nat) × Int32)) (fu : Nat) (A : gM) (s0 : Int32) : Option (gM × (Nat × Nat × Nat) × Int32) :=
  some (A, (cp, k, n), s0)
def mX6_used_b57 (N cp k n : Nat) (rec : Nat → gM → Int32 → Int32 → Option (gM × (Nat × Nat × Nat) × Int32)) (fu : Nat) (A : gM) (s1 : Int32) (s2 : Int32) (s3 : Int32) : Option (gM × (Nat × Nat × Nat) × Int32) :=
  (mX6_node N cp A s1 s2 s3).bind fun q1 =>
  mX6_used_b60 N q1.2.1.1 (k + q1.2.1.2.1) (n + q1.2.1.2.2) rec fu q1.1 q1.2.2
def mX6_used_b35 (N cp k n : Nat) (rec : Nat → gM → Int32 → Int32 → Option (gM × (Nat × Nat × Nat) × Int32)) (fu : Nat) (A : gM) (x2 : Int32) (x3 : Int32) (s0 : Int32) : Option (gM × (Nat × Nat × Nat) × Int32) :=
  if g_in x3 cp = true then
  if g_in x3 cp = true then
  (rec cp A (A 187 x3.toNatClampNeg) x2).bind fun q3 =>
  mX6_used_b57 N q3.2.1.1 (k + q3.2.1.2.1) (n + q3.2.1.2.2) rec fu q3.1 (A 185 x3.toNatClampNeg) s0 q3.2.2
  else none
  else none
def mX6_used_b0 (N cp k n : Nat) (rec : Nat → gM → Int32 → Int32 → Option (gM × (Nat × Nat × Nat) × Int32)) (fu : Nat) (A : gM) (x1 : Int32) (x2 : Int32) : Option (gM × (Nat × Nat × Nat) × Int32) :=
  (mX6_now cp A x1).bind fun q1 =>
  (mX6_hasOwn cp fu q1.1 q1.2).bind fun q2 =>
  if q2.2 = 0 then
  some (q2.1, (cp, k, n), q1.2)
  else
  (mX6_isPair cp q2.1 q1.2).bind fun q4 =>
  if q4.2 = 0 then
  if g_in q1.2 cp = true then
  if (q4.1 189 q1.2.toNatClampNeg) < x2 then
  (mX6_variable N cp q4.1).bind fun q8 =>
  mX6_used_b82 N q8.2.1.1 (k + q8.2.1.2.1) (n + q8.2.1.2.2) rec fu q8.1 q1.2 q8.2.2
  else
  if g_in q1.2 cp = true then
  some (q4.1, (cp, k, n), (q4.1 189 q1.2.toNatClampNeg))
  else none
  else none
  else
  if g_in q1.2 cp = true then
  (rec cp q4.1 (q4.1 186 q1.2.toNatClampNeg) x2).bind fun q11 =>
  mX6_used_b35 N q11.2.1.1 (k + q11.2.1.2.1) (n + q11.2.1.2.2) rec fu q11.1 x2 q1.2 q11.2.2
  else none
def mX6_used_body (N cp : Nat) (rec : Nat → gM → Int32 → Int32 → Option (gM × (Nat × Nat × Nat) × Int32)) (fu : Nat) (A : gM) (x1 : Int32) (x2 : Int32) : Option (gM × (Nat × Nat × Nat) × Int32) := mX6_used_b0 N cp 0 0 rec fu A x1 x2
def mX6_used (N : Nat) : Nat → Nat → gM → Int32 → Int32 → Option (gM × (Nat × Nat × Nat) × Int32)
  | 0 => fun _ _ _ _ => none
  | f + 1 => fun cp => mX6_used_body N cp (mX6_used N f) f
set_option maxHeartbeats 2000000 in
set_option maxRecDepth 20000 in
theorem oX6_used_b82 {N : Nat} {rec : Nat → gM → Int32 → Int32 → Option (gM × (Nat × Nat × Nat) × Int32)} {fu : Nat} {A' : gM} {u : Nat × Nat × Nat} {r : Int32}  {cp k n : Nat} {A : gM} {x3 : Int32} {s0 : Int32} (h : mX6_used_b82 N cp k n rec fu A x3 s0 = some (A', u, r)) : k ≤ u.2.1 ∧ n ≤ u.2.2 := by
  unfold mX6_used_b82 at h
  obtain ⟨hg1, h⟩ := g_gd h
  obtain ⟨A2, eA2, h⟩ := g_lt h
  obtain ⟨rfl, h2⟩ := Prod.mk.inj (Option.some.inj h)
  obtain ⟨rfl, rfl⟩ := Prod.mk.inj h2
  exact ⟨Nat.le_refl _, Nat.le_refl _⟩

set_option maxHeartbeats 2000000 in
set_option maxRecDepth 20000 in
theorem wX6_used_b82 (hN : 193 ≤ N)  {rec : Nat → gM → Int32 → Int32 → Option (gM × (Nat × Nat × Nat) × Int32)} {fu : Nat} (hrec : ∀ {ad ln : Nat → Nat} {cp : Nat} (_ : g_cap ln cp) {A A' : gM} {x1 : Int32} {x2 : Int32} {u : Nat × Nat × Nat} {r : Int32}, rec cp A x1 x2 = some (A', u, r) → gAi l yX6_used cX6_used 5 (some .int) (8 + 1 * fu) D g N ad ln A [gr 183, gi x1, gi x2] A' u r) {A0 A' : gM} {u : Nat × Nat × Nat} {r : Int32} (C : gC p (g_rmx (8 + 1 * fu + 1) u.2.1 u.2.2) s m args meth c cX6_used RX6 5 D g (va_A (gw g ad0 ln0 A0 N) s.heap.size) (8 + 1 * fu + 1)) (hr : meth.sig.returnType = some .int)  {cp k n : Nat} (hch : g_chg N ad0 ln0 ad ln cp) {A : gM} {x3 : Int32} {s0 : Int32} (h : mX6_used_b82 N cp k n rec fu A x3 s0 = some (A', u, r)) : gJ p l e (g_rmx (8 + 1 * fu + 1) u.2.1 u.2.2) s m args below meth c (gEAi below D g N ad0 ln0 A0 A' u r args s) 5 D g (va_A (gw g ad0 ln0 A0 N) s.heap.size) N ad ln A [(0, gr 183), (3, gi x3)] k n 82 [gi s0] := by
  have hkn := oX6_used_b82 h
  unfold mX6_used_b82 at h
  refine g_istore C dX6_used_82 (by decide) rfl ?_
  refine g_aload_n C 1 dX6_used_84 rfl ?_
  refine g_get (v := gr 189) C 183 8 (by omega) rfl rfl gu_6 (by decide) qf_X6_26 rfl dX6_used_85 ?_
  refine g_iload_n C 2 dX6_used_88 rfl ?_
  refine g_iload C 0 dX6_used_89 rfl ?_
  obtain ⟨hg1, h⟩ := g_gd h
  obtain ⟨A2, eA2, h⟩ := g_lt h
  refine g_iast C 189 (by omega) rfl (show g_ln ln 189 = cp from hch.2.2.2.2.2) hg1 eA2 dX6_used_91 ?_
  refine g_iload C 0 dX6_used_92 rfl ?_
  obtain ⟨rfl, h2⟩ := Prod.mk.inj (Option.some.inj h)
  obtain ⟨rfl, rfl⟩ := Prod.mk.inj h2
  exact g_retAi C hch hr dX6_used_94

set_option maxHeartbeats 2000000 in
set_option maxRecDepth 20000 in
theorem oX6_used_b60 {N : Nat} {rec : Nat → gM → Int32 → Int32 → Option (gM × (Nat × Nat × Nat) × Int32)} {fu : Nat} {A' : gM} {u : Nat × Nat × Nat} {r : Int32}  {cp k n : Nat} {A : gM} {s0 : Int32} (h : mX6_used_b60 N cp k n rec fu A s0 = some (A', u, r)) : k ≤ u.2.1 ∧ n ≤ u.2.2 := by
  unfold mX6_used_b60 at h
  obtain ⟨rfl, h2⟩ := Prod.mk.inj (Option.some.inj h)
  obtain ⟨rfl, rfl⟩ := Prod.mk.inj h2
  exact ⟨Nat.le_refl _, Nat.le_refl _⟩

set_option maxHeartbeats 2000000 in
set_option maxRecDepth 20000 in
theorem wX6_used_b60 (hN : 193 ≤ N)  {rec : Nat → gM → Int32 → Int32 → Option (gM × (Nat × Nat × Nat) × Int32)} {fu : Nat} (hrec : ∀ {ad ln : Nat → Nat} {cp : Nat} (_ : g_cap ln cp) {A A' : gM} {x1 : Int32} {x2 : Int32} {u : Nat × Nat × Nat} {r : Int32}, rec cp A x1 x2 = some (A', u, r) → gAi l yX6_used cX6_used 5 (some .int) (8 + 1 * fu) D g N ad ln A [gr 183, gi x1, gi x2] A' u r) {A0 A' : gM} {u : Nat × Nat × Nat} {r : Int32} (C : gC p (g_rmx (8 + 1 * fu + 1) u.2.1 u.2.2) s m args meth c cX6_used RX6 5 D g (va_A (gw g ad0 ln0 A0 N) s.heap.size) (8 + 1 * fu + 1)) (hr : meth.sig.returnType = some .int)  {cp k n : Nat} (hch : g_chg N ad0 ln0 ad ln cp) {A : gM} {s0 : Int32} (h : mX6_used_b60 N cp k n rec fu A s0 = some (A', u, r)) : gJ p l e (g_rmx (8 + 1 * fu + 1) u.2.1 u.2.2) s m args below meth c (gEAi below D g N ad0 ln0 A0 A' u r args s) 5 D g (va_A (gw g ad0 ln0 A0 N) s.heap.size) N ad ln A [] k n 60 [gi s0] := by
  have hkn := oX6_used_b60 h
  unfold mX6_used_b60 at h
  obtain ⟨rfl, h2⟩ := Prod.mk.inj (Option.some.inj h)
  obtain ⟨rfl, rfl⟩ := Prod.mk.inj h2
  exact g_retAi C hch hr dX6_used_60

set_option maxHeartbeats 2000000 in
set_option maxRecDepth 20000 in
theorem oX6_used_b57 {N : Nat} {rec : Nat → gM → Int32 → Int32 → Option (gM × (Nat × Nat × Nat) × Int32)} {fu : Nat} {A' : gM} {u : Nat × Nat × Nat} {r : Int32}  {cp k n : Nat} {A : gM} {s1 : Int32} {s2 : Int32} {s3 : Int32} (h : mX6_used_b57 N cp k n rec fu A s1 s2 s3 = some (A', u, r)) : k ≤ u.2.1 ∧ n ≤ u.2.2 := by
  unfold mX6_used_b57 at h
  obtain ⟨q1, eq1, h⟩ := g_bd h
  have mo := oX6_used_b60 h
  exact ⟨by omega, by omega⟩

set_option maxHeartbeats 2000000 in
set_option maxRecDepth 20000 in
theorem wX6_used_b57 (hN : 193 ≤ N)  {rec : Nat → gM → Int32 → Int32 → Option (gM × (Nat × Nat × Nat) × Int32)} {fu : Nat} (hrec : ∀ {ad ln : Nat → Nat} {cp : Nat} (_ : g_cap ln cp) {A A' : gM} {x1 : Int32} {x2 : Int32} {u : Nat × Nat × Nat} {r : Int32}, rec cp A x1 x2 = some (A', u, r) → gAi l yX6_used cX6_used 5 (some .int) (8 + 1 * fu) D g N ad ln A [gr 183, gi x1, gi x2] A' u r) {A0 A' : gM} {u : Nat × Nat × Nat} {r : Int32} (C : gC p (g_rmx (8 + 1 * fu + 1) u.2.1 u.2.2) s m args meth c cX6_used RX6 5 D g (va_A (gw g ad0 ln0 A0 N) s.heap.size) (8 + 1 * fu + 1)) (hr : meth.sig.returnType = some .int)  {cp k n : Nat} (hch : g_chg N ad0 ln0 ad ln cp) {A : gM} {s1 : Int32} {s2 : Int32} {s3 : Int32} (h : mX6_used_b57 N cp k n rec fu A s1 s2 s3 = some (A', u, r)) : gJ p l e (g_rmx (8 + 1 * fu + 1) u.2.1 u.2.2) s m args below meth c (gEAi below D g N ad0 ln0 A0 A' u r args s) 5 D g (va_A (gw g ad0 ln0 A0 N) s.heap.size) N ad ln A [] k n 57 [gi s3, gi s2, gi s1, gr 183] := by
  have hkn := oX6_used_b57 h
  unfold mX6_used_b57 at h
  obtain ⟨q1, eq1, h⟩ := g_bd h
  have mo := oX6_used_b60 h
  refine g_callAiV C 183 [gi s1, gi s2, gi s3] (kX6_node hN hch.2 eq1) qs_X6_85 (by omega) (by omega) rfl rfl rfl rfl (Nat.le_of_ble_eq_true rfl) ⟨mo.1, mo.2⟩ True.intro True.intro dX6_used_57 (fun ad1 ln1 hch1 => ?_)
  have hch := g_chg.trans (by omega) hch hch1
  refine g_sub [] rfl ?_
  exact wX6_used_b60 hN hrec C hr hch h

set_option maxHeartbeats 2000000 in
set_option maxRecDepth 20000 in
theorem oX6_used_b35 {N : Nat} {rec : Nat → gM → Int32 → Int32 → Option (gM × (Nat × Nat × Nat) × Int32)} {fu : Nat} {A' : gM} {u : Nat × Nat × Nat} {r : Int32}  {cp k n : Nat} {A : gM} {x2 : Int32} {x3 : Int32} {s0 : Int32} (h : mX6_used_b35 N cp k n rec fu A x2 x3 s0 = some (A', u, r)) : k ≤ u.2.1 ∧ n ≤ u.2.2 := by
  unfold mX6_used_b35 at h
  obtain ⟨hg1, h⟩ := g_gd h
  obtain ⟨hg2, h⟩ := g_gd h
  obtain ⟨q3, eq3, h⟩ := g_bd h
  have mo := oX6_used_b57 h
  exact ⟨by omega, by omega⟩

set_option maxHeartbeats 2000000 in
set_option maxRecDepth 20000 in
theorem wX6_used_b35 (hN : 193 ≤ N)  {rec : Nat → gM → Int32 → Int32 → Option (gM × (Nat × Nat × Nat) × Int32)} {fu : Nat} (hrec : ∀ {ad ln : Nat → Nat} {cp : Nat} (_ : g_cap ln cp) {A A' : gM} {x1 : Int32} {x2 : Int32} {u : Nat × Nat × Nat} {r : Int32}, rec cp A x1 x2 = some (A', u, r) → gAi l yX6_used cX6_used 5 (some .int) (8 + 1 * fu) D g N ad ln A [gr 183, gi x1, gi x2] A' u r) {A0 A' : gM} {u : Nat × Nat × Nat} {r : Int32} (C : gC p (g_rmx (8 + 1 * fu + 1) u.2.1 u.2.2) s m args meth c cX6_used RX6 5 D g (va_A (gw g ad0 ln0 A0 N) s.heap.size) (8 + 1 * fu + 1)) (hr : meth.sig.returnType = some .int)  {cp k n : Nat} (hch : g_chg N ad0 ln0 ad ln cp) {A : gM} {x2 : Int32} {x3 : Int32} {s0 : Int32} (h : mX6_used_b35 N cp k n rec fu A x2 x3 s0 = some (A', u, r)) : gJ p l e (g_rmx (8 + 1 * fu + 1) u.2.1 u.2.2) s m args below meth c (gEAi below D g N ad0 ln0 A0 A' u r args s) 5 D g (va_A (gw g ad0 ln0 A0 N) s.heap.size) N ad ln A [(0, gr 183), (2, gi x2), (3, gi x3)] k n 35 [gi s0] := by
  have hkn := oX6_used_b35 h
  unfold mX6_used_b35 at h
  refine g_istore C dX6_used_35 (by decide) rfl ?_
  refine g_aload_n C 1 dX6_used_37 rfl ?_
  refine g_aload_n C 1 dX6_used_38 rfl ?_
  refine g_get (v := gr 185) C 183 4 (by omega) rfl rfl gu_6 (by decide) qf_X6_13 rfl dX6_used_39 ?_
  refine g_iload_n C 3 dX6_used_42 rfl ?_
  obtain ⟨hg1, h⟩ := g_gd h
  refine g_iald C 185 (by omega) rfl (show g_ln ln 185 = cp from hch.2.1) hg1 dX6_used_43 ?_
  refine g_iload C 0 dX6_used_44 rfl ?_
  refine g_aload_n C 1 dX6_used_46 rfl ?_
  refine g_aload_n C 1 dX6_used_47 rfl ?_
  refine g_get (v := gr 187) C 183 6 (by omega) rfl rfl gu_6 (by decide) qf_X6_19 rfl dX6_used_48 ?_
  refine g_iload_n C 3 dX6_used_51 rfl ?_
  obtain ⟨hg2, h⟩ := g_gd h
  refine g_iald C 187 (by omega) rfl (show g_ln ln 187 = cp from hch.2.2.2.1) hg2 dX6_used_52 ?_
  refine g_iload_n C 2 dX6_used_53 rfl ?_
  obtain ⟨q3, eq3, h⟩ := g_bd h
  have mo := oX6_used_b57 h
  refine g_callAiV C 183 [gi (A 187 x3.toNatClampNeg), gi x2] (hrec hch.2 eq3) qs_X6_132 (by omega) (by omega) rfl rfl rfl rfl (Nat.le_of_ble_eq_true rfl) ⟨mo.1, mo.2⟩ (And.intro ⟨by omega, by omega⟩ True.intro) (And.intro ⟨by omega, by omega⟩ True.intro) dX6_used_54 (fun ad1 ln1 hch1 => ?_)
  have hch := g_chg.trans (by omega) hch hch1
  refine g_sub [] rfl ?_
  exact wX6_used_b57 hN hrec C hr hch h

set_option maxHeartbeats 2000000 in
set_option maxRecDepth 20000 in
theorem oX6_used_b0 {N : Nat} {rec : Nat → gM → Int32 → Int32 → Option (gM × (Nat × Nat × Nat) × Int32)} {fu : Nat} {A' : gM} {u : Nat × Nat × Nat} {r : Int32}  {cp k n : Nat} {A : gM} {x1 : Int32} {x2 : Int32} (h : mX6_used_b0 N cp k n rec fu A x1 x2 = some (A', u, r)) : k ≤ u.2.1 ∧ n ≤ u.2.2 := by
  unfold mX6_used_b0 at h
  obtain ⟨q1, eq1, h⟩ := g_bd h
  obtain ⟨q2, eq2, h⟩ := g_bd h
  by_cases c3 : q2.2 = 0
  · have h := g_tt c3 h
    obtain ⟨rfl, h2⟩ := Prod.mk.inj (Option.some.inj h)
    obtain ⟨rfl, rfl⟩ := Prod.mk.inj h2
    exact ⟨Nat.le_refl _, Nat.le_refl _⟩
  · have h := g_ff c3 h
    obtain ⟨q4, eq4, h⟩ := g_bd h
    by_cases c5 : q4.2 = 0
    · have h := g_tt c5 h
      obtain ⟨hg6, h⟩ := g_gd h
      by_cases c7 : (q4.1 189 q1.2.toNatClampNeg) < x2
      · have h := g_tt c7 h
        obtain ⟨q8, eq8, h⟩ := g_bd h
        have mo := oX6_used_b82 h
        exact ⟨by omega, by omega⟩
      · have h := g_ff c7 h
        obtain ⟨hg9, h⟩ := g_gd h
        obtain ⟨rfl, h2⟩ := Prod.mk.inj (Option.some.inj h)
        obtain ⟨rfl, rfl⟩ := Prod.mk.inj h2
        exact ⟨Nat.le_refl _, Nat.le_refl _⟩
    · have h := g_ff c5 h
      obtain ⟨hg10, h⟩ := g_gd h
      obtain ⟨q11, eq11, h⟩ := g_bd h
      have mo := oX6_used_b35 h
      exact ⟨by omega, by omega⟩

set_option maxHeartbeats 2000000 in
set_option maxRecDepth 20000 in
theorem wX6_used_b0 (hN : 193 ≤ N)  {rec : Nat → gM → Int32 → Int32 → Option (gM × (Nat × Nat × Nat) × Int32)} {fu : Nat} (hrec : ∀ {ad ln : Nat → Nat} {cp : Nat} (_ : g_cap ln cp) {A A' : gM} {x1 : Int32} {x2 : Int32} {u : Nat × Nat × Nat} {r : Int32}, rec cp A x1 x2 = some (A', u, r) → gAi l yX6_used cX6_used 5 (some .int) (8 + 1 * fu) D g N ad ln A [gr 183, gi x1, gi x2] A' u r) {A0 A' : gM} {u : Nat × Nat × Nat} {r : Int32} (C : gC p (g_rmx (8 + 1 * fu + 1) u.2.1 u.2.2) s m args meth c cX6_used RX6 5 D g (va_A (gw g ad0 ln0 A0 N) s.heap.size) (8 + 1 * fu + 1)) (hr : meth.sig.returnType = some .int)  {cp k n : Nat} (hch : g_chg N ad0 ln0 ad ln cp) {A : gM} {x1 : Int32} {x2 : Int32} (h : mX6_used_b0 N cp k n rec fu A x1 x2 = some (A', u, r)) : gJ p l e (g_rmx (8 + 1 * fu + 1) u.2.1 u.2.2) s m args below meth c (gEAi below D g N ad0 ln0 A0 A' u r args s) 5 D g (va_A (gw g ad0 ln0 A0 N) s.heap.size) N ad ln A [(0, gr 183), (1, gi x1), (2, gi x2)] k n 0 [] := by
  have hkn := oX6_used_b0 h
  unfold mX6_used_b0 at h
  refine g_aload_n C 0 dX6_used_0 rfl ?_
  refine g_iload_n C 1 dX6_used_1 rfl ?_
  obtain ⟨q1, eq1, h⟩ := g_bd h
  refine g_calliV C 183 [gi x1] (kX6_now hN hch.2 eq1) qs_X6_89 (by omega) (by omega) rfl rfl rfl rfl (Nat.le_of_ble_eq_true rfl) hkn dX6_used_2 ?_
  refine g_istore_n C dX6_used_5 (by decide) rfl ?_
  refine g_aload_n C 1 dX6_used_6 rfl ?_
  refine g_iload_n C 0 dX6_used_7 rfl ?_
  obtain ⟨q2, eq2, h⟩ := g_bd h
  refine g_calliV C 183 [gi q1.2] (kX6_hasOwn hN hch.2 fu eq2) qs_X6_129 (by omega) (by omega) rfl rfl rfl rfl (Nat.le_of_ble_eq_true rfl) hkn dX6_used_8 ?_
  refine g_if_ne C dX6_used_11 (tgt := 16) (by decide) (fun c3 => ?_) (fun c3 => ?_)
  · have h := g_ff c3 h
    refine g_aload_n C 1 dX6_used_16 rfl ?_
    refine g_iload_n C 0 dX6_used_17 rfl ?_
    obtain ⟨q4, eq4, h⟩ := g_bd h
    refine g_calliV C 183 [gi q1.2] (kX6_isPair hN hch.2 eq4) qs_X6_92 (by omega) (by omega) rfl rfl rfl rfl (Nat.le_of_ble_eq_true rfl) hkn dX6_used_18 ?_
    refine g_if_eq C dX6_used_21 (tgt := 61) (by decide) (fun c5 => ?_) (fun c5 => ?_)
    · have h := g_tt c5 h
      refine g_aload_n C 1 dX6_used_61 rfl ?_
      refine g_get (v := gr 189) C 183 8 (by omega) rfl rfl gu_6 (by decide) qf_X6_26 rfl dX6_used_62 ?_
      refine g_iload_n C 0 dX6_used_65 rfl ?_
      obtain ⟨hg6, h⟩ := g_gd h
      refine g_iald C 189 (by omega) rfl (show g_ln ln 189 = cp from hch.2.2.2.2.2) hg6 dX6_used_66 ?_
      refine g_iload_n C 3 dX6_used_67 rfl ?_
      refine g_icmp_lt C dX6_used_68 (tgt := 78) (by decide) (fun c7 => ?_) (fun c7 => ?_)
      · have h := g_tt c7 h
        refine g_aload_n C 1 dX6_used_78 rfl ?_
        obtain ⟨q8, eq8, h⟩ := g_bd h
        have mo := oX6_used_b82 h
        refine g_callAiV C 183 [] (kX6_variable hN hch.2 eq8) qs_X6_135 (by omega) (by omega) rfl rfl rfl rfl (Nat.le_of_ble_eq_true rfl) ⟨mo.1, mo.2⟩ (And.intro ⟨by omega, by omega⟩ True.intro) True.intro dX6_used_79 (fun ad1 ln1 hch1 => ?_)
        have hch := g_chg.trans (by omega) hch hch1
        refine g_sub [1, 0] rfl ?_
        exact wX6_used_b82 hN hrec C hr hch h
      · have h := g_ff c7 h
        refine g_aload_n C 1 dX6_used_71 rfl ?_
        refine g_get (v := gr 189) C 183 8 (by omega) rfl rfl gu_6 (by decide) qf_X6_26 rfl dX6_used_72 ?_
        refine g_iload_n C 0 dX6_used_75 rfl ?_
        obtain ⟨hg9, h⟩ := g_gd h
        refine g_iald C 189 (by omega) rfl (show g_ln ln 189 = cp from hch.2.2.2.2.2) hg9 dX6_used_76 ?_
        obtain ⟨rfl, h2⟩ := Prod.mk.inj (Option.some.inj h)
        obtain ⟨rfl, rfl⟩ := Prod.mk.inj h2
        exact g_retAi C hch hr dX6_used_77
    · have h := g_ff c5 h
      refine g_aload_n C 1 dX6_used_24 rfl ?_
      refine g_aload_n C 1 dX6_used_25 rfl ?_
      refine g_get (v := gr 186) C 183 5 (by omega) rfl rfl gu_6 (by decide) qf_X6_16 rfl dX6_used_26 ?_
      refine g_iload_n C 0 dX6_used_29 rfl ?_
      obtain ⟨hg10, h⟩ := g_gd h
      refine g_iald C 186 (by omega) rfl (show g_ln ln 186 = cp from hch.2.2.1) hg10 dX6_used_30 ?_
      refine g_iload_n C 3 dX6_used_31 rfl ?_
      obtain ⟨q11, eq11, h⟩ := g_bd h
      have mo := oX6_used_b35 h
      refine g_callAiV C 183 [gi (q4.1 186 q1.2.toNatClampNeg), gi x2] (hrec hch.2 eq11) qs_X6_132 (by omega) (by omega) rfl rfl rfl rfl (Nat.le_of_ble_eq_true rfl) ⟨mo.1, mo.2⟩ (And.intro ⟨by omega, by omega⟩ True.intro) True.intro dX6_used_32 (fun ad1 ln1 hch1 => ?_)
      have hch := g_chg.trans (by omega) hch hch1
      refine g_sub [1, 3, 0] rfl ?_
      exact wX6_used_b35 hN hrec C hr hch h
  · have h := g_tt c3 h
    refine g_iload_n C 0 dX6_used_14 rfl ?_
    obtain ⟨rfl, h2⟩ := Prod.mk.inj (Option.some.inj h)
    obtain ⟨rfl, rfl⟩ := Prod.mk.inj h2
    exact g_retAi C hch hr dX6_used_15

set_option maxHeartbeats 2000000 in
set_option maxRecDepth 20000 in
theorem kX6_used_body {l : Launch} {D : va_G} {g : gT} {N : Nat} (hN : 193 ≤ N) {rec : Nat → gM → Int32 → Int32 → Option (gM × (Nat × Nat × Nat) × Int32)} {fu : Nat} (hrec : ∀ {ad ln : Nat → Nat} {cp : Nat} (_ : g_cap ln cp) {A A' : gM} {x1 : Int32} {x2 : Int32} {u : Nat × Nat × Nat} {r : Int32}, rec cp A x1 x2 = some (A', u, r) → gAi l yX6_used cX6_used 5 (some .int) (8 + 1 * fu) D g N ad ln A [gr 183, gi x1, gi x2] A' u r) {ad ln : Nat → Nat} {cp : Nat} (hcp : g_cap ln cp) {A A' : gM} {x1 : Int32} {x2 : Int32} {u : Nat × Nat × Nat} {r : Int32} (h : mX6_used_body N cp rec fu A x1 x2 = some (A', u, r)) : gAi l yX6_used cX6_used 5 (some .int) ((8 + 1 * fu + 1)) D g N ad ln A [gr 183, gi x1, gi x2] A' u r := by
  refine g_metAi (by decide) (Nat.le_of_ble_eq_true rfl) ?_
  intro p e s m args below meth c C hr
  refine g_sub [0, 1, 2] rfl ?_
  exact wX6_used_b0 hN hrec C hr (g_chg.rf hcp) h
set_option maxHeartbeats 2000000 in
set_option maxRecDepth 20000 in
theorem kX6_used {l : Launch} {D : va_G} {g : gT} {N : Nat} (hN : 193 ≤ N) : ∀ (f : Nat) {ad ln : Nat → Nat} {cp : Nat} (_ : g_cap ln cp) {A A' : gM} {x1 : Int32} {x2 : Int32} {u : Nat × Nat × Nat} {r : Int32}, mX6_used N f cp A x1 x2 = some (A', u, r) → gAi l yX6_used cX6_used 5 (some .int) (8 + 1 * f) D g N ad ln A [gr 183, gi x1, gi x2] A' u r
  | 0, ad, ln, cp, hcp, A, A', x1, x2, u, r, h => by cases h
  | f + 1, ad, ln, cp, hcp, A, A', x1, x2, u, r, h => kX6_used_body hN (fun {ad ln} {cp} hcp {A A'} {x1} {x2} {u} {r} h => kX6_used hN f hcp h) hcp h
def mX6_nameFound_b40 (N cp k n : Nat) (A : gM) (s0 : Int32) : Option (gM × (Nat × Nat × Nat) × Int32) :=
  some (A, (cp, k, n), s0)
def mX6_nameFound_b7 (N cp k n : Nat) (K7 : Nat → Nat → Nat → gM → Int32 → Int32 → Option (gM × (Nat × Nat × Nat) × Int32)) (A : gM) (x1 : Int32) (x2 : Int32) : Option (gM × (Nat × Nat × Nat) × Int32) :=
  if x2 < 0 then
  (mX6_failed cp A 1 x1).bind fun q2 =>
  some (q2.1, (cp, k, n), q2.2)
  else
  if g_in x2 61 = true then
  (mX6_pa cp A x1 4).bind fun q4 =>
  if (A 190 x2.toNatClampNeg) = q4.2 then
  if g_in x2 61 = true then
  (mX6_used N 1250 cp q4.1 (q4.1 191 x2.toNatClampNeg) (q4.1 183 3)).bind fun q8 =>
  mX6_nameFound_b40 N q8.2.1.1 (k + q8.2.1.2.1) (n + q8.2.1.2.2) q8.1 q8.2.2
  else none
  else
  g_let (x2 + (-1)) fun v6 =>
  K7 cp k n q4.1 x1 v6
  else none
def mX6_nameFound_L7 (N : Nat) : Nat → Nat → Nat → Nat → gM → Int32 → Int32 → Option (gM × (Nat × Nat × Nat) × Int32)
  | 0 => fun _ _ _ _ _ _ => none
  | f + 1 => fun cp k n => mX6_nameFound_b7 N cp k n (mX6_nameFound_L7 N f)
def mX6_nameFound_b0 (N cp k n : Nat) (A : gM) (x1 : Int32) : Option (gM × (Nat × Nat × Nat) × Int32) :=
  g_let ((A 183 9) - 1) fun v1 =>
  mX6_nameFound_L7 N gF cp k n A x1 v1
def mX6_nameFound (N cp : Nat) (A : gM) (x1 : Int32) : Option (gM × (Nat × Nat × Nat) × Int32) := mX6_nameFound_b0 N cp 0 0 A x1
set_option maxHeartbeats 2000000 in
set_option maxRecDepth 20000 in
theorem oX6_nameFound_b40 {N : Nat} {A' : gM} {u : Nat × Nat × Nat} {r : Int32}  {cp k n : Nat} {A : gM} {s0 : Int32} (h : mX6_nameFound_b40 N cp k n A s0 = some (A', u, r)) : k ≤ u.2.1 ∧ n ≤ u.2.2 := by
  unfold mX6_nameFound_b40 at h
  obtain ⟨rfl, h2⟩ := Prod.mk.inj (Option.some.inj h)
  obtain ⟨rfl, rfl⟩ := Prod.mk.inj h2
  exact ⟨Nat.le_refl _, Nat.le_refl _⟩

set_option maxHeartbeats 2000000 in
set_option maxRecDepth 20000 in
theorem wX6_nameFound_b40 (hN : 193 ≤ N)  {A0 A' : gM} {u : Nat × Nat × Nat} {r : Int32} (C : gC p (g_rmx 1259 u.2.1 u.2.2) s m args meth c cX6_nameFound RX6 3 D g (va_A (gw g ad0 ln0 A0 N) s.heap.size) 1259) (hr : meth.sig.returnType = some .int)  {cp k n : Nat} (hch : g_chg N ad0 ln0 ad ln cp) {A : gM} {s0 : Int32} (h : mX6_nameFound_b40 N cp k n A s0 = some (A', u, r)) : gJ p l e (g_rmx 1259 u.2.1 u.2.2) s m args below meth c (gEAi below D g N ad0 ln0 A0 A' u r args s) 3 D g (va_A (gw g ad0 ln0 A0 N) s.heap.size) N ad ln A [] k n 40 [gi s0] := by
  have hkn := oX6_nameFound_b40 h
  unfold mX6_nameFound_b40 at h
  obtain ⟨rfl, h2⟩ := Prod.mk.inj (Option.some.inj h)
  obtain ⟨rfl, rfl⟩ := Prod.mk.inj h2
  exact g_retAi C hch hr dX6_nameFound_40

set_option maxHeartbeats 2000000 in
set_option maxRecDepth 20000 in
theorem oX6_nameFound_b7 {N : Nat} {A' : gM} {u : Nat × Nat × Nat} {r : Int32} {K7 : Nat → Nat → Nat → gM → Int32 → Int32 → Option (gM × (Nat × Nat × Nat) × Int32)} (oK7 : ∀ {cp k n : Nat} {A : gM} {x1 : Int32} {x2 : Int32}, K7 cp k n A x1 x2 = some (A', u, r) → k ≤ u.2.1 ∧ n ≤ u.2.2) {cp k n : Nat} {A : gM} {x1 : Int32} {x2 : Int32} (h : mX6_nameFound_b7 N cp k n K7 A x1 x2 = some (A', u, r)) : k ≤ u.2.1 ∧ n ≤ u.2.2 := by
  unfold mX6_nameFound_b7 at h
  by_cases c1 : x2 < 0
  · have h := g_tt c1 h
    obtain ⟨q2, eq2, h⟩ := g_bd h
    obtain ⟨rfl, h2⟩ := Prod.mk.inj (Option.some.inj h)
    obtain ⟨rfl, rfl⟩ := Prod.mk.inj h2
    exact ⟨Nat.le_refl _, Nat.le_refl _⟩
  · have h := g_ff c1 h
    obtain ⟨hg3, h⟩ := g_gd h
    obtain ⟨q4, eq4, h⟩ := g_bd h
    by_cases c5 : (A 190 x2.toNatClampNeg) = q4.2
    · have h := g_tt c5 h
      obtain ⟨hg7, h⟩ := g_gd h
      obtain ⟨q8, eq8, h⟩ := g_bd h
      have mo := oX6_nameFound_b40 h
      exact ⟨by omega, by omega⟩
    · have h := g_ff c5 h
      obtain ⟨v6, ev6, h⟩ := g_lt h
      exact oK7 h

set_option maxHeartbeats 2000000 in
set_option maxRecDepth 20000 in
theorem wX6_nameFound_b7 (hN : 193 ≤ N)  {A0 A' : gM} {u : Nat × Nat × Nat} {r : Int32} (C : gC p (g_rmx 1259 u.2.1 u.2.2) s m args meth c cX6_nameFound RX6 3 D g (va_A (gw g ad0 ln0 A0 N) s.heap.size) 1259) (hr : meth.sig.returnType = some .int) {K7 : Nat → Nat → Nat → gM → Int32 → Int32 → Option (gM × (Nat × Nat × Nat) × Int32)} (hK7 : ∀ {ad ln : Nat → Nat} {cp k n : Nat} (_ : g_chg N ad0 ln0 ad ln cp) {A : gM} {x1 : Int32} {x2 : Int32}, K7 cp k n A x1 x2 = some (A', u, r) → gJ p l e (g_rmx 1259 u.2.1 u.2.2) s m args below meth c (gEAi below D g N ad0 ln0 A0 A' u r args s) 3 D g (va_A (gw g ad0 ln0 A0 N) s.heap.size) N ad ln A [(0, gr 183), (1, gi x1), (2, gi x2)] k n 7 []) (oK7 : ∀ {cp k n : Nat} {A : gM} {x1 : Int32} {x2 : Int32}, K7 cp k n A x1 x2 = some (A', u, r) → k ≤ u.2.1 ∧ n ≤ u.2.2) {cp k n : Nat} (hch : g_chg N ad0 ln0 ad ln cp) {A : gM} {x1 : Int32} {x2 : Int32} (h : mX6_nameFound_b7 N cp k n K7 A x1 x2 = some (A', u, r)) : gJ p l e (g_rmx 1259 u.2.1 u.2.2) s m args below meth c (gEAi below D g N ad0 ln0 A0 A' u r args s) 3 D g (va_A (gw g ad0 ln0 A0 N) s.heap.size) N ad ln A [(0, gr 183), (1, gi x1), (2, gi x2)] k n 7 [] := by
  have hkn := oX6_nameFound_b7 oK7 h
  unfold mX6_nameFound_b7 at h
  refine g_iload_n C 2 dX6_nameFound_7 rfl ?_
  refine g_if_lt C dX6_nameFound_8 (tgt := 47) (by decide) (fun c1 => ?_) (fun c1 => ?_)
  · have h := g_tt c1 h
    refine g_aload_n C 0 dX6_nameFound_47 rfl ?_
    refine g_iconst (v := 1) C dX6_nameFound_48 (by decide) ?_
    refine g_iload_n C 1 dX6_nameFound_49 rfl ?_
    obtain ⟨q2, eq2, h⟩ := g_bd h
    refine g_calliV C 183 [gi 1, gi x1] (kX6_failed hN hch.2 eq2) qs_X6_105 (by omega) (by omega) rfl rfl rfl rfl (Nat.le_of_ble_eq_true rfl) hkn dX6_nameFound_50 ?_
    obtain ⟨rfl, h2⟩ := Prod.mk.inj (Option.some.inj h)
    obtain ⟨rfl, rfl⟩ := Prod.mk.inj h2
    exact g_retAi C hch hr dX6_nameFound_53
  · have h := g_ff c1 h
    refine g_aload_n C 0 dX6_nameFound_11 rfl ?_
    refine g_get (v := gr 190) C 183 10 (by omega) rfl rfl gu_6 (by decide) qf_X6_29 rfl dX6_nameFound_12 ?_
    refine g_iload_n C 2 dX6_nameFound_15 rfl ?_
    obtain ⟨hg3, h⟩ := g_gd h
    refine g_iald C 190 (by omega) rfl rfl hg3 dX6_nameFound_16 ?_
    refine g_aload_n C 0 dX6_nameFound_17 rfl ?_
    refine g_iload_n C 1 dX6_nameFound_18 rfl ?_
    refine g_iconst (v := 4) C dX6_nameFound_19 (by decide) ?_
    obtain ⟨q4, eq4, h⟩ := g_bd h
    refine g_calliV C 183 [gi x1, gi 4] (kX6_pa hN hch.2 eq4) qs_X6_46 (by omega) (by omega) rfl rfl rfl rfl (Nat.le_of_ble_eq_true rfl) hkn dX6_nameFound_20 ?_
    refine g_icmp_ne C dX6_nameFound_23 (tgt := 41) (by decide) (fun c5 => ?_) (fun c5 => ?_)
    · have h := g_ff c5 h
      obtain ⟨v6, ev6, h⟩ := g_lt h
      refine g_iinc C 2 dX6_nameFound_41 rfl ev6 (by decide) rfl ?_
      refine g_goto C dX6_nameFound_44 (tgt := 7) (by decide) ?_
      refine g_sub [1, 2, 0] rfl ?_
      exact hK7 hch h
    · have h := g_tt c5 h
      refine g_aload_n C 0 dX6_nameFound_26 rfl ?_
      refine g_aload_n C 0 dX6_nameFound_27 rfl ?_
      refine g_get (v := gr 191) C 183 11 (by omega) rfl rfl gu_6 (by decide) qf_X6_32 rfl dX6_nameFound_28 ?_
      refine g_iload_n C 2 dX6_nameFound_31 rfl ?_
      obtain ⟨hg7, h⟩ := g_gd h
      refine g_iald C 191 (by omega) rfl rfl hg7 dX6_nameFound_32 ?_
      refine g_aload_n C 0 dX6_nameFound_33 rfl ?_
      refine g_get (v := gi (q4.1 183 3)) C 183 3 (by omega) rfl rfl gu_6 (by decide) qf_X6_78 rfl dX6_nameFound_34 ?_
      obtain ⟨q8, eq8, h⟩ := g_bd h
      have mo := oX6_nameFound_b40 h
      refine g_callAiV C 183 [gi (q4.1 191 x2.toNatClampNeg), gi (q4.1 183 3)] (kX6_used hN 1250 hch.2 eq8) qs_X6_132 (by omega) (by omega) rfl rfl rfl rfl (Nat.le_of_ble_eq_true rfl) ⟨mo.1, mo.2⟩ (And.intro ⟨by omega, by omega⟩ True.intro) True.intro dX6_nameFound_37 (fun ad1 ln1 hch1 => ?_)
      have hch := g_chg.trans (by omega) hch hch1
      refine g_sub [] rfl ?_
      exact wX6_nameFound_b40 hN C hr hch h

set_option maxHeartbeats 2000000 in
set_option maxRecDepth 20000 in
theorem oX6_nameFound_L7 {N : Nat} {A' : gM} {u : Nat × Nat × Nat} {r : Int32}  : ∀ (f : Nat) {cp k n : Nat} {A : gM} {x1 : Int32} {x2 : Int32}, mX6_nameFound_L7 N f cp k n A x1 x2 = some (A', u, r) → k ≤ u.2.1 ∧ n ≤ u.2.2
  | 0, _, _, _, A, x1, x2, h => by cases h
  | f + 1, cp, k, n, A, x1, x2, h => oX6_nameFound_b7 (K7 := mX6_nameFound_L7 N f) (fun h => oX6_nameFound_L7 f h) h
set_option maxHeartbeats 2000000 in
set_option maxRecDepth 20000 in
theorem wX6_nameFound_L7 (hN : 193 ≤ N)  {A0 A' : gM} {u : Nat × Nat × Nat} {r : Int32} (C : gC p (g_rmx 1259 u.2.1 u.2.2) s m args meth c cX6_nameFound RX6 3 D g (va_A (gw g ad0 ln0 A0 N) s.heap.size) 1259) (hr : meth.sig.returnType = some .int)  : ∀ (f : Nat) {ad ln : Nat → Nat} {cp k n : Nat} (_ : g_chg N ad0 ln0 ad ln cp) {A : gM} {x1 : Int32} {x2 : Int32}, mX6_nameFound_L7 N f cp k n A x1 x2 = some (A', u, r) → gJ p l e (g_rmx 1259 u.2.1 u.2.2) s m args below meth c (gEAi below D g N ad0 ln0 A0 A' u r args s) 3 D g (va_A (gw g ad0 ln0 A0 N) s.heap.size) N ad ln A [(0, gr 183), (1, gi x1), (2, gi x2)] k n 7 []
  | 0, ad, ln, cp, k, n, hch, A, x1, x2, h => by cases h
  | f + 1, ad, ln, cp, k, n, hch, A, x1, x2, h => wX6_nameFound_b7 (K7 := mX6_nameFound_L7 N f) hN C hr (fun {ad ln} {cp k n} hch {A} {x1} {x2} h => wX6_nameFound_L7 hN C hr f hch h) (fun h => oX6_nameFound_L7 f h) hch h
set_option maxHeartbeats 2000000 in
set_option maxRecDepth 20000 in
theorem oX6_nameFound_b0 {N : Nat} {A' : gM} {u : Nat × Nat × Nat} {r : Int32}  {cp k n : Nat} {A : gM} {x1 : Int32} (h : mX6_nameFound_b0 N cp k n A x1 = some (A', u, r)) : k ≤ u.2.1 ∧ n ≤ u.2.2 := by
  unfold mX6_nameFound_b0 at h
  obtain ⟨v1, ev1, h⟩ := g_lt h
  exact oX6_nameFound_L7 gF h

set_option maxHeartbeats 2000000 in
set_option maxRecDepth 20000 in
theorem wX6_nameFound_b0 (hN : 193 ≤ N)  {A0 A' : gM} {u : Nat × Nat × Nat} {r : Int32} (C : gC p (g_rmx 1259 u.2.1 u.2.2) s m args meth c cX6_nameFound RX6 3 D g (va_A (gw g ad0 ln0 A0 N) s.heap.size) 1259) (hr : meth.sig.returnType = some .int)  {cp k n : Nat} (hch : g_chg N ad0 ln0 ad ln cp) {A : gM} {x1 : Int32} (h : mX6_nameFound_b0 N cp k n A x1 = some (A', u, r)) : gJ p l e (g_rmx 1259 u.2.1 u.2.2) s m args below meth c (gEAi below D g N ad0 ln0 A0 A' u r args s) 3 D g (va_A (gw g ad0 ln0 A0 N) s.heap.size) N ad ln A [(0, gr 183), (1, gi x1)] k n 0 [] := by
  have hkn := oX6_nameFound_b0 h
  unfold mX6_nameFound_b0 at h
  refine g_aload_n C 0 dX6_nameFound_0 rfl ?_
  refine g_get (v := gi (A 183 9)) C 183 9 (by omega) rfl rfl gu_6 (by decide) qf_X6_119 rfl dX6_nameFound_1 ?_
  refine g_iconst (v := 1) C dX6_nameFound_4 (by decide) ?_
  refine g_isub C dX6_nameFound_5 ?_
  obtain ⟨v1, ev1, h⟩ := g_lt h
  refine g_topi ev1 ?_
  refine g_istore_n C dX6_nameFound_6 (by decide) rfl ?_
  refine g_sub [1, 2, 0] rfl ?_
  exact wX6_nameFound_L7 hN C hr gF hch h

set_option maxHeartbeats 2000000 in
set_option maxRecDepth 20000 in
theorem kX6_nameFound {l : Launch} {D : va_G} {g : gT} {N : Nat} (hN : 193 ≤ N) {ad ln : Nat → Nat} {cp : Nat} (hcp : g_cap ln cp) {A A' : gM} {x1 : Int32} {u : Nat × Nat × Nat} {r : Int32} (h : mX6_nameFound N cp A x1 = some (A', u, r)) : gAi l yX6_nameFound cX6_nameFound 3 (some .int) (1259) D g N ad ln A [gr 183, gi x1] A' u r := by
  refine g_metAi (by decide) (Nat.le_of_ble_eq_true rfl) ?_
  intro p e s m args below meth c C hr
  refine g_sub [0, 1] rfl ?_
  exact wX6_nameFound_b0 hN C hr (g_chg.rf hcp) h
end M3
end
