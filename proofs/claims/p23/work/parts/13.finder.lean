theorem qf_X0_12 : Cond.fieldLink RX0 12 (TX0 0).1 (TX0 0).2.1 (TX0 0).2.2.1 ∈ gtb := g_tb (List.mem_of_getElem? (i := 156) (by decide +kernel)) (by decide +kernel)
theorem qf_X0_21 : Cond.fieldLink RX0 21 (TX0 1).1 (TX0 1).2.1 (TX0 1).2.2.1 ∈ gtb := g_tb (List.mem_of_getElem? (i := 157) (by decide +kernel)) (by decide +kernel)
theorem qf_X0_25 : Cond.fieldLink RX0 25 (TX0 2).1 (TX0 2).2.1 (TX0 2).2.2.1 ∈ gtb := g_tb (List.mem_of_getElem? (i := 158) (by decide +kernel)) (by decide +kernel)
theorem qf_X0_33 : Cond.fieldLink RX0 33 (TX0 3).1 (TX0 3).2.1 (TX0 3).2.2.1 ∈ gtb := g_tb (List.mem_of_getElem? (i := 159) (by decide +kernel)) (by decide +kernel)
theorem qf_X0_37 : Cond.fieldLink RX0 37 (TX0 4).1 (TX0 4).2.1 (TX0 4).2.2.1 ∈ gtb := g_tb (List.mem_of_getElem? (i := 160) (by decide +kernel)) (by decide +kernel)
theorem qs_X0_101 : g_site RX0 RX0 101 yX0_findWheel cX0_findWheel 6 (some .int) 3 := ⟨g_tb (List.mem_of_getElem? (i := 365) (by decide +kernel)) (by decide +kernel), g_tb (List.mem_of_getElem? (i := 367) (by decide +kernel)) (by decide +kernel), g_tb (List.mem_of_getElem? (i := 10) (by decide +kernel)) (by decide +kernel), g_tb (List.mem_of_getElem? (i := 36) (by decide +kernel)) (by decide +kernel), g_tb (List.mem_of_getElem? (i := 368) (by decide +kernel)) (by decide +kernel), ⟨rfl, by decide, by decide, by decide +kernel⟩, by decide⟩
theorem qs_X0_104 : g_site RX0 RX0 104 yX0_findTurning cX0_findTurning 8 (some .int) 3 := ⟨g_tb (List.mem_of_getElem? (i := 386) (by decide +kernel)) (by decide +kernel), g_tb (List.mem_of_getElem? (i := 388) (by decide +kernel)) (by decide +kernel), g_tb (List.mem_of_getElem? (i := 11) (by decide +kernel)) (by decide +kernel), g_tb (List.mem_of_getElem? (i := 36) (by decide +kernel)) (by decide +kernel), g_tb (List.mem_of_getElem? (i := 389) (by decide +kernel)) (by decide +kernel), ⟨rfl, by decide, by decide, by decide +kernel⟩, by decide⟩
theorem qs_X0_107 : g_site RX0 RX0 107 yX0_findTelling cX0_findTelling 7 (some .int) 3 := ⟨g_tb (List.mem_of_getElem? (i := 415) (by decide +kernel)) (by decide +kernel), g_tb (List.mem_of_getElem? (i := 417) (by decide +kernel)) (by decide +kernel), g_tb (List.mem_of_getElem? (i := 15) (by decide +kernel)) (by decide +kernel), g_tb (List.mem_of_getElem? (i := 36) (by decide +kernel)) (by decide +kernel), g_tb (List.mem_of_getElem? (i := 418) (by decide +kernel)) (by decide +kernel), ⟨rfl, by decide, by decide, by decide +kernel⟩, by decide⟩
theorem qs_X0_110 : g_site RX0 RX0 110 yX0_findAxle cX0_findAxle 6 (some .int) 3 := ⟨g_tb (List.mem_of_getElem? (i := 440) (by decide +kernel)) (by decide +kernel), g_tb (List.mem_of_getElem? (i := 442) (by decide +kernel)) (by decide +kernel), g_tb (List.mem_of_getElem? (i := 18) (by decide +kernel)) (by decide +kernel), g_tb (List.mem_of_getElem? (i := 36) (by decide +kernel)) (by decide +kernel), g_tb (List.mem_of_getElem? (i := 443) (by decide +kernel)) (by decide +kernel), ⟨rfl, by decide, by decide, by decide +kernel⟩, by decide⟩
theorem qs_X0_113 : g_site RX0 RX0 113 yX0_findEnd cX0_findEnd 8 (some .int) 3 := ⟨g_tb (List.mem_of_getElem? (i := 444) (by decide +kernel)) (by decide +kernel), g_tb (List.mem_of_getElem? (i := 446) (by decide +kernel)) (by decide +kernel), g_tb (List.mem_of_getElem? (i := 19) (by decide +kernel)) (by decide +kernel), g_tb (List.mem_of_getElem? (i := 36) (by decide +kernel)) (by decide +kernel), g_tb (List.mem_of_getElem? (i := 447) (by decide +kernel)) (by decide +kernel), ⟨rfl, by decide, by decide, by decide +kernel⟩, by decide⟩
theorem qs_X0_116 : g_site RX0 RX0 116 yX0_findChoice cX0_findChoice 8 (some .int) 3 := ⟨g_tb (List.mem_of_getElem? (i := 448) (by decide +kernel)) (by decide +kernel), g_tb (List.mem_of_getElem? (i := 450) (by decide +kernel)) (by decide +kernel), g_tb (List.mem_of_getElem? (i := 20) (by decide +kernel)) (by decide +kernel), g_tb (List.mem_of_getElem? (i := 36) (by decide +kernel)) (by decide +kernel), g_tb (List.mem_of_getElem? (i := 451) (by decide +kernel)) (by decide +kernel), ⟨rfl, by decide, by decide, by decide +kernel⟩, by decide⟩
theorem qs_X0_119 : g_site RX0 RX1 119 yX1_latest cX1_latest 3 (some .int) 1 := ⟨g_tb (List.mem_of_getElem? (i := 329) (by decide +kernel)) (by decide +kernel), g_tb (List.mem_of_getElem? (i := 330) (by decide +kernel)) (by decide +kernel), g_tb (List.mem_of_getElem? (i := 331) (by decide +kernel)) (by decide +kernel), g_tb (List.mem_of_getElem? (i := 38) (by decide +kernel)) (by decide +kernel), g_tb (List.mem_of_getElem? (i := 332) (by decide +kernel)) (by decide +kernel), ⟨rfl, by decide, by decide, by decide +kernel⟩, by decide⟩
theorem qs_X0_123 : g_site RX0 RX1 123 yX1_rowAt cX1_rowAt 2 (some (.array .int)) 1 := ⟨g_tb (List.mem_of_getElem? (i := 336) (by decide +kernel)) (by decide +kernel), g_tb (List.mem_of_getElem? (i := 337) (by decide +kernel)) (by decide +kernel), g_tb (List.mem_of_getElem? (i := 338) (by decide +kernel)) (by decide +kernel), g_tb (List.mem_of_getElem? (i := 38) (by decide +kernel)) (by decide +kernel), g_tb (List.mem_of_getElem? (i := 339) (by decide +kernel)) (by decide +kernel), ⟨rfl, by decide, by decide, by decide +kernel⟩, by decide⟩
theorem qs_X0_127 : g_site RX0 RX1 127 yX1_lengthAt cX1_lengthAt 2 (some .int) 1 := ⟨g_tb (List.mem_of_getElem? (i := 340) (by decide +kernel)) (by decide +kernel), g_tb (List.mem_of_getElem? (i := 341) (by decide +kernel)) (by decide +kernel), g_tb (List.mem_of_getElem? (i := 342) (by decide +kernel)) (by decide +kernel), g_tb (List.mem_of_getElem? (i := 38) (by decide +kernel)) (by decide +kernel), g_tb (List.mem_of_getElem? (i := 343) (by decide +kernel)) (by decide +kernel), ⟨rfl, by decide, by decide, by decide +kernel⟩, by decide⟩
theorem qs_X0_130 : g_site RX0 RX4 130 yX4_codeOfNode cX4_codeOfNode 2 (some .int) 1 := ⟨g_tb (List.mem_of_getElem? (i := 373) (by decide +kernel)) (by decide +kernel), g_tb (List.mem_of_getElem? (i := 374) (by decide +kernel)) (by decide +kernel), g_tb (List.mem_of_getElem? (i := 375) (by decide +kernel)) (by decide +kernel), g_tb (List.mem_of_getElem? (i := 37) (by decide +kernel)) (by decide +kernel), g_tb (List.mem_of_getElem? (i := 376) (by decide +kernel)) (by decide +kernel), ⟨rfl, by decide, by decide, by decide +kernel⟩, by decide⟩
theorem qs_X0_133 : g_site RX0 RX1 133 yX1_put cX1_put 6 (none) 3 := ⟨g_tb (List.mem_of_getElem? (i := 377) (by decide +kernel)) (by decide +kernel), g_tb (List.mem_of_getElem? (i := 378) (by decide +kernel)) (by decide +kernel), g_tb (List.mem_of_getElem? (i := 379) (by decide +kernel)) (by decide +kernel), g_tb (List.mem_of_getElem? (i := 38) (by decide +kernel)) (by decide +kernel), g_tb (List.mem_of_getElem? (i := 380) (by decide +kernel)) (by decide +kernel), ⟨rfl, by decide, by decide, by decide +kernel⟩, by decide⟩
theorem qs_X0_136 : g_site RX0 RX1 136 yX1_dropLast cX1_dropLast 1 (none) 0 := ⟨g_tb (List.mem_of_getElem? (i := 381) (by decide +kernel)) (by decide +kernel), g_tb (List.mem_of_getElem? (i := 382) (by decide +kernel)) (by decide +kernel), g_tb (List.mem_of_getElem? (i := 383) (by decide +kernel)) (by decide +kernel), g_tb (List.mem_of_getElem? (i := 38) (by decide +kernel)) (by decide +kernel), g_tb (List.mem_of_getElem? (i := 384) (by decide +kernel)) (by decide +kernel), ⟨rfl, by decide, by decide, by decide +kernel⟩, by decide⟩
theorem qs_X0_139 : g_site RX0 RX1 139 yX1_markAll cX1_markAll 5 (none) 1 := ⟨g_tb (List.mem_of_getElem? (i := 419) (by decide +kernel)) (by decide +kernel), g_tb (List.mem_of_getElem? (i := 420) (by decide +kernel)) (by decide +kernel), g_tb (List.mem_of_getElem? (i := 421) (by decide +kernel)) (by decide +kernel), g_tb (List.mem_of_getElem? (i := 38) (by decide +kernel)) (by decide +kernel), g_tb (List.mem_of_getElem? (i := 422) (by decide +kernel)) (by decide +kernel), ⟨rfl, by decide, by decide, by decide +kernel⟩, by decide⟩
theorem qs_X0_29 : g_site RX0 RX4 29 yX4_clear cX4_clear 1 (none) 0 := ⟨g_tb (List.mem_of_getElem? (i := 304) (by decide +kernel)) (by decide +kernel), g_tb (List.mem_of_getElem? (i := 305) (by decide +kernel)) (by decide +kernel), g_tb (List.mem_of_getElem? (i := 306) (by decide +kernel)) (by decide +kernel), g_tb (List.mem_of_getElem? (i := 37) (by decide +kernel)) (by decide +kernel), g_tb (List.mem_of_getElem? (i := 307) (by decide +kernel)) (by decide +kernel), ⟨rfl, by decide, by decide, by decide +kernel⟩, by decide⟩
theorem qs_X0_32 : g_site RX0 RX1 32 yX1_clear cX1_clear 1 (none) 0 := ⟨g_tb (List.mem_of_getElem? (i := 312) (by decide +kernel)) (by decide +kernel), g_tb (List.mem_of_getElem? (i := 313) (by decide +kernel)) (by decide +kernel), g_tb (List.mem_of_getElem? (i := 314) (by decide +kernel)) (by decide +kernel), g_tb (List.mem_of_getElem? (i := 38) (by decide +kernel)) (by decide +kernel), g_tb (List.mem_of_getElem? (i := 315) (by decide +kernel)) (by decide +kernel), ⟨rfl, by decide, by decide, by decide +kernel⟩, by decide⟩
theorem qs_X0_40 : g_site RX0 RX0 40 yX0_find cX0_find 5 (some .int) 3 := ⟨g_tb (List.mem_of_getElem? (i := 316) (by decide +kernel)) (by decide +kernel), g_tb (List.mem_of_getElem? (i := 318) (by decide +kernel)) (by decide +kernel), g_tb (List.mem_of_getElem? (i := 5) (by decide +kernel)) (by decide +kernel), g_tb (List.mem_of_getElem? (i := 36) (by decide +kernel)) (by decide +kernel), g_tb (List.mem_of_getElem? (i := 319) (by decide +kernel)) (by decide +kernel), ⟨rfl, by decide, by decide, by decide +kernel⟩, by decide⟩
theorem qs_X0_44 : g_site RX0 RX3 44 yX3_putFault cX3_putFault 4 (none) 3 := ⟨g_tb (List.mem_of_getElem? (i := 456) (by decide +kernel)) (by decide +kernel), g_tb (List.mem_of_getElem? (i := 457) (by decide +kernel)) (by decide +kernel), g_tb (List.mem_of_getElem? (i := 458) (by decide +kernel)) (by decide +kernel), g_tb (List.mem_of_getElem? (i := 35) (by decide +kernel)) (by decide +kernel), g_tb (List.mem_of_getElem? (i := 459) (by decide +kernel)) (by decide +kernel), ⟨rfl, by decide, by decide, by decide +kernel⟩, by decide⟩
theorem qs_X0_50 : g_site RX0 RX4 50 yX4_forgetMarks cX4_forgetMarks 1 (none) 0 := ⟨g_tb (List.mem_of_getElem? (i := 481) (by decide +kernel)) (by decide +kernel), g_tb (List.mem_of_getElem? (i := 408) (by decide +kernel)) (by decide +kernel), g_tb (List.mem_of_getElem? (i := 409) (by decide +kernel)) (by decide +kernel), g_tb (List.mem_of_getElem? (i := 37) (by decide +kernel)) (by decide +kernel), g_tb (List.mem_of_getElem? (i := 410) (by decide +kernel)) (by decide +kernel), ⟨rfl, by decide, by decide, by decide +kernel⟩, by decide⟩
theorem qs_X0_53 : g_site RX0 RX4 53 yX4_write cX4_write 6 (some .int) 2 := ⟨g_tb (List.mem_of_getElem? (i := 427) (by decide +kernel)) (by decide +kernel), g_tb (List.mem_of_getElem? (i := 428) (by decide +kernel)) (by decide +kernel), g_tb (List.mem_of_getElem? (i := 429) (by decide +kernel)) (by decide +kernel), g_tb (List.mem_of_getElem? (i := 37) (by decide +kernel)) (by decide +kernel), g_tb (List.mem_of_getElem? (i := 430) (by decide +kernel)) (by decide +kernel), ⟨rfl, by decide, by decide, by decide +kernel⟩, by decide⟩
theorem qs_X0_57 : g_site RX0 RX3 57 yX3_putRow cX3_putRow 6 (none) 3 := ⟨g_tb (List.mem_of_getElem? (i := 482) (by decide +kernel)) (by decide +kernel), g_tb (List.mem_of_getElem? (i := 483) (by decide +kernel)) (by decide +kernel), g_tb (List.mem_of_getElem? (i := 484) (by decide +kernel)) (by decide +kernel), g_tb (List.mem_of_getElem? (i := 35) (by decide +kernel)) (by decide +kernel), g_tb (List.mem_of_getElem? (i := 485) (by decide +kernel)) (by decide +kernel), ⟨rfl, by decide, by decide, by decide +kernel⟩, by decide⟩
theorem qs_X0_61 : g_site RX0 RX0 61 yX0_buildRow cX0_buildRow 5 (some .int) 2 := ⟨g_tb (List.mem_of_getElem? (i := 597) (by decide +kernel)) (by decide +kernel), g_tb (List.mem_of_getElem? (i := 599) (by decide +kernel)) (by decide +kernel), g_tb (List.mem_of_getElem? (i := 31) (by decide +kernel)) (by decide +kernel), g_tb (List.mem_of_getElem? (i := 36) (by decide +kernel)) (by decide +kernel), g_tb (List.mem_of_getElem? (i := 600) (by decide +kernel)) (by decide +kernel), ⟨rfl, by decide, by decide, by decide +kernel⟩, by decide⟩
theorem qs_X0_65 : g_site RX0 RX4 65 yX4_newVariable cX4_newVariable 1 (some .int) 0 := ⟨g_tb (List.mem_of_getElem? (i := 369) (by decide +kernel)) (by decide +kernel), g_tb (List.mem_of_getElem? (i := 370) (by decide +kernel)) (by decide +kernel), g_tb (List.mem_of_getElem? (i := 371) (by decide +kernel)) (by decide +kernel), g_tb (List.mem_of_getElem? (i := 37) (by decide +kernel)) (by decide +kernel), g_tb (List.mem_of_getElem? (i := 372) (by decide +kernel)) (by decide +kernel), ⟨rfl, by decide, by decide, by decide +kernel⟩, by decide⟩
theorem qs_X0_69 : g_site RX0 RX4 69 yX4_make cX4_make 4 (some .int) 3 := ⟨g_tb (List.mem_of_getElem? (i := 385) (by decide +kernel)) (by decide +kernel), g_tb (List.mem_of_getElem? (i := 309) (by decide +kernel)) (by decide +kernel), g_tb (List.mem_of_getElem? (i := 310) (by decide +kernel)) (by decide +kernel), g_tb (List.mem_of_getElem? (i := 37) (by decide +kernel)) (by decide +kernel), g_tb (List.mem_of_getElem? (i := 311) (by decide +kernel)) (by decide +kernel), ⟨rfl, by decide, by decide, by decide +kernel⟩, by decide⟩
theorem qs_X0_73 : g_site RX0 RX4 73 yX4_match cX4_match 9 (some .int) 2 := ⟨g_tb (List.mem_of_getElem? (i := 390) (by decide +kernel)) (by decide +kernel), g_tb (List.mem_of_getElem? (i := 391) (by decide +kernel)) (by decide +kernel), g_tb (List.mem_of_getElem? (i := 392) (by decide +kernel)) (by decide +kernel), g_tb (List.mem_of_getElem? (i := 37) (by decide +kernel)) (by decide +kernel), g_tb (List.mem_of_getElem? (i := 393) (by decide +kernel)) (by decide +kernel), ⟨rfl, by decide, by decide, by decide +kernel⟩, by decide⟩
theorem qs_X0_77 : g_site RX0 RX0 77 yX0_isTooLong cX0_isTooLong 2 (some .boolean) 1 := ⟨g_tb (List.mem_of_getElem? (i := 452) (by decide +kernel)) (by decide +kernel), g_tb (List.mem_of_getElem? (i := 454) (by decide +kernel)) (by decide +kernel), g_tb (List.mem_of_getElem? (i := 21) (by decide +kernel)) (by decide +kernel), g_tb (List.mem_of_getElem? (i := 36) (by decide +kernel)) (by decide +kernel), g_tb (List.mem_of_getElem? (i := 455) (by decide +kernel)) (by decide +kernel), ⟨rfl, by decide, by decide, by decide +kernel⟩, by decide⟩
theorem qs_X0_81 : g_site RX0 RX3 81 yX3_fact cX3_fact 4 (some .int) 2 := ⟨g_tb (List.mem_of_getElem? (i := 601) (by decide +kernel)) (by decide +kernel), g_tb (List.mem_of_getElem? (i := 556) (by decide +kernel)) (by decide +kernel), g_tb (List.mem_of_getElem? (i := 557) (by decide +kernel)) (by decide +kernel), g_tb (List.mem_of_getElem? (i := 35) (by decide +kernel)) (by decide +kernel), g_tb (List.mem_of_getElem? (i := 558) (by decide +kernel)) (by decide +kernel), ⟨rfl, by decide, by decide, by decide +kernel⟩, by decide⟩
theorem qs_X0_84 : g_site RX0 RX3 84 yX3_codeAt cX3_codeAt 4 (some .int) 2 := ⟨g_tb (List.mem_of_getElem? (i := 602) (by decide +kernel)) (by decide +kernel), g_tb (List.mem_of_getElem? (i := 469) (by decide +kernel)) (by decide +kernel), g_tb (List.mem_of_getElem? (i := 470) (by decide +kernel)) (by decide +kernel), g_tb (List.mem_of_getElem? (i := 35) (by decide +kernel)) (by decide +kernel), g_tb (List.mem_of_getElem? (i := 471) (by decide +kernel)) (by decide +kernel), ⟨rfl, by decide, by decide, by decide +kernel⟩, by decide⟩
theorem qs_X0_87 : g_site RX0 RX4 87 yX4_build cX4_build 7 (some .int) 2 := ⟨g_tb (List.mem_of_getElem? (i := 344) (by decide +kernel)) (by decide +kernel), g_tb (List.mem_of_getElem? (i := 345) (by decide +kernel)) (by decide +kernel), g_tb (List.mem_of_getElem? (i := 346) (by decide +kernel)) (by decide +kernel), g_tb (List.mem_of_getElem? (i := 37) (by decide +kernel)) (by decide +kernel), g_tb (List.mem_of_getElem? (i := 347) (by decide +kernel)) (by decide +kernel), ⟨rfl, by decide, by decide, by decide +kernel⟩, by decide⟩
theorem qs_X0_91 : g_site RX0 RX0 91 yX0_fail cX0_fail 3 (some .int) 2 := ⟨g_tb (List.mem_of_getElem? (i := 320) (by decide +kernel)) (by decide +kernel), g_tb (List.mem_of_getElem? (i := 322) (by decide +kernel)) (by decide +kernel), g_tb (List.mem_of_getElem? (i := 6) (by decide +kernel)) (by decide +kernel), g_tb (List.mem_of_getElem? (i := 36) (by decide +kernel)) (by decide +kernel), g_tb (List.mem_of_getElem? (i := 323) (by decide +kernel)) (by decide +kernel), ⟨rfl, by decide, by decide, by decide +kernel⟩, by decide⟩
theorem qs_X0_94 : g_site RX0 RX2 94 yX2_fact cX2_fact 4 (some .int) 2 := ⟨g_tb (List.mem_of_getElem? (i := 324) (by decide +kernel)) (by decide +kernel), g_tb (List.mem_of_getElem? (i := 266) (by decide +kernel)) (by decide +kernel), g_tb (List.mem_of_getElem? (i := 267) (by decide +kernel)) (by decide +kernel), g_tb (List.mem_of_getElem? (i := 34) (by decide +kernel)) (by decide +kernel), g_tb (List.mem_of_getElem? (i := 268) (by decide +kernel)) (by decide +kernel), ⟨rfl, by decide, by decide, by decide +kernel⟩, by decide⟩
theorem qs_X0_97 : g_site RX0 RX0 97 yX0_findName cX0_findName 4 (some .int) 2 := ⟨g_tb (List.mem_of_getElem? (i := 325) (by decide +kernel)) (by decide +kernel), g_tb (List.mem_of_getElem? (i := 327) (by decide +kernel)) (by decide +kernel), g_tb (List.mem_of_getElem? (i := 7) (by decide +kernel)) (by decide +kernel), g_tb (List.mem_of_getElem? (i := 36) (by decide +kernel)) (by decide +kernel), g_tb (List.mem_of_getElem? (i := 328) (by decide +kernel)) (by decide +kernel), ⟨rfl, by decide, by decide, by decide +kernel⟩, by decide⟩
theorem gu_0 : ∀ w ∈ wsX00, w ∈ gtb := by decide +kernel
theorem dX0_fail_0 : decode cX0_fail 0 = .ok (.aload_n 0, 1) := by decide +kernel
theorem dX0_fail_1 : decode cX0_fail 1 = .ok (.iload_n 1, 1) := by decide +kernel
theorem dX0_fail_2 : decode cX0_fail 2 = .ok (.putfield 33, 3) := by decide +kernel
theorem dX0_fail_5 : decode cX0_fail 5 = .ok (.aload_n 0, 1) := by decide +kernel
theorem dX0_fail_6 : decode cX0_fail 6 = .ok (.iload_n 2, 1) := by decide +kernel
theorem dX0_fail_7 : decode cX0_fail 7 = .ok (.putfield 37, 3) := by decide +kernel
theorem dX0_fail_10 : decode cX0_fail 10 = .ok (.iconst (-1), 1) := by decide +kernel
theorem dX0_fail_11 : decode cX0_fail 11 = .ok (.ireturn, 1) := by decide +kernel
theorem dX0_isTooLong_0 : decode cX0_isTooLong 0 = .ok (.aload_n 0, 1) := by decide +kernel
theorem dX0_isTooLong_1 : decode cX0_isTooLong 1 = .ok (.getfield 12, 3) := by decide +kernel
theorem dX0_isTooLong_4 : decode cX0_isTooLong 4 = .ok (.iload_n 1, 1) := by decide +kernel
theorem dX0_isTooLong_5 : decode cX0_isTooLong 5 = .ok (.aload_n 0, 1) := by decide +kernel
theorem dX0_isTooLong_6 : decode cX0_isTooLong 6 = .ok (.getfield 25, 3) := by decide +kernel
theorem dX0_isTooLong_9 : decode cX0_isTooLong 9 = .ok (.invokevirtual 53, 3) := by decide +kernel
theorem dX0_isTooLong_12 : decode cX0_isTooLong 12 = .ok (.bipush 60, 2) := by decide +kernel
theorem dX0_isTooLong_14 : decode cX0_isTooLong 14 = .ok (.if_icmp .le 7, 3) := by decide +kernel
theorem dX0_isTooLong_17 : decode cX0_isTooLong 17 = .ok (.iconst 1, 1) := by decide +kernel
theorem dX0_isTooLong_18 : decode cX0_isTooLong 18 = .ok (.goto 4, 3) := by decide +kernel
theorem dX0_isTooLong_21 : decode cX0_isTooLong 21 = .ok (.iconst 0, 1) := by decide +kernel
theorem dX0_isTooLong_22 : decode cX0_isTooLong 22 = .ok (.ireturn, 1) := by decide +kernel
theorem dX0_findName_0 : decode cX0_findName 0 = .ok (.aload_n 0, 1) := by decide +kernel
theorem dX0_findName_1 : decode cX0_findName 1 = .ok (.getfield 21, 3) := by decide +kernel
theorem dX0_findName_4 : decode cX0_findName 4 = .ok (.aload_n 1, 1) := by decide +kernel
theorem dX0_findName_5 : decode cX0_findName 5 = .ok (.iload_n 2, 1) := by decide +kernel
theorem dX0_findName_6 : decode cX0_findName 6 = .ok (.iconst 4, 1) := by decide +kernel
theorem dX0_findName_7 : decode cX0_findName 7 = .ok (.invokevirtual 94, 3) := by decide +kernel
theorem dX0_findName_10 : decode cX0_findName 10 = .ok (.invokevirtual 119, 3) := by decide +kernel
theorem dX0_findName_13 : decode cX0_findName 13 = .ok (.istore_n 3, 1) := by decide +kernel
theorem dX0_findName_14 : decode cX0_findName 14 = .ok (.iload_n 3, 1) := by decide +kernel
theorem dX0_findName_15 : decode cX0_findName 15 = .ok (.iconst (-1), 1) := by decide +kernel
theorem dX0_findName_16 : decode cX0_findName 16 = .ok (.if_icmp .ne 10, 3) := by decide +kernel
theorem dX0_findName_19 : decode cX0_findName 19 = .ok (.aload_n 0, 1) := by decide +kernel
theorem dX0_findName_20 : decode cX0_findName 20 = .ok (.iconst 1, 1) := by decide +kernel
theorem dX0_findName_21 : decode cX0_findName 21 = .ok (.iload_n 2, 1) := by decide +kernel
theorem dX0_findName_22 : decode cX0_findName 22 = .ok (.invokevirtual 91, 3) := by decide +kernel
theorem dX0_findName_25 : decode cX0_findName 25 = .ok (.ireturn, 1) := by decide +kernel
theorem dX0_findName_26 : decode cX0_findName 26 = .ok (.aload_n 0, 1) := by decide +kernel
theorem dX0_findName_27 : decode cX0_findName 27 = .ok (.getfield 12, 3) := by decide +kernel
theorem dX0_findName_30 : decode cX0_findName 30 = .ok (.aload_n 0, 1) := by decide +kernel
theorem dX0_findName_31 : decode cX0_findName 31 = .ok (.getfield 21, 3) := by decide +kernel
theorem dX0_findName_34 : decode cX0_findName 34 = .ok (.iload_n 3, 1) := by decide +kernel
theorem dX0_findName_35 : decode cX0_findName 35 = .ok (.invokevirtual 123, 3) := by decide +kernel
theorem dX0_findName_38 : decode cX0_findName 38 = .ok (.aload_n 0, 1) := by decide +kernel
theorem dX0_findName_39 : decode cX0_findName 39 = .ok (.getfield 21, 3) := by decide +kernel
theorem dX0_findName_42 : decode cX0_findName 42 = .ok (.iload_n 3, 1) := by decide +kernel
theorem dX0_findName_43 : decode cX0_findName 43 = .ok (.invokevirtual 127, 3) := by decide +kernel
theorem dX0_findName_46 : decode cX0_findName 46 = .ok (.invokevirtual 87, 3) := by decide +kernel
theorem dX0_findName_49 : decode cX0_findName 49 = .ok (.ireturn, 1) := by decide +kernel
theorem dX0_buildRow_0 : decode cX0_buildRow 0 = .ok (.aload_n 1, 1) := by decide +kernel
theorem dX0_buildRow_1 : decode cX0_buildRow 1 = .ok (.iload_n 2, 1) := by decide +kernel
theorem dX0_buildRow_2 : decode cX0_buildRow 2 = .ok (.iconst 2, 1) := by decide +kernel
theorem dX0_buildRow_3 : decode cX0_buildRow 3 = .ok (.invokevirtual 81, 3) := by decide +kernel
theorem dX0_buildRow_6 : decode cX0_buildRow 6 = .ok (.istore_n 3, 1) := by decide +kernel
theorem dX0_buildRow_7 : decode cX0_buildRow 7 = .ok (.iconst 0, 1) := by decide +kernel
theorem dX0_buildRow_8 : decode cX0_buildRow 8 = .ok (.istore 4, 2) := by decide +kernel
theorem dX0_buildRow_10 : decode cX0_buildRow 10 = .ok (.iload 4, 2) := by decide +kernel
theorem dX0_buildRow_12 : decode cX0_buildRow 12 = .ok (.iload_n 3, 1) := by decide +kernel
theorem dX0_buildRow_13 : decode cX0_buildRow 13 = .ok (.if_icmp .ge 30, 3) := by decide +kernel
theorem dX0_buildRow_16 : decode cX0_buildRow 16 = .ok (.iload 4, 2) := by decide +kernel
theorem dX0_buildRow_18 : decode cX0_buildRow 18 = .ok (.bipush 60, 2) := by decide +kernel
theorem dX0_buildRow_20 : decode cX0_buildRow 20 = .ok (.if_icmp .ge 23, 3) := by decide +kernel
theorem dX0_buildRow_23 : decode cX0_buildRow 23 = .ok (.aload_n 0, 1) := by decide +kernel
theorem dX0_buildRow_24 : decode cX0_buildRow 24 = .ok (.getfield 25, 3) := by decide +kernel
theorem dX0_buildRow_27 : decode cX0_buildRow 27 = .ok (.iload 4, 2) := by decide +kernel
theorem dX0_buildRow_29 : decode cX0_buildRow 29 = .ok (.aload_n 1, 1) := by decide +kernel
theorem dX0_buildRow_30 : decode cX0_buildRow 30 = .ok (.iload_n 2, 1) := by decide +kernel
theorem dX0_buildRow_31 : decode cX0_buildRow 31 = .ok (.iload 4, 2) := by decide +kernel
theorem dX0_buildRow_33 : decode cX0_buildRow 33 = .ok (.invokevirtual 84, 3) := by decide +kernel
theorem dX0_buildRow_36 : decode cX0_buildRow 36 = .ok (.iastore, 1) := by decide +kernel
theorem dX0_buildRow_37 : decode cX0_buildRow 37 = .ok (.iinc 4 1, 3) := by decide +kernel
theorem dX0_buildRow_40 : decode cX0_buildRow 40 = .ok (.goto (-30), 3) := by decide +kernel
theorem dX0_buildRow_43 : decode cX0_buildRow 43 = .ok (.aload_n 0, 1) := by decide +kernel
theorem dX0_buildRow_44 : decode cX0_buildRow 44 = .ok (.getfield 12, 3) := by decide +kernel
theorem dX0_buildRow_47 : decode cX0_buildRow 47 = .ok (.aload_n 0, 1) := by decide +kernel
theorem dX0_buildRow_48 : decode cX0_buildRow 48 = .ok (.getfield 25, 3) := by decide +kernel
theorem dX0_buildRow_51 : decode cX0_buildRow 51 = .ok (.iload_n 3, 1) := by decide +kernel
theorem dX0_buildRow_52 : decode cX0_buildRow 52 = .ok (.invokevirtual 87, 3) := by decide +kernel
theorem dX0_buildRow_55 : decode cX0_buildRow 55 = .ok (.ireturn, 1) := by decide +kernel
theorem dX0_faultOfTurning_0 : decode cX0_faultOfTurning 0 = .ok (.aload_n 0, 1) := by decide +kernel
theorem dX0_faultOfTurning_1 : decode cX0_faultOfTurning 1 = .ok (.getfield 12, 3) := by decide +kernel
theorem dX0_faultOfTurning_4 : decode cX0_faultOfTurning 4 = .ok (.invokevirtual 29, 3) := by decide +kernel
theorem dX0_faultOfTurning_7 : decode cX0_faultOfTurning 7 = .ok (.aload_n 0, 1) := by decide +kernel
theorem dX0_faultOfTurning_8 : decode cX0_faultOfTurning 8 = .ok (.aload_n 1, 1) := by decide +kernel
theorem dX0_faultOfTurning_9 : decode cX0_faultOfTurning 9 = .ok (.iload_n 2, 1) := by decide +kernel
theorem dX0_faultOfTurning_10 : decode cX0_faultOfTurning 10 = .ok (.invokevirtual 61, 3) := by decide +kernel
theorem dX0_faultOfTurning_13 : decode cX0_faultOfTurning 13 = .ok (.istore 4, 2) := by decide +kernel
theorem dX0_faultOfTurning_15 : decode cX0_faultOfTurning 15 = .ok (.aload_n 0, 1) := by decide +kernel
theorem dX0_faultOfTurning_16 : decode cX0_faultOfTurning 16 = .ok (.aload_n 1, 1) := by decide +kernel
theorem dX0_faultOfTurning_17 : decode cX0_faultOfTurning 17 = .ok (.iload_n 3, 1) := by decide +kernel
theorem dX0_faultOfTurning_18 : decode cX0_faultOfTurning 18 = .ok (.invokevirtual 61, 3) := by decide +kernel
theorem dX0_faultOfTurning_21 : decode cX0_faultOfTurning 21 = .ok (.istore 5, 2) := by decide +kernel
theorem dX0_faultOfTurning_23 : decode cX0_faultOfTurning 23 = .ok (.aload_n 0, 1) := by decide +kernel
theorem dX0_faultOfTurning_24 : decode cX0_faultOfTurning 24 = .ok (.getfield 12, 3) := by decide +kernel
theorem dX0_faultOfTurning_27 : decode cX0_faultOfTurning 27 = .ok (.invokevirtual 65, 3) := by decide +kernel
theorem dX0_faultOfTurning_30 : decode cX0_faultOfTurning 30 = .ok (.istore 6, 2) := by decide +kernel
theorem dX0_faultOfTurning_32 : decode cX0_faultOfTurning 32 = .ok (.aload_n 0, 1) := by decide +kernel
theorem dX0_faultOfTurning_33 : decode cX0_faultOfTurning 33 = .ok (.getfield 12, 3) := by decide +kernel
theorem dX0_faultOfTurning_36 : decode cX0_faultOfTurning 36 = .ok (.iload 4, 2) := by decide +kernel
theorem dX0_faultOfTurning_38 : decode cX0_faultOfTurning 38 = .ok (.aload_n 0, 1) := by decide +kernel
theorem dX0_faultOfTurning_39 : decode cX0_faultOfTurning 39 = .ok (.getfield 12, 3) := by decide +kernel
theorem dX0_faultOfTurning_42 : decode cX0_faultOfTurning 42 = .ok (.iconst 2, 1) := by decide +kernel
theorem dX0_faultOfTurning_43 : decode cX0_faultOfTurning 43 = .ok (.iload 5, 2) := by decide +kernel
theorem dX0_faultOfTurning_45 : decode cX0_faultOfTurning 45 = .ok (.iload 6, 2) := by decide +kernel
theorem dX0_faultOfTurning_47 : decode cX0_faultOfTurning 47 = .ok (.invokevirtual 69, 3) := by decide +kernel
theorem dX0_faultOfTurning_50 : decode cX0_faultOfTurning 50 = .ok (.invokevirtual 73, 3) := by decide +kernel
theorem dX0_faultOfTurning_53 : decode cX0_faultOfTurning 53 = .ok (.istore 7, 2) := by decide +kernel
theorem dX0_faultOfTurning_55 : decode cX0_faultOfTurning 55 = .ok (.iload 7, 2) := by decide +kernel
theorem dX0_faultOfTurning_57 : decode cX0_faultOfTurning 57 = .ok (.ifCond .eq 6, 3) := by decide +kernel
theorem dX0_faultOfTurning_60 : decode cX0_faultOfTurning 60 = .ok (.iload 7, 2) := by decide +kernel
theorem dX0_faultOfTurning_62 : decode cX0_faultOfTurning 62 = .ok (.ireturn, 1) := by decide +kernel
theorem dX0_faultOfTurning_63 : decode cX0_faultOfTurning 63 = .ok (.aload_n 0, 1) := by decide +kernel
theorem dX0_faultOfTurning_64 : decode cX0_faultOfTurning 64 = .ok (.iload 6, 2) := by decide +kernel
theorem dX0_faultOfTurning_66 : decode cX0_faultOfTurning 66 = .ok (.invokevirtual 77, 3) := by decide +kernel
theorem dX0_faultOfTurning_69 : decode cX0_faultOfTurning 69 = .ok (.ifCond .eq 7, 3) := by decide +kernel
theorem dX0_faultOfTurning_72 : decode cX0_faultOfTurning 72 = .ok (.iconst 4, 1) := by decide +kernel
theorem dX0_faultOfTurning_73 : decode cX0_faultOfTurning 73 = .ok (.goto 4, 3) := by decide +kernel
theorem dX0_faultOfTurning_76 : decode cX0_faultOfTurning 76 = .ok (.iconst 0, 1) := by decide +kernel
theorem dX0_faultOfTurning_77 : decode cX0_faultOfTurning 77 = .ok (.ireturn, 1) := by decide +kernel
theorem dX0_findWheel_0 : decode cX0_findWheel 0 = .ok (.aload_n 0, 1) := by decide +kernel
theorem dX0_findWheel_1 : decode cX0_findWheel 1 = .ok (.getfield 12, 3) := by decide +kernel
theorem dX0_findWheel_4 : decode cX0_findWheel 4 = .ok (.invokevirtual 65, 3) := by decide +kernel
theorem dX0_findWheel_7 : decode cX0_findWheel 7 = .ok (.istore 4, 2) := by decide +kernel
theorem dX0_findWheel_9 : decode cX0_findWheel 9 = .ok (.aload_n 0, 1) := by decide +kernel
theorem dX0_findWheel_10 : decode cX0_findWheel 10 = .ok (.getfield 25, 3) := by decide +kernel
theorem dX0_findWheel_13 : decode cX0_findWheel 13 = .ok (.iconst 0, 1) := by decide +kernel
theorem dX0_findWheel_14 : decode cX0_findWheel 14 = .ok (.aload_n 0, 1) := by decide +kernel
theorem dX0_findWheel_15 : decode cX0_findWheel 15 = .ok (.getfield 12, 3) := by decide +kernel
theorem dX0_findWheel_18 : decode cX0_findWheel 18 = .ok (.iload 4, 2) := by decide +kernel
theorem dX0_findWheel_20 : decode cX0_findWheel 20 = .ok (.invokevirtual 130, 3) := by decide +kernel
theorem dX0_findWheel_23 : decode cX0_findWheel 23 = .ok (.iastore, 1) := by decide +kernel
theorem dX0_findWheel_24 : decode cX0_findWheel 24 = .ok (.aload_n 0, 1) := by decide +kernel
theorem dX0_findWheel_25 : decode cX0_findWheel 25 = .ok (.getfield 21, 3) := by decide +kernel
theorem dX0_findWheel_28 : decode cX0_findWheel 28 = .ok (.aload_n 1, 1) := by decide +kernel
theorem dX0_findWheel_29 : decode cX0_findWheel 29 = .ok (.iload_n 2, 1) := by decide +kernel
theorem dX0_findWheel_30 : decode cX0_findWheel 30 = .ok (.iconst 4, 1) := by decide +kernel
theorem dX0_findWheel_31 : decode cX0_findWheel 31 = .ok (.invokevirtual 94, 3) := by decide +kernel
theorem dX0_findWheel_34 : decode cX0_findWheel 34 = .ok (.aload_n 0, 1) := by decide +kernel
theorem dX0_findWheel_35 : decode cX0_findWheel 35 = .ok (.getfield 25, 3) := by decide +kernel
theorem dX0_findWheel_38 : decode cX0_findWheel 38 = .ok (.iconst 1, 1) := by decide +kernel
theorem dX0_findWheel_39 : decode cX0_findWheel 39 = .ok (.invokevirtual 133, 3) := by decide +kernel
theorem dX0_findWheel_42 : decode cX0_findWheel 42 = .ok (.aload_n 0, 1) := by decide +kernel
theorem dX0_findWheel_43 : decode cX0_findWheel 43 = .ok (.aload_n 1, 1) := by decide +kernel
theorem dX0_findWheel_44 : decode cX0_findWheel 44 = .ok (.aload_n 1, 1) := by decide +kernel
theorem dX0_findWheel_45 : decode cX0_findWheel 45 = .ok (.iload_n 2, 1) := by decide +kernel
theorem dX0_findWheel_46 : decode cX0_findWheel 46 = .ok (.iconst 1, 1) := by decide +kernel
theorem dX0_findWheel_47 : decode cX0_findWheel 47 = .ok (.invokevirtual 94, 3) := by decide +kernel
theorem dX0_findWheel_50 : decode cX0_findWheel 50 = .ok (.iload_n 3, 1) := by decide +kernel
theorem dX0_findWheel_51 : decode cX0_findWheel 51 = .ok (.iconst 1, 1) := by decide +kernel
theorem dX0_findWheel_52 : decode cX0_findWheel 52 = .ok (.iadd, 1) := by decide +kernel
theorem dX0_findWheel_53 : decode cX0_findWheel 53 = .ok (.invokevirtual 40, 3) := by decide +kernel
theorem dX0_findWheel_56 : decode cX0_findWheel 56 = .ok (.istore 5, 2) := by decide +kernel
theorem dX0_findWheel_58 : decode cX0_findWheel 58 = .ok (.aload_n 0, 1) := by decide +kernel
theorem dX0_findWheel_59 : decode cX0_findWheel 59 = .ok (.getfield 21, 3) := by decide +kernel
theorem dX0_findWheel_62 : decode cX0_findWheel 62 = .ok (.invokevirtual 136, 3) := by decide +kernel
theorem dX0_findWheel_65 : decode cX0_findWheel 65 = .ok (.iload 5, 2) := by decide +kernel
theorem dX0_findWheel_67 : decode cX0_findWheel 67 = .ok (.iconst (-1), 1) := by decide +kernel
theorem dX0_findWheel_68 : decode cX0_findWheel 68 = .ok (.if_icmp .ne 7, 3) := by decide +kernel
theorem dX0_findWheel_71 : decode cX0_findWheel 71 = .ok (.iconst (-1), 1) := by decide +kernel
theorem dX0_findWheel_72 : decode cX0_findWheel 72 = .ok (.goto 15, 3) := by decide +kernel
theorem dX0_findWheel_75 : decode cX0_findWheel 75 = .ok (.aload_n 0, 1) := by decide +kernel
theorem dX0_findWheel_76 : decode cX0_findWheel 76 = .ok (.getfield 12, 3) := by decide +kernel
theorem dX0_findWheel_79 : decode cX0_findWheel 79 = .ok (.iconst 2, 1) := by decide +kernel
theorem dX0_findWheel_80 : decode cX0_findWheel 80 = .ok (.iload 4, 2) := by decide +kernel
theorem dX0_findWheel_82 : decode cX0_findWheel 82 = .ok (.iload 5, 2) := by decide +kernel
theorem dX0_findWheel_84 : decode cX0_findWheel 84 = .ok (.invokevirtual 69, 3) := by decide +kernel
theorem dX0_findWheel_87 : decode cX0_findWheel 87 = .ok (.ireturn, 1) := by decide +kernel
theorem dX0_findTurning_0 : decode cX0_findTurning 0 = .ok (.aload_n 0, 1) := by decide +kernel
theorem dX0_findTurning_1 : decode cX0_findTurning 1 = .ok (.aload_n 1, 1) := by decide +kernel
theorem dX0_findTurning_2 : decode cX0_findTurning 2 = .ok (.aload_n 1, 1) := by decide +kernel
theorem dX0_findTurning_3 : decode cX0_findTurning 3 = .ok (.iload_n 2, 1) := by decide +kernel
theorem dX0_findTurning_4 : decode cX0_findTurning 4 = .ok (.iconst 1, 1) := by decide +kernel
theorem dX0_findTurning_5 : decode cX0_findTurning 5 = .ok (.invokevirtual 94, 3) := by decide +kernel
theorem dX0_findTurning_8 : decode cX0_findTurning 8 = .ok (.iload_n 3, 1) := by decide +kernel
theorem dX0_findTurning_9 : decode cX0_findTurning 9 = .ok (.iconst 1, 1) := by decide +kernel
theorem dX0_findTurning_10 : decode cX0_findTurning 10 = .ok (.iadd, 1) := by decide +kernel
theorem dX0_findTurning_11 : decode cX0_findTurning 11 = .ok (.invokevirtual 40, 3) := by decide +kernel
theorem dX0_findTurning_14 : decode cX0_findTurning 14 = .ok (.istore 4, 2) := by decide +kernel
theorem dX0_findTurning_16 : decode cX0_findTurning 16 = .ok (.iload 4, 2) := by decide +kernel
theorem dX0_findTurning_18 : decode cX0_findTurning 18 = .ok (.iconst (-1), 1) := by decide +kernel
theorem dX0_findTurning_19 : decode cX0_findTurning 19 = .ok (.if_icmp .ne 5, 3) := by decide +kernel
theorem dX0_findTurning_22 : decode cX0_findTurning 22 = .ok (.iconst (-1), 1) := by decide +kernel
theorem dX0_findTurning_23 : decode cX0_findTurning 23 = .ok (.ireturn, 1) := by decide +kernel
theorem dX0_findTurning_24 : decode cX0_findTurning 24 = .ok (.aload_n 0, 1) := by decide +kernel
theorem dX0_findTurning_25 : decode cX0_findTurning 25 = .ok (.aload_n 1, 1) := by decide +kernel
theorem dX0_findTurning_26 : decode cX0_findTurning 26 = .ok (.aload_n 1, 1) := by decide +kernel
theorem dX0_findTurning_27 : decode cX0_findTurning 27 = .ok (.iload_n 2, 1) := by decide +kernel
theorem dX0_findTurning_28 : decode cX0_findTurning 28 = .ok (.iconst 2, 1) := by decide +kernel
theorem dX0_findTurning_29 : decode cX0_findTurning 29 = .ok (.invokevirtual 94, 3) := by decide +kernel
theorem dX0_findTurning_32 : decode cX0_findTurning 32 = .ok (.iload_n 3, 1) := by decide +kernel
theorem dX0_findTurning_33 : decode cX0_findTurning 33 = .ok (.iconst 1, 1) := by decide +kernel
theorem dX0_findTurning_34 : decode cX0_findTurning 34 = .ok (.iadd, 1) := by decide +kernel
theorem dX0_findTurning_35 : decode cX0_findTurning 35 = .ok (.invokevirtual 40, 3) := by decide +kernel
theorem dX0_findTurning_38 : decode cX0_findTurning 38 = .ok (.istore 5, 2) := by decide +kernel
theorem dX0_findTurning_40 : decode cX0_findTurning 40 = .ok (.iload 5, 2) := by decide +kernel
theorem dX0_findTurning_42 : decode cX0_findTurning 42 = .ok (.iconst (-1), 1) := by decide +kernel
theorem dX0_findTurning_43 : decode cX0_findTurning 43 = .ok (.if_icmp .ne 5, 3) := by decide +kernel
theorem dX0_findTurning_46 : decode cX0_findTurning 46 = .ok (.iconst (-1), 1) := by decide +kernel
theorem dX0_findTurning_47 : decode cX0_findTurning 47 = .ok (.ireturn, 1) := by decide +kernel
theorem dX0_findTurning_48 : decode cX0_findTurning 48 = .ok (.aload_n 0, 1) := by decide +kernel
theorem dX0_findTurning_49 : decode cX0_findTurning 49 = .ok (.getfield 12, 3) := by decide +kernel
theorem dX0_findTurning_52 : decode cX0_findTurning 52 = .ok (.invokevirtual 65, 3) := by decide +kernel
theorem dX0_findTurning_55 : decode cX0_findTurning 55 = .ok (.istore 6, 2) := by decide +kernel
theorem dX0_findTurning_57 : decode cX0_findTurning 57 = .ok (.aload_n 0, 1) := by decide +kernel
theorem dX0_findTurning_58 : decode cX0_findTurning 58 = .ok (.getfield 12, 3) := by decide +kernel
theorem dX0_findTurning_61 : decode cX0_findTurning 61 = .ok (.iload 4, 2) := by decide +kernel
theorem dX0_findTurning_63 : decode cX0_findTurning 63 = .ok (.aload_n 0, 1) := by decide +kernel
theorem dX0_findTurning_64 : decode cX0_findTurning 64 = .ok (.getfield 12, 3) := by decide +kernel
theorem dX0_findTurning_67 : decode cX0_findTurning 67 = .ok (.iconst 2, 1) := by decide +kernel
theorem dX0_findTurning_68 : decode cX0_findTurning 68 = .ok (.iload 5, 2) := by decide +kernel
theorem dX0_findTurning_70 : decode cX0_findTurning 70 = .ok (.iload 6, 2) := by decide +kernel
theorem dX0_findTurning_72 : decode cX0_findTurning 72 = .ok (.invokevirtual 69, 3) := by decide +kernel
theorem dX0_findTurning_75 : decode cX0_findTurning 75 = .ok (.invokevirtual 73, 3) := by decide +kernel
theorem dX0_findTurning_78 : decode cX0_findTurning 78 = .ok (.istore 7, 2) := by decide +kernel
theorem dX0_findTurning_80 : decode cX0_findTurning 80 = .ok (.iload 7, 2) := by decide +kernel
theorem dX0_findTurning_82 : decode cX0_findTurning 82 = .ok (.ifCond .ne 8, 3) := by decide +kernel
theorem dX0_findTurning_85 : decode cX0_findTurning 85 = .ok (.iload 6, 2) := by decide +kernel
theorem dX0_findTurning_87 : decode cX0_findTurning 87 = .ok (.goto 10, 3) := by decide +kernel
theorem dX0_findTurning_90 : decode cX0_findTurning 90 = .ok (.aload_n 0, 1) := by decide +kernel
theorem dX0_findTurning_91 : decode cX0_findTurning 91 = .ok (.iload 7, 2) := by decide +kernel
theorem dX0_findTurning_93 : decode cX0_findTurning 93 = .ok (.iload_n 2, 1) := by decide +kernel
theorem dX0_findTurning_94 : decode cX0_findTurning 94 = .ok (.invokevirtual 91, 3) := by decide +kernel
theorem dX0_findTurning_97 : decode cX0_findTurning 97 = .ok (.ireturn, 1) := by decide +kernel
theorem dX0_findTelling_0 : decode cX0_findTelling 0 = .ok (.aload_n 0, 1) := by decide +kernel
theorem dX0_findTelling_1 : decode cX0_findTelling 1 = .ok (.aload_n 1, 1) := by decide +kernel
theorem dX0_findTelling_2 : decode cX0_findTelling 2 = .ok (.aload_n 1, 1) := by decide +kernel
theorem dX0_findTelling_3 : decode cX0_findTelling 3 = .ok (.iload_n 2, 1) := by decide +kernel
theorem dX0_findTelling_4 : decode cX0_findTelling 4 = .ok (.iconst 1, 1) := by decide +kernel
theorem dX0_findTelling_5 : decode cX0_findTelling 5 = .ok (.invokevirtual 94, 3) := by decide +kernel
theorem dX0_findTelling_8 : decode cX0_findTelling 8 = .ok (.iload_n 3, 1) := by decide +kernel
theorem dX0_findTelling_9 : decode cX0_findTelling 9 = .ok (.iconst 1, 1) := by decide +kernel
theorem dX0_findTelling_10 : decode cX0_findTelling 10 = .ok (.iadd, 1) := by decide +kernel
theorem dX0_findTelling_11 : decode cX0_findTelling 11 = .ok (.invokevirtual 40, 3) := by decide +kernel
theorem dX0_findTelling_14 : decode cX0_findTelling 14 = .ok (.istore 4, 2) := by decide +kernel
theorem dX0_findTelling_16 : decode cX0_findTelling 16 = .ok (.iload 4, 2) := by decide +kernel
theorem dX0_findTelling_18 : decode cX0_findTelling 18 = .ok (.iconst (-1), 1) := by decide +kernel
theorem dX0_findTelling_19 : decode cX0_findTelling 19 = .ok (.if_icmp .ne 5, 3) := by decide +kernel
theorem dX0_findTelling_22 : decode cX0_findTelling 22 = .ok (.iconst (-1), 1) := by decide +kernel
theorem dX0_findTelling_23 : decode cX0_findTelling 23 = .ok (.ireturn, 1) := by decide +kernel
theorem dX0_findTelling_24 : decode cX0_findTelling 24 = .ok (.aload_n 0, 1) := by decide +kernel
theorem dX0_findTelling_25 : decode cX0_findTelling 25 = .ok (.getfield 21, 3) := by decide +kernel
theorem dX0_findTelling_28 : decode cX0_findTelling 28 = .ok (.aload_n 0, 1) := by decide +kernel
theorem dX0_findTelling_29 : decode cX0_findTelling 29 = .ok (.getfield 12, 3) := by decide +kernel
theorem dX0_findTelling_32 : decode cX0_findTelling 32 = .ok (.invokevirtual 139, 3) := by decide +kernel
theorem dX0_findTelling_35 : decode cX0_findTelling 35 = .ok (.aload_n 0, 1) := by decide +kernel
theorem dX0_findTelling_36 : decode cX0_findTelling 36 = .ok (.getfield 12, 3) := by decide +kernel
theorem dX0_findTelling_39 : decode cX0_findTelling 39 = .ok (.iload 4, 2) := by decide +kernel
theorem dX0_findTelling_41 : decode cX0_findTelling 41 = .ok (.aload_n 0, 1) := by decide +kernel
theorem dX0_findTelling_42 : decode cX0_findTelling 42 = .ok (.getfield 25, 3) := by decide +kernel
theorem dX0_findTelling_45 : decode cX0_findTelling 45 = .ok (.invokevirtual 53, 3) := by decide +kernel
theorem dX0_findTelling_48 : decode cX0_findTelling 48 = .ok (.istore 5, 2) := by decide +kernel
theorem dX0_findTelling_50 : decode cX0_findTelling 50 = .ok (.aload_n 0, 1) := by decide +kernel
theorem dX0_findTelling_51 : decode cX0_findTelling 51 = .ok (.getfield 21, 3) := by decide +kernel
theorem dX0_findTelling_54 : decode cX0_findTelling 54 = .ok (.aload_n 1, 1) := by decide +kernel
theorem dX0_findTelling_55 : decode cX0_findTelling 55 = .ok (.iload_n 2, 1) := by decide +kernel
theorem dX0_findTelling_56 : decode cX0_findTelling 56 = .ok (.iconst 4, 1) := by decide +kernel
theorem dX0_findTelling_57 : decode cX0_findTelling 57 = .ok (.invokevirtual 94, 3) := by decide +kernel
theorem dX0_findTelling_60 : decode cX0_findTelling 60 = .ok (.aload_n 0, 1) := by decide +kernel
theorem dX0_findTelling_61 : decode cX0_findTelling 61 = .ok (.getfield 25, 3) := by decide +kernel
theorem dX0_findTelling_64 : decode cX0_findTelling 64 = .ok (.iload 5, 2) := by decide +kernel
theorem dX0_findTelling_66 : decode cX0_findTelling 66 = .ok (.invokevirtual 133, 3) := by decide +kernel
theorem dX0_findTelling_69 : decode cX0_findTelling 69 = .ok (.aload_n 0, 1) := by decide +kernel
theorem dX0_findTelling_70 : decode cX0_findTelling 70 = .ok (.aload_n 1, 1) := by decide +kernel
theorem dX0_findTelling_71 : decode cX0_findTelling 71 = .ok (.aload_n 1, 1) := by decide +kernel
theorem dX0_findTelling_72 : decode cX0_findTelling 72 = .ok (.iload_n 2, 1) := by decide +kernel
theorem dX0_findTelling_73 : decode cX0_findTelling 73 = .ok (.iconst 2, 1) := by decide +kernel
theorem dX0_findTelling_74 : decode cX0_findTelling 74 = .ok (.invokevirtual 94, 3) := by decide +kernel
theorem dX0_findTelling_77 : decode cX0_findTelling 77 = .ok (.iload_n 3, 1) := by decide +kernel
theorem dX0_findTelling_78 : decode cX0_findTelling 78 = .ok (.iconst 1, 1) := by decide +kernel
theorem dX0_findTelling_79 : decode cX0_findTelling 79 = .ok (.iadd, 1) := by decide +kernel
theorem dX0_findTelling_80 : decode cX0_findTelling 80 = .ok (.invokevirtual 40, 3) := by decide +kernel
theorem dX0_findTelling_83 : decode cX0_findTelling 83 = .ok (.istore 6, 2) := by decide +kernel
theorem dX0_findTelling_85 : decode cX0_findTelling 85 = .ok (.aload_n 0, 1) := by decide +kernel
theorem dX0_findTelling_86 : decode cX0_findTelling 86 = .ok (.getfield 21, 3) := by decide +kernel
theorem dX0_findTelling_89 : decode cX0_findTelling 89 = .ok (.invokevirtual 136, 3) := by decide +kernel
theorem dX0_findTelling_92 : decode cX0_findTelling 92 = .ok (.iload 6, 2) := by decide +kernel
theorem dX0_findTelling_94 : decode cX0_findTelling 94 = .ok (.ireturn, 1) := by decide +kernel
theorem dX0_findAxle_0 : decode cX0_findAxle 0 = .ok (.aload_n 0, 1) := by decide +kernel
theorem dX0_findAxle_1 : decode cX0_findAxle 1 = .ok (.aload_n 1, 1) := by decide +kernel
theorem dX0_findAxle_2 : decode cX0_findAxle 2 = .ok (.aload_n 1, 1) := by decide +kernel
theorem dX0_findAxle_3 : decode cX0_findAxle 3 = .ok (.iload_n 2, 1) := by decide +kernel
theorem dX0_findAxle_4 : decode cX0_findAxle 4 = .ok (.iconst 1, 1) := by decide +kernel
theorem dX0_findAxle_5 : decode cX0_findAxle 5 = .ok (.invokevirtual 94, 3) := by decide +kernel
theorem dX0_findAxle_8 : decode cX0_findAxle 8 = .ok (.iload_n 3, 1) := by decide +kernel
theorem dX0_findAxle_9 : decode cX0_findAxle 9 = .ok (.iconst 1, 1) := by decide +kernel
theorem dX0_findAxle_10 : decode cX0_findAxle 10 = .ok (.iadd, 1) := by decide +kernel
theorem dX0_findAxle_11 : decode cX0_findAxle 11 = .ok (.invokevirtual 40, 3) := by decide +kernel
theorem dX0_findAxle_14 : decode cX0_findAxle 14 = .ok (.istore 4, 2) := by decide +kernel
theorem dX0_findAxle_16 : decode cX0_findAxle 16 = .ok (.iload 4, 2) := by decide +kernel
theorem dX0_findAxle_18 : decode cX0_findAxle 18 = .ok (.iconst (-1), 1) := by decide +kernel
theorem dX0_findAxle_19 : decode cX0_findAxle 19 = .ok (.if_icmp .ne 5, 3) := by decide +kernel
theorem dX0_findAxle_22 : decode cX0_findAxle 22 = .ok (.iconst (-1), 1) := by decide +kernel
theorem dX0_findAxle_23 : decode cX0_findAxle 23 = .ok (.ireturn, 1) := by decide +kernel
theorem dX0_findAxle_24 : decode cX0_findAxle 24 = .ok (.aload_n 0, 1) := by decide +kernel
theorem dX0_findAxle_25 : decode cX0_findAxle 25 = .ok (.aload_n 1, 1) := by decide +kernel
theorem dX0_findAxle_26 : decode cX0_findAxle 26 = .ok (.aload_n 1, 1) := by decide +kernel
theorem dX0_findAxle_27 : decode cX0_findAxle 27 = .ok (.iload_n 2, 1) := by decide +kernel
theorem dX0_findAxle_28 : decode cX0_findAxle 28 = .ok (.iconst 2, 1) := by decide +kernel
theorem dX0_findAxle_29 : decode cX0_findAxle 29 = .ok (.invokevirtual 94, 3) := by decide +kernel
theorem dX0_findAxle_32 : decode cX0_findAxle 32 = .ok (.iload_n 3, 1) := by decide +kernel
theorem dX0_findAxle_33 : decode cX0_findAxle 33 = .ok (.iconst 1, 1) := by decide +kernel
theorem dX0_findAxle_34 : decode cX0_findAxle 34 = .ok (.iadd, 1) := by decide +kernel
theorem dX0_findAxle_35 : decode cX0_findAxle 35 = .ok (.invokevirtual 40, 3) := by decide +kernel
theorem dX0_findAxle_38 : decode cX0_findAxle 38 = .ok (.istore 5, 2) := by decide +kernel
theorem dX0_findAxle_40 : decode cX0_findAxle 40 = .ok (.iload 5, 2) := by decide +kernel
theorem dX0_findAxle_42 : decode cX0_findAxle 42 = .ok (.iconst (-1), 1) := by decide +kernel
theorem dX0_findAxle_43 : decode cX0_findAxle 43 = .ok (.if_icmp .ne 7, 3) := by decide +kernel
theorem dX0_findAxle_46 : decode cX0_findAxle 46 = .ok (.iconst (-1), 1) := by decide +kernel
theorem dX0_findAxle_47 : decode cX0_findAxle 47 = .ok (.goto 15, 3) := by decide +kernel
theorem dX0_findAxle_50 : decode cX0_findAxle 50 = .ok (.aload_n 0, 1) := by decide +kernel
theorem dX0_findAxle_51 : decode cX0_findAxle 51 = .ok (.getfield 12, 3) := by decide +kernel
theorem dX0_findAxle_54 : decode cX0_findAxle 54 = .ok (.iconst 3, 1) := by decide +kernel
theorem dX0_findAxle_55 : decode cX0_findAxle 55 = .ok (.iload 4, 2) := by decide +kernel
theorem dX0_findAxle_57 : decode cX0_findAxle 57 = .ok (.iload 5, 2) := by decide +kernel
theorem dX0_findAxle_59 : decode cX0_findAxle 59 = .ok (.invokevirtual 69, 3) := by decide +kernel
theorem dX0_findAxle_62 : decode cX0_findAxle 62 = .ok (.ireturn, 1) := by decide +kernel
theorem dX0_findEnd_0 : decode cX0_findEnd 0 = .ok (.aload_n 0, 1) := by decide +kernel
theorem dX0_findEnd_1 : decode cX0_findEnd 1 = .ok (.aload_n 1, 1) := by decide +kernel
theorem dX0_findEnd_2 : decode cX0_findEnd 2 = .ok (.aload_n 1, 1) := by decide +kernel
theorem dX0_findEnd_3 : decode cX0_findEnd 3 = .ok (.iload_n 2, 1) := by decide +kernel
theorem dX0_findEnd_4 : decode cX0_findEnd 4 = .ok (.iconst 1, 1) := by decide +kernel
theorem dX0_findEnd_5 : decode cX0_findEnd 5 = .ok (.invokevirtual 94, 3) := by decide +kernel
theorem dX0_findEnd_8 : decode cX0_findEnd 8 = .ok (.iload_n 3, 1) := by decide +kernel
theorem dX0_findEnd_9 : decode cX0_findEnd 9 = .ok (.iconst 1, 1) := by decide +kernel
theorem dX0_findEnd_10 : decode cX0_findEnd 10 = .ok (.iadd, 1) := by decide +kernel
theorem dX0_findEnd_11 : decode cX0_findEnd 11 = .ok (.invokevirtual 40, 3) := by decide +kernel
theorem dX0_findEnd_14 : decode cX0_findEnd 14 = .ok (.istore 4, 2) := by decide +kernel
theorem dX0_findEnd_16 : decode cX0_findEnd 16 = .ok (.iload 4, 2) := by decide +kernel
theorem dX0_findEnd_18 : decode cX0_findEnd 18 = .ok (.iconst (-1), 1) := by decide +kernel
theorem dX0_findEnd_19 : decode cX0_findEnd 19 = .ok (.if_icmp .ne 5, 3) := by decide +kernel
theorem dX0_findEnd_22 : decode cX0_findEnd 22 = .ok (.iconst (-1), 1) := by decide +kernel
theorem dX0_findEnd_23 : decode cX0_findEnd 23 = .ok (.ireturn, 1) := by decide +kernel
theorem dX0_findEnd_24 : decode cX0_findEnd 24 = .ok (.aload_n 0, 1) := by decide +kernel
theorem dX0_findEnd_25 : decode cX0_findEnd 25 = .ok (.getfield 12, 3) := by decide +kernel
theorem dX0_findEnd_28 : decode cX0_findEnd 28 = .ok (.invokevirtual 65, 3) := by decide +kernel
theorem dX0_findEnd_31 : decode cX0_findEnd 31 = .ok (.istore 5, 2) := by decide +kernel
theorem dX0_findEnd_33 : decode cX0_findEnd 33 = .ok (.aload_n 0, 1) := by decide +kernel
theorem dX0_findEnd_34 : decode cX0_findEnd 34 = .ok (.getfield 12, 3) := by decide +kernel
theorem dX0_findEnd_37 : decode cX0_findEnd 37 = .ok (.invokevirtual 65, 3) := by decide +kernel
theorem dX0_findEnd_40 : decode cX0_findEnd 40 = .ok (.istore 6, 2) := by decide +kernel
theorem dX0_findEnd_42 : decode cX0_findEnd 42 = .ok (.aload_n 0, 1) := by decide +kernel
theorem dX0_findEnd_43 : decode cX0_findEnd 43 = .ok (.getfield 12, 3) := by decide +kernel
theorem dX0_findEnd_46 : decode cX0_findEnd 46 = .ok (.iload 4, 2) := by decide +kernel
theorem dX0_findEnd_48 : decode cX0_findEnd 48 = .ok (.aload_n 0, 1) := by decide +kernel
theorem dX0_findEnd_49 : decode cX0_findEnd 49 = .ok (.getfield 12, 3) := by decide +kernel
theorem dX0_findEnd_52 : decode cX0_findEnd 52 = .ok (.iconst 3, 1) := by decide +kernel
theorem dX0_findEnd_53 : decode cX0_findEnd 53 = .ok (.iload 5, 2) := by decide +kernel
theorem dX0_findEnd_55 : decode cX0_findEnd 55 = .ok (.iload 6, 2) := by decide +kernel
theorem dX0_findEnd_57 : decode cX0_findEnd 57 = .ok (.invokevirtual 69, 3) := by decide +kernel
theorem dX0_findEnd_60 : decode cX0_findEnd 60 = .ok (.invokevirtual 73, 3) := by decide +kernel
theorem dX0_findEnd_63 : decode cX0_findEnd 63 = .ok (.istore 7, 2) := by decide +kernel
theorem dX0_findEnd_65 : decode cX0_findEnd 65 = .ok (.iload 7, 2) := by decide +kernel
theorem dX0_findEnd_67 : decode cX0_findEnd 67 = .ok (.ifCond .eq 11, 3) := by decide +kernel
theorem dX0_findEnd_70 : decode cX0_findEnd 70 = .ok (.aload_n 0, 1) := by decide +kernel
theorem dX0_findEnd_71 : decode cX0_findEnd 71 = .ok (.iload 7, 2) := by decide +kernel
theorem dX0_findEnd_73 : decode cX0_findEnd 73 = .ok (.iload_n 2, 1) := by decide +kernel
theorem dX0_findEnd_74 : decode cX0_findEnd 74 = .ok (.invokevirtual 91, 3) := by decide +kernel
theorem dX0_findEnd_77 : decode cX0_findEnd 77 = .ok (.ireturn, 1) := by decide +kernel
theorem dX0_findEnd_78 : decode cX0_findEnd 78 = .ok (.aload_n 1, 1) := by decide +kernel
theorem dX0_findEnd_79 : decode cX0_findEnd 79 = .ok (.iload_n 2, 1) := by decide +kernel
theorem dX0_findEnd_80 : decode cX0_findEnd 80 = .ok (.iconst 4, 1) := by decide +kernel
theorem dX0_findEnd_81 : decode cX0_findEnd 81 = .ok (.invokevirtual 94, 3) := by decide +kernel
theorem dX0_findEnd_84 : decode cX0_findEnd 84 = .ok (.ifCond .ne 8, 3) := by decide +kernel
theorem dX0_findEnd_87 : decode cX0_findEnd 87 = .ok (.iload 5, 2) := by decide +kernel
theorem dX0_findEnd_89 : decode cX0_findEnd 89 = .ok (.goto 5, 3) := by decide +kernel
theorem dX0_findEnd_92 : decode cX0_findEnd 92 = .ok (.iload 6, 2) := by decide +kernel
theorem dX0_findEnd_94 : decode cX0_findEnd 94 = .ok (.ireturn, 1) := by decide +kernel
theorem dX0_findChoice_0 : decode cX0_findChoice 0 = .ok (.aload_n 0, 1) := by decide +kernel
theorem dX0_findChoice_1 : decode cX0_findChoice 1 = .ok (.aload_n 1, 1) := by decide +kernel
theorem dX0_findChoice_2 : decode cX0_findChoice 2 = .ok (.aload_n 1, 1) := by decide +kernel
theorem dX0_findChoice_3 : decode cX0_findChoice 3 = .ok (.iload_n 2, 1) := by decide +kernel
theorem dX0_findChoice_4 : decode cX0_findChoice 4 = .ok (.iconst 1, 1) := by decide +kernel
theorem dX0_findChoice_5 : decode cX0_findChoice 5 = .ok (.invokevirtual 94, 3) := by decide +kernel
theorem dX0_findChoice_8 : decode cX0_findChoice 8 = .ok (.iload_n 3, 1) := by decide +kernel
theorem dX0_findChoice_9 : decode cX0_findChoice 9 = .ok (.iconst 1, 1) := by decide +kernel
theorem dX0_findChoice_10 : decode cX0_findChoice 10 = .ok (.iadd, 1) := by decide +kernel
theorem dX0_findChoice_11 : decode cX0_findChoice 11 = .ok (.invokevirtual 40, 3) := by decide +kernel
theorem dX0_findChoice_14 : decode cX0_findChoice 14 = .ok (.istore 4, 2) := by decide +kernel
theorem dX0_findChoice_16 : decode cX0_findChoice 16 = .ok (.iload 4, 2) := by decide +kernel
theorem dX0_findChoice_18 : decode cX0_findChoice 18 = .ok (.iconst (-1), 1) := by decide +kernel
theorem dX0_findChoice_19 : decode cX0_findChoice 19 = .ok (.if_icmp .ne 5, 3) := by decide +kernel
theorem dX0_findChoice_22 : decode cX0_findChoice 22 = .ok (.iconst (-1), 1) := by decide +kernel
theorem dX0_findChoice_23 : decode cX0_findChoice 23 = .ok (.ireturn, 1) := by decide +kernel
theorem dX0_findChoice_24 : decode cX0_findChoice 24 = .ok (.aload_n 0, 1) := by decide +kernel
theorem dX0_findChoice_25 : decode cX0_findChoice 25 = .ok (.getfield 12, 3) := by decide +kernel
theorem dX0_findChoice_28 : decode cX0_findChoice 28 = .ok (.iload 4, 2) := by decide +kernel
theorem dX0_findChoice_30 : decode cX0_findChoice 30 = .ok (.iconst 1, 1) := by decide +kernel
theorem dX0_findChoice_31 : decode cX0_findChoice 31 = .ok (.invokevirtual 73, 3) := by decide +kernel
theorem dX0_findChoice_34 : decode cX0_findChoice 34 = .ok (.istore 5, 2) := by decide +kernel
theorem dX0_findChoice_36 : decode cX0_findChoice 36 = .ok (.iload 5, 2) := by decide +kernel
theorem dX0_findChoice_38 : decode cX0_findChoice 38 = .ok (.ifCond .eq 11, 3) := by decide +kernel
theorem dX0_findChoice_41 : decode cX0_findChoice 41 = .ok (.aload_n 0, 1) := by decide +kernel
theorem dX0_findChoice_42 : decode cX0_findChoice 42 = .ok (.iload 5, 2) := by decide +kernel
theorem dX0_findChoice_44 : decode cX0_findChoice 44 = .ok (.iload_n 2, 1) := by decide +kernel
theorem dX0_findChoice_45 : decode cX0_findChoice 45 = .ok (.invokevirtual 91, 3) := by decide +kernel
theorem dX0_findChoice_48 : decode cX0_findChoice 48 = .ok (.ireturn, 1) := by decide +kernel
theorem dX0_findChoice_49 : decode cX0_findChoice 49 = .ok (.aload_n 0, 1) := by decide +kernel
theorem dX0_findChoice_50 : decode cX0_findChoice 50 = .ok (.aload_n 1, 1) := by decide +kernel
theorem dX0_findChoice_51 : decode cX0_findChoice 51 = .ok (.aload_n 1, 1) := by decide +kernel
theorem dX0_findChoice_52 : decode cX0_findChoice 52 = .ok (.iload_n 2, 1) := by decide +kernel
theorem dX0_findChoice_53 : decode cX0_findChoice 53 = .ok (.iconst 2, 1) := by decide +kernel
theorem dX0_findChoice_54 : decode cX0_findChoice 54 = .ok (.invokevirtual 94, 3) := by decide +kernel
theorem dX0_findChoice_57 : decode cX0_findChoice 57 = .ok (.iload_n 3, 1) := by decide +kernel
theorem dX0_findChoice_58 : decode cX0_findChoice 58 = .ok (.iconst 1, 1) := by decide +kernel
theorem dX0_findChoice_59 : decode cX0_findChoice 59 = .ok (.iadd, 1) := by decide +kernel
theorem dX0_findChoice_60 : decode cX0_findChoice 60 = .ok (.invokevirtual 40, 3) := by decide +kernel
theorem dX0_findChoice_63 : decode cX0_findChoice 63 = .ok (.istore 6, 2) := by decide +kernel
theorem dX0_findChoice_65 : decode cX0_findChoice 65 = .ok (.iload 6, 2) := by decide +kernel
theorem dX0_findChoice_67 : decode cX0_findChoice 67 = .ok (.iconst (-1), 1) := by decide +kernel
theorem dX0_findChoice_68 : decode cX0_findChoice 68 = .ok (.if_icmp .ne 5, 3) := by decide +kernel
theorem dX0_findChoice_71 : decode cX0_findChoice 71 = .ok (.iconst (-1), 1) := by decide +kernel
theorem dX0_findChoice_72 : decode cX0_findChoice 72 = .ok (.ireturn, 1) := by decide +kernel
theorem dX0_findChoice_73 : decode cX0_findChoice 73 = .ok (.aload_n 0, 1) := by decide +kernel
theorem dX0_findChoice_74 : decode cX0_findChoice 74 = .ok (.aload_n 1, 1) := by decide +kernel
theorem dX0_findChoice_75 : decode cX0_findChoice 75 = .ok (.aload_n 1, 1) := by decide +kernel
theorem dX0_findChoice_76 : decode cX0_findChoice 76 = .ok (.iload_n 2, 1) := by decide +kernel
theorem dX0_findChoice_77 : decode cX0_findChoice 77 = .ok (.iconst 3, 1) := by decide +kernel
theorem dX0_findChoice_78 : decode cX0_findChoice 78 = .ok (.invokevirtual 94, 3) := by decide +kernel
theorem dX0_findChoice_81 : decode cX0_findChoice 81 = .ok (.iload_n 3, 1) := by decide +kernel
theorem dX0_findChoice_82 : decode cX0_findChoice 82 = .ok (.iconst 1, 1) := by decide +kernel
theorem dX0_findChoice_83 : decode cX0_findChoice 83 = .ok (.iadd, 1) := by decide +kernel
theorem dX0_findChoice_84 : decode cX0_findChoice 84 = .ok (.invokevirtual 40, 3) := by decide +kernel
theorem dX0_findChoice_87 : decode cX0_findChoice 87 = .ok (.istore 7, 2) := by decide +kernel
theorem dX0_findChoice_89 : decode cX0_findChoice 89 = .ok (.iload 7, 2) := by decide +kernel
theorem dX0_findChoice_91 : decode cX0_findChoice 91 = .ok (.iconst (-1), 1) := by decide +kernel
theorem dX0_findChoice_92 : decode cX0_findChoice 92 = .ok (.if_icmp .ne 5, 3) := by decide +kernel
theorem dX0_findChoice_95 : decode cX0_findChoice 95 = .ok (.iconst (-1), 1) := by decide +kernel
theorem dX0_findChoice_96 : decode cX0_findChoice 96 = .ok (.ireturn, 1) := by decide +kernel
theorem dX0_findChoice_97 : decode cX0_findChoice 97 = .ok (.aload_n 0, 1) := by decide +kernel
theorem dX0_findChoice_98 : decode cX0_findChoice 98 = .ok (.getfield 12, 3) := by decide +kernel
theorem dX0_findChoice_101 : decode cX0_findChoice 101 = .ok (.iload 6, 2) := by decide +kernel
theorem dX0_findChoice_103 : decode cX0_findChoice 103 = .ok (.iload 7, 2) := by decide +kernel
theorem dX0_findChoice_105 : decode cX0_findChoice 105 = .ok (.invokevirtual 73, 3) := by decide +kernel
theorem dX0_findChoice_108 : decode cX0_findChoice 108 = .ok (.istore 5, 2) := by decide +kernel
theorem dX0_findChoice_110 : decode cX0_findChoice 110 = .ok (.iload 5, 2) := by decide +kernel
theorem dX0_findChoice_112 : decode cX0_findChoice 112 = .ok (.ifCond .ne 8, 3) := by decide +kernel
theorem dX0_findChoice_115 : decode cX0_findChoice 115 = .ok (.iload 6, 2) := by decide +kernel
theorem dX0_findChoice_117 : decode cX0_findChoice 117 = .ok (.goto 10, 3) := by decide +kernel
theorem dX0_findChoice_120 : decode cX0_findChoice 120 = .ok (.aload_n 0, 1) := by decide +kernel
theorem dX0_findChoice_121 : decode cX0_findChoice 121 = .ok (.iload 5, 2) := by decide +kernel
theorem dX0_findChoice_123 : decode cX0_findChoice 123 = .ok (.iload_n 2, 1) := by decide +kernel
theorem dX0_findChoice_124 : decode cX0_findChoice 124 = .ok (.invokevirtual 91, 3) := by decide +kernel
theorem dX0_findChoice_127 : decode cX0_findChoice 127 = .ok (.ireturn, 1) := by decide +kernel
theorem dX0_find_0 : decode cX0_find 0 = .ok (.iload_n 3, 1) := by decide +kernel
theorem dX0_find_1 : decode cX0_find 1 = .ok (.bipush 40, 2) := by decide +kernel
theorem dX0_find_3 : decode cX0_find 3 = .ok (.if_icmp .lt 10, 3) := by decide +kernel
theorem dX0_find_6 : decode cX0_find 6 = .ok (.aload_n 0, 1) := by decide +kernel
theorem dX0_find_7 : decode cX0_find 7 = .ok (.iconst 4, 1) := by decide +kernel
theorem dX0_find_8 : decode cX0_find 8 = .ok (.iload_n 2, 1) := by decide +kernel
theorem dX0_find_9 : decode cX0_find 9 = .ok (.invokevirtual 91, 3) := by decide +kernel
theorem dX0_find_12 : decode cX0_find 12 = .ok (.ireturn, 1) := by decide +kernel
theorem dX0_find_13 : decode cX0_find 13 = .ok (.iconst 0, 1) := by decide +kernel
theorem dX0_find_14 : decode cX0_find 14 = .ok (.istore 4, 2) := by decide +kernel
theorem dX0_find_16 : decode cX0_find 16 = .ok (.aload_n 1, 1) := by decide +kernel
theorem dX0_find_17 : decode cX0_find 17 = .ok (.iload_n 2, 1) := by decide +kernel
theorem dX0_find_18 : decode cX0_find 18 = .ok (.iconst 0, 1) := by decide +kernel
theorem dX0_find_19 : decode cX0_find 19 = .ok (.invokevirtual 94, 3) := by decide +kernel
theorem dX0_find_22 : decode cX0_find 22 = .ok (.tableswitch 135 1 8 #[46, 52, 63, 75, 87, 99, 111, 123], 46) := by decide +kernel
theorem dX0_find_68 : decode cX0_find 68 = .ok (.iconst 1, 1) := by decide +kernel
theorem dX0_find_69 : decode cX0_find 69 = .ok (.istore 4, 2) := by decide +kernel
theorem dX0_find_71 : decode cX0_find 71 = .ok (.goto 86, 3) := by decide +kernel
theorem dX0_find_74 : decode cX0_find 74 = .ok (.aload_n 0, 1) := by decide +kernel
theorem dX0_find_75 : decode cX0_find 75 = .ok (.aload_n 1, 1) := by decide +kernel
theorem dX0_find_76 : decode cX0_find 76 = .ok (.iload_n 2, 1) := by decide +kernel
theorem dX0_find_77 : decode cX0_find 77 = .ok (.invokevirtual 97, 3) := by decide +kernel
theorem dX0_find_80 : decode cX0_find 80 = .ok (.istore 4, 2) := by decide +kernel
theorem dX0_find_82 : decode cX0_find 82 = .ok (.goto 75, 3) := by decide +kernel
theorem dX0_find_85 : decode cX0_find 85 = .ok (.aload_n 0, 1) := by decide +kernel
theorem dX0_find_86 : decode cX0_find 86 = .ok (.aload_n 1, 1) := by decide +kernel
theorem dX0_find_87 : decode cX0_find 87 = .ok (.iload_n 2, 1) := by decide +kernel
theorem dX0_find_88 : decode cX0_find 88 = .ok (.iload_n 3, 1) := by decide +kernel
theorem dX0_find_89 : decode cX0_find 89 = .ok (.invokevirtual 101, 3) := by decide +kernel
theorem dX0_find_92 : decode cX0_find 92 = .ok (.istore 4, 2) := by decide +kernel
theorem dX0_find_94 : decode cX0_find 94 = .ok (.goto 63, 3) := by decide +kernel
theorem dX0_find_97 : decode cX0_find 97 = .ok (.aload_n 0, 1) := by decide +kernel
theorem dX0_find_98 : decode cX0_find 98 = .ok (.aload_n 1, 1) := by decide +kernel
theorem dX0_find_99 : decode cX0_find 99 = .ok (.iload_n 2, 1) := by decide +kernel
theorem dX0_find_100 : decode cX0_find 100 = .ok (.iload_n 3, 1) := by decide +kernel
theorem dX0_find_101 : decode cX0_find 101 = .ok (.invokevirtual 104, 3) := by decide +kernel
theorem dX0_find_104 : decode cX0_find 104 = .ok (.istore 4, 2) := by decide +kernel
theorem dX0_find_106 : decode cX0_find 106 = .ok (.goto 51, 3) := by decide +kernel
theorem dX0_find_109 : decode cX0_find 109 = .ok (.aload_n 0, 1) := by decide +kernel
theorem dX0_find_110 : decode cX0_find 110 = .ok (.aload_n 1, 1) := by decide +kernel
theorem dX0_find_111 : decode cX0_find 111 = .ok (.iload_n 2, 1) := by decide +kernel
theorem dX0_find_112 : decode cX0_find 112 = .ok (.iload_n 3, 1) := by decide +kernel
theorem dX0_find_113 : decode cX0_find 113 = .ok (.invokevirtual 107, 3) := by decide +kernel
theorem dX0_find_116 : decode cX0_find 116 = .ok (.istore 4, 2) := by decide +kernel
theorem dX0_find_118 : decode cX0_find 118 = .ok (.goto 39, 3) := by decide +kernel
theorem dX0_find_121 : decode cX0_find 121 = .ok (.aload_n 0, 1) := by decide +kernel
theorem dX0_find_122 : decode cX0_find 122 = .ok (.aload_n 1, 1) := by decide +kernel
theorem dX0_find_123 : decode cX0_find 123 = .ok (.iload_n 2, 1) := by decide +kernel
theorem dX0_find_124 : decode cX0_find 124 = .ok (.iload_n 3, 1) := by decide +kernel
theorem dX0_find_125 : decode cX0_find 125 = .ok (.invokevirtual 110, 3) := by decide +kernel
theorem dX0_find_128 : decode cX0_find 128 = .ok (.istore 4, 2) := by decide +kernel
theorem dX0_find_130 : decode cX0_find 130 = .ok (.goto 27, 3) := by decide +kernel
theorem dX0_find_133 : decode cX0_find 133 = .ok (.aload_n 0, 1) := by decide +kernel
theorem dX0_find_134 : decode cX0_find 134 = .ok (.aload_n 1, 1) := by decide +kernel
theorem dX0_find_135 : decode cX0_find 135 = .ok (.iload_n 2, 1) := by decide +kernel
theorem dX0_find_136 : decode cX0_find 136 = .ok (.iload_n 3, 1) := by decide +kernel
theorem dX0_find_137 : decode cX0_find 137 = .ok (.invokevirtual 113, 3) := by decide +kernel
theorem dX0_find_140 : decode cX0_find 140 = .ok (.istore 4, 2) := by decide +kernel
theorem dX0_find_142 : decode cX0_find 142 = .ok (.goto 15, 3) := by decide +kernel
theorem dX0_find_145 : decode cX0_find 145 = .ok (.aload_n 0, 1) := by decide +kernel
theorem dX0_find_146 : decode cX0_find 146 = .ok (.aload_n 1, 1) := by decide +kernel
theorem dX0_find_147 : decode cX0_find 147 = .ok (.iload_n 2, 1) := by decide +kernel
theorem dX0_find_148 : decode cX0_find 148 = .ok (.iload_n 3, 1) := by decide +kernel
theorem dX0_find_149 : decode cX0_find 149 = .ok (.invokevirtual 116, 3) := by decide +kernel
theorem dX0_find_152 : decode cX0_find 152 = .ok (.istore 4, 2) := by decide +kernel
theorem dX0_find_154 : decode cX0_find 154 = .ok (.goto 3, 3) := by decide +kernel
theorem dX0_find_157 : decode cX0_find 157 = .ok (.iload 4, 2) := by decide +kernel
theorem dX0_find_159 : decode cX0_find 159 = .ok (.iconst (-1), 1) := by decide +kernel
theorem dX0_find_160 : decode cX0_find 160 = .ok (.if_icmp .eq 19, 3) := by decide +kernel
theorem dX0_find_163 : decode cX0_find 163 = .ok (.aload_n 0, 1) := by decide +kernel
theorem dX0_find_164 : decode cX0_find 164 = .ok (.iload 4, 2) := by decide +kernel
theorem dX0_find_166 : decode cX0_find 166 = .ok (.invokevirtual 77, 3) := by decide +kernel
theorem dX0_find_169 : decode cX0_find 169 = .ok (.ifCond .eq 10, 3) := by decide +kernel
theorem dX0_find_172 : decode cX0_find 172 = .ok (.aload_n 0, 1) := by decide +kernel
theorem dX0_find_173 : decode cX0_find 173 = .ok (.iconst 4, 1) := by decide +kernel
theorem dX0_find_174 : decode cX0_find 174 = .ok (.iload_n 2, 1) := by decide +kernel
theorem dX0_find_175 : decode cX0_find 175 = .ok (.invokevirtual 91, 3) := by decide +kernel
theorem dX0_find_178 : decode cX0_find 178 = .ok (.ireturn, 1) := by decide +kernel
theorem dX0_find_179 : decode cX0_find 179 = .ok (.iload 4, 2) := by decide +kernel
theorem dX0_find_181 : decode cX0_find 181 = .ok (.ireturn, 1) := by decide +kernel
theorem dX0_settle_0 : decode cX0_settle 0 = .ok (.aload_n 0, 1) := by decide +kernel
theorem dX0_settle_1 : decode cX0_settle 1 = .ok (.getfield 12, 3) := by decide +kernel
theorem dX0_settle_4 : decode cX0_settle 4 = .ok (.invokevirtual 29, 3) := by decide +kernel
theorem dX0_settle_7 : decode cX0_settle 7 = .ok (.aload_n 0, 1) := by decide +kernel
theorem dX0_settle_8 : decode cX0_settle 8 = .ok (.getfield 21, 3) := by decide +kernel
theorem dX0_settle_11 : decode cX0_settle 11 = .ok (.invokevirtual 32, 3) := by decide +kernel
theorem dX0_settle_14 : decode cX0_settle 14 = .ok (.aload_n 0, 1) := by decide +kernel
theorem dX0_settle_15 : decode cX0_settle 15 = .ok (.iconst 0, 1) := by decide +kernel
theorem dX0_settle_16 : decode cX0_settle 16 = .ok (.putfield 33, 3) := by decide +kernel
theorem dX0_settle_19 : decode cX0_settle 19 = .ok (.aload_n 0, 1) := by decide +kernel
theorem dX0_settle_20 : decode cX0_settle 20 = .ok (.iconst (-1), 1) := by decide +kernel
theorem dX0_settle_21 : decode cX0_settle 21 = .ok (.putfield 37, 3) := by decide +kernel
theorem dX0_settle_24 : decode cX0_settle 24 = .ok (.aload_n 0, 1) := by decide +kernel
theorem dX0_settle_25 : decode cX0_settle 25 = .ok (.aload_n 1, 1) := by decide +kernel
theorem dX0_settle_26 : decode cX0_settle 26 = .ok (.iload_n 2, 1) := by decide +kernel
theorem dX0_settle_27 : decode cX0_settle 27 = .ok (.iconst 0, 1) := by decide +kernel
theorem dX0_settle_28 : decode cX0_settle 28 = .ok (.invokevirtual 40, 3) := by decide +kernel
theorem dX0_settle_31 : decode cX0_settle 31 = .ok (.istore 4, 2) := by decide +kernel
theorem dX0_settle_33 : decode cX0_settle 33 = .ok (.iload 4, 2) := by decide +kernel
theorem dX0_settle_35 : decode cX0_settle 35 = .ok (.iconst (-1), 1) := by decide +kernel
theorem dX0_settle_36 : decode cX0_settle 36 = .ok (.if_icmp .ne 17, 3) := by decide +kernel
theorem dX0_settle_39 : decode cX0_settle 39 = .ok (.aload_n 3, 1) := by decide +kernel
theorem dX0_settle_40 : decode cX0_settle 40 = .ok (.iload_n 2, 1) := by decide +kernel
theorem dX0_settle_41 : decode cX0_settle 41 = .ok (.aload_n 0, 1) := by decide +kernel
theorem dX0_settle_42 : decode cX0_settle 42 = .ok (.getfield 33, 3) := by decide +kernel
theorem dX0_settle_45 : decode cX0_settle 45 = .ok (.aload_n 0, 1) := by decide +kernel
theorem dX0_settle_46 : decode cX0_settle 46 = .ok (.getfield 37, 3) := by decide +kernel
theorem dX0_settle_49 : decode cX0_settle 49 = .ok (.invokevirtual 44, 3) := by decide +kernel
theorem dX0_settle_52 : decode cX0_settle 52 = .ok (.return_, 1) := by decide +kernel
theorem dX0_settle_53 : decode cX0_settle 53 = .ok (.aload_n 0, 1) := by decide +kernel
theorem dX0_settle_54 : decode cX0_settle 54 = .ok (.getfield 12, 3) := by decide +kernel
theorem dX0_settle_57 : decode cX0_settle 57 = .ok (.invokevirtual 50, 3) := by decide +kernel
theorem dX0_settle_60 : decode cX0_settle 60 = .ok (.aload_n 3, 1) := by decide +kernel
theorem dX0_settle_61 : decode cX0_settle 61 = .ok (.iload_n 2, 1) := by decide +kernel
theorem dX0_settle_62 : decode cX0_settle 62 = .ok (.aload_n 0, 1) := by decide +kernel
theorem dX0_settle_63 : decode cX0_settle 63 = .ok (.getfield 25, 3) := by decide +kernel
theorem dX0_settle_66 : decode cX0_settle 66 = .ok (.aload_n 0, 1) := by decide +kernel
theorem dX0_settle_67 : decode cX0_settle 67 = .ok (.getfield 12, 3) := by decide +kernel
theorem dX0_settle_70 : decode cX0_settle 70 = .ok (.iload 4, 2) := by decide +kernel
theorem dX0_settle_72 : decode cX0_settle 72 = .ok (.aload_n 0, 1) := by decide +kernel
theorem dX0_settle_73 : decode cX0_settle 73 = .ok (.getfield 25, 3) := by decide +kernel
theorem dX0_settle_76 : decode cX0_settle 76 = .ok (.invokevirtual 53, 3) := by decide +kernel
theorem dX0_settle_79 : decode cX0_settle 79 = .ok (.invokevirtual 57, 3) := by decide +kernel
theorem dX0_settle_82 : decode cX0_settle 82 = .ok (.return_, 1) := by decide +kernel
section T0
variable {p : Program} {l : Launch} {e : Env} {R : Room} {s : State} {m : MethodId} {args : Array Value} {below : List Frame} {meth : Method} {c : Code} {D : va_G} {g : gT} {N : Nat} {ad ln : Nat → Nat}
def mX0_fail_b0 (A : gM) (x1 : Int32) (x2 : Int32) : Option (gM × Int32) :=
  g_let (g_up A 128 3 x1) fun A1 =>
  g_let (g_up A1 128 4 x2) fun A2 =>
  some (A2, (-1))
def mX0_fail (A : gM) (x1 : Int32) (x2 : Int32) : Option (gM × Int32) := mX0_fail_b0 A x1 x2
set_option maxHeartbeats 2000000 in
set_option maxRecDepth 20000 in
theorem wX0_fail_b0 (hN : 183 ≤ N) {A0 A' : gM} {r : Int32} (C : gC p R s m args meth c cX0_fail RX0 3 D g (va_A (gw g ad ln A0 N) s.heap.size) 0) (hr : meth.sig.returnType = some .int)  {A : gM} {x1 : Int32} {x2 : Int32} (h : mX0_fail_b0 A x1 x2 = some (A', r)) : gJ p l e R s m args below meth c (gEi below D g N ad ln A0 A' r args s) 3 D g (va_A (gw g ad ln A0 N) s.heap.size) N ad ln A [(0, gr 128), (1, gi x1), (2, gi x2)] 0 0 0 [] := by
  unfold mX0_fail_b0 at h
  refine g_aload_n C 0 dX0_fail_0 rfl ?_
  refine g_iload_n C 1 dX0_fail_1 rfl ?_
  obtain ⟨A1, eA1, h⟩ := g_lt h
  refine g_put C 128 3 tyX0 tyX0_ok nmX0 (by omega) rfl rfl gu_0 (by decide) qf_X0_33 rfl (by decide +kernel) (Nat.le_of_ble_eq_true rfl) rfl eA1 dX0_fail_2 ?_
  refine g_aload_n C 0 dX0_fail_5 rfl ?_
  refine g_iload_n C 2 dX0_fail_6 rfl ?_
  obtain ⟨A2, eA2, h⟩ := g_lt h
  refine g_put C 128 4 tyX0 tyX0_ok nmX0 (by omega) rfl rfl gu_0 (by decide) qf_X0_37 rfl (by decide +kernel) (Nat.le_of_ble_eq_true rfl) rfl eA2 dX0_fail_7 ?_
  refine g_iconst (v := (-1)) C dX0_fail_10 (by decide) ?_
  obtain ⟨rfl, rfl⟩ := Prod.mk.inj (Option.some.inj h)
  exact g_reti C hr dX0_fail_11

set_option maxHeartbeats 2000000 in
set_option maxRecDepth 20000 in
theorem kX0_fail {l : Launch} {D : va_G} {g : gT} {N : Nat} {ad ln : Nat → Nat} (hN : 183 ≤ N) {A A' : gM} {x1 : Int32} {x2 : Int32} {r : Int32} (h : mX0_fail A x1 x2 = some (A', r)) : gKi l yX0_fail cX0_fail 3 (some .int) (0) D g N ad ln A [gr 128, gi x1, gi x2] A' r := by
  refine g_meti (by decide) (Nat.le_of_ble_eq_true rfl) ?_
  intro p e s m args below meth c C hr
  refine g_sub [0, 1, 2] rfl ?_
  exact wX0_fail_b0 hN C hr h
def mX0_isTooLong_b22 (A : gM) (s0 : Int32) : Option (gM × Int32) :=
  if (s0 : Int32) = 0 ∨ (s0 : Int32) = 1 then some (A, s0) else none
def mX0_isTooLong_b0 (A : gM) (x1 : Int32) : Option (gM × Int32) :=
  (mX4_write A x1).bind fun q1 =>
  if q1.2 ≤ 60 then
  mX0_isTooLong_b22 q1.1 0
  else
  mX0_isTooLong_b22 q1.1 1
def mX0_isTooLong (A : gM) (x1 : Int32) : Option (gM × Int32) := mX0_isTooLong_b0 A x1
set_option maxHeartbeats 2000000 in
set_option maxRecDepth 20000 in
theorem wX0_isTooLong_b22 (hN : 183 ≤ N) {A0 A' : gM} {r : Int32} (C : gC p R s m args meth c cX0_isTooLong RX0 2 D g (va_A (gw g ad ln A0 N) s.heap.size) 3) (hr : meth.sig.returnType = some .boolean)  {A : gM} {s0 : Int32} (h : mX0_isTooLong_b22 A s0 = some (A', r)) : gJ p l e R s m args below meth c (gEi below D g N ad ln A0 A' r args s) 2 D g (va_A (gw g ad ln A0 N) s.heap.size) N ad ln A [] 0 0 22 [gi s0] := by
  unfold mX0_isTooLong_b22 at h
  obtain ⟨hz1, h⟩ := g_gd h
  obtain ⟨rfl, rfl⟩ := Prod.mk.inj (Option.some.inj h)
  exact g_retz C hr hz1 dX0_isTooLong_22

set_option maxHeartbeats 2000000 in
set_option maxRecDepth 20000 in
theorem wX0_isTooLong_b0 (hN : 183 ≤ N) {A0 A' : gM} {r : Int32} (C : gC p R s m args meth c cX0_isTooLong RX0 2 D g (va_A (gw g ad ln A0 N) s.heap.size) 3) (hr : meth.sig.returnType = some .boolean)  {A : gM} {x1 : Int32} (h : mX0_isTooLong_b0 A x1 = some (A', r)) : gJ p l e R s m args below meth c (gEi below D g N ad ln A0 A' r args s) 2 D g (va_A (gw g ad ln A0 N) s.heap.size) N ad ln A [(0, gr 128), (1, gi x1)] 0 0 0 [] := by
  unfold mX0_isTooLong_b0 at h
  refine g_aload_n C 0 dX0_isTooLong_0 rfl ?_
  refine g_get (v := gr 129) C 128 0 (by omega) rfl rfl gu_0 (by decide) qf_X0_12 rfl dX0_isTooLong_1 ?_
  refine g_iload_n C 1 dX0_isTooLong_4 rfl ?_
  refine g_aload_n C 0 dX0_isTooLong_5 rfl ?_
  refine g_get (v := gr 182) C 128 2 (by omega) rfl rfl gu_0 (by decide) qf_X0_25 rfl dX0_isTooLong_6 ?_
  obtain ⟨q1, eq1, h⟩ := g_bd h
  refine g_calliV C 129 [gi x1, gr 182] (kX4_write hN eq1) qs_X0_53 (by omega) (by omega) rfl rfl rfl rfl (Nat.le_of_ble_eq_true rfl) ⟨Nat.zero_le _, Nat.zero_le _⟩ dX0_isTooLong_9 ?_
  refine g_bipush (v := 60) C dX0_isTooLong_12 (by decide) ?_
  refine g_icmp_le C dX0_isTooLong_14 (tgt := 21) (by decide) (fun c2 => ?_) (fun c2 => ?_)
  · have h := g_tt c2 h
    refine g_iconst (v := 0) C dX0_isTooLong_21 (by decide) ?_
    refine g_sub [] rfl ?_
    exact wX0_isTooLong_b22 hN C hr h
  · have h := g_ff c2 h
    refine g_iconst (v := 1) C dX0_isTooLong_17 (by decide) ?_
    refine g_goto C dX0_isTooLong_18 (tgt := 22) (by decide) ?_
    refine g_sub [] rfl ?_
    exact wX0_isTooLong_b22 hN C hr h

set_option maxHeartbeats 2000000 in
set_option maxRecDepth 20000 in
theorem kX0_isTooLong {l : Launch} {D : va_G} {g : gT} {N : Nat} {ad ln : Nat → Nat} (hN : 183 ≤ N) {A A' : gM} {x1 : Int32} {r : Int32} (h : mX0_isTooLong A x1 = some (A', r)) : gKi l yX0_isTooLong cX0_isTooLong 2 (some .boolean) (3) D g N ad ln A [gr 128, gi x1] A' r := by
  refine g_meti (by decide) (Nat.le_of_ble_eq_true rfl) ?_
  intro p e s m args below meth c C hr
  refine g_sub [0, 1] rfl ?_
  exact wX0_isTooLong_b0 hN C hr h
def mX0_findName_b0 (A : gM) (x2 : Int32) : Option (gM × Int32) :=
  (mX2_fact A x2 4).bind fun q1 =>
  (mX1_latest q1.1 q1.2).bind fun q2 =>
  if q2.2 = (-1) then
  (mX0_fail q2.1 1 x2).bind fun q8 =>
  some (q8.1, q8.2)
  else
  (mX1_rowAt q2.1 q2.2).bind fun q4 =>
  (mX1_lengthAt q4.1 q2.2).bind fun q6 =>
  (mX4_build q6.1 q4.2 q6.2).bind fun q7 =>
  some (q7.1, q7.2)
def mX0_findName (A : gM) (x2 : Int32) : Option (gM × Int32) := mX0_findName_b0 A x2
set_option maxHeartbeats 2000000 in
set_option maxRecDepth 20000 in
theorem wX0_findName_b0 (hN : 183 ≤ N) {A0 A' : gM} {r : Int32} (C : gC p R s m args meth c cX0_findName RX0 4 D g (va_A (gw g ad ln A0 N) s.heap.size) 4) (hr : meth.sig.returnType = some .int)  {A : gM} {x2 : Int32} (h : mX0_findName_b0 A x2 = some (A', r)) : gJ p l e R s m args below meth c (gEi below D g N ad ln A0 A' r args s) 4 D g (va_A (gw g ad ln A0 N) s.heap.size) N ad ln A [(0, gr 128), (1, gr 1), (2, gi x2)] 0 0 0 [] := by
  unfold mX0_findName_b0 at h
  refine g_aload_n C 0 dX0_findName_0 rfl ?_
  refine g_get (v := gr 138) C 128 1 (by omega) rfl rfl gu_0 (by decide) qf_X0_21 rfl dX0_findName_1 ?_
  refine g_aload_n C 1 dX0_findName_4 rfl ?_
  refine g_iload_n C 2 dX0_findName_5 rfl ?_
  refine g_iconst (v := 4) C dX0_findName_6 (by decide) ?_
  obtain ⟨q1, eq1, h⟩ := g_bd h
  refine g_calliV C 1 [gi x2, gi 4] (kX2_fact hN eq1) qs_X0_94 (by omega) (by omega) rfl rfl rfl rfl (Nat.le_of_ble_eq_true rfl) ⟨Nat.zero_le _, Nat.zero_le _⟩ dX0_findName_7 ?_
  obtain ⟨q2, eq2, h⟩ := g_bd h
  refine g_calliV C 138 [gi q1.2] (kX1_latest hN eq2) qs_X0_119 (by omega) (by omega) rfl rfl rfl rfl (Nat.le_of_ble_eq_true rfl) ⟨Nat.zero_le _, Nat.zero_le _⟩ dX0_findName_10 ?_
  refine g_istore_n C dX0_findName_13 (by decide) rfl ?_
  refine g_iload_n C 0 dX0_findName_14 rfl ?_
  refine g_iconst (v := (-1)) C dX0_findName_15 (by decide) ?_
  refine g_icmp_ne C dX0_findName_16 (tgt := 26) (by decide) (fun c3 => ?_) (fun c3 => ?_)
  · have h := g_ff c3 h
    refine g_aload_n C 1 dX0_findName_26 rfl ?_
    refine g_get (v := gr 129) C 128 0 (by omega) rfl rfl gu_0 (by decide) qf_X0_12 rfl dX0_findName_27 ?_
    refine g_aload_n C 1 dX0_findName_30 rfl ?_
    refine g_get (v := gr 138) C 128 1 (by omega) rfl rfl gu_0 (by decide) qf_X0_21 rfl dX0_findName_31 ?_
    refine g_iload_n C 0 dX0_findName_34 rfl ?_
    obtain ⟨q4, eq4, h⟩ := g_bd h
    have ha5 := mX1_rowAt_ok hN (ln := ln) eq4
    refine g_callrV C 138 [gi q2.2] (kX1_rowAt hN eq4) qs_X0_123 (by omega) (by omega) rfl rfl rfl rfl (Nat.le_of_ble_eq_true rfl) ⟨Nat.zero_le _, Nat.zero_le _⟩ dX0_findName_35 ?_
    refine g_aload_n C 1 dX0_findName_38 rfl ?_
    refine g_get (v := gr 138) C 128 1 (by omega) rfl rfl gu_0 (by decide) qf_X0_21 rfl dX0_findName_39 ?_
    refine g_iload_n C 0 dX0_findName_42 rfl ?_
    obtain ⟨q6, eq6, h⟩ := g_bd h
    refine g_calliV C 138 [gi q2.2] (kX1_lengthAt hN eq6) qs_X0_127 (by omega) (by omega) rfl rfl rfl rfl (Nat.le_of_ble_eq_true rfl) ⟨Nat.zero_le _, Nat.zero_le _⟩ dX0_findName_43 ?_
    obtain ⟨q7, eq7, h⟩ := g_bd h
    refine g_calliV C 129 [gr q4.2, gi q6.2] (kX4_build hN ha5 eq7) qs_X0_87 (by omega) (by omega) rfl rfl rfl rfl (Nat.le_of_ble_eq_true rfl) ⟨Nat.zero_le _, Nat.zero_le _⟩ dX0_findName_46 ?_
    obtain ⟨rfl, rfl⟩ := Prod.mk.inj (Option.some.inj h)
    exact g_reti C hr dX0_findName_49
  · have h := g_tt c3 h
    refine g_aload_n C 1 dX0_findName_19 rfl ?_
    refine g_iconst (v := 1) C dX0_findName_20 (by decide) ?_
    refine g_iload_n C 3 dX0_findName_21 rfl ?_
    obtain ⟨q8, eq8, h⟩ := g_bd h
    refine g_calliV C 128 [gi 1, gi x2] (kX0_fail hN eq8) qs_X0_91 (by omega) (by omega) rfl rfl rfl rfl (Nat.le_of_ble_eq_true rfl) ⟨Nat.zero_le _, Nat.zero_le _⟩ dX0_findName_22 ?_
    obtain ⟨rfl, rfl⟩ := Prod.mk.inj (Option.some.inj h)
    exact g_reti C hr dX0_findName_25

set_option maxHeartbeats 2000000 in
set_option maxRecDepth 20000 in
theorem kX0_findName {l : Launch} {D : va_G} {g : gT} {N : Nat} {ad ln : Nat → Nat} (hN : 183 ≤ N) {A A' : gM} {x2 : Int32} {r : Int32} (h : mX0_findName A x2 = some (A', r)) : gKi l yX0_findName cX0_findName 4 (some .int) (4) D g N ad ln A [gr 128, gr 1, gi x2] A' r := by
  refine g_meti (by decide) (Nat.le_of_ble_eq_true rfl) ?_
  intro p e s m args below meth c C hr
  refine g_sub [0, 1, 2] rfl ?_
  exact wX0_findName_b0 hN C hr h
def mX0_buildRow_b43 (A : gM) (x3 : Int32) : Option (gM × Int32) :=
  (mX4_build A 182 x3).bind fun q1 =>
  some (q1.1, q1.2)
def mX0_buildRow_b10 (K10 : gM → Int32 → Int32 → Int32 → Option (gM × Int32)) (A : gM) (x2 : Int32) (x3 : Int32) (x4 : Int32) : Option (gM × Int32) :=
  if x3 ≤ x4 then
  mX0_buildRow_b43 A x3
  else
  if 60 ≤ x4 then
  mX0_buildRow_b43 A x3
  else
  (mX3_codeAt A x2 x4).bind fun q3 =>
  if g_in x4 60 = true then g_let (g_up q3.1 182 x4.toNatClampNeg q3.2) fun A5 =>
  g_let (x4 + 1) fun v6 =>
  K10 A5 x2 x3 v6
  else none
def mX0_buildRow_L10 : Nat → gM → Int32 → Int32 → Int32 → Option (gM × Int32)
  | 0 => fun _ _ _ _ => none
  | f + 1 => mX0_buildRow_b10 (mX0_buildRow_L10 f)
def mX0_buildRow_b0 (A : gM) (x2 : Int32) : Option (gM × Int32) :=
  (mX3_fact A x2 2).bind fun q1 =>
  mX0_buildRow_L10 gF q1.1 x2 q1.2 0
def mX0_buildRow (A : gM) (x2 : Int32) : Option (gM × Int32) := mX0_buildRow_b0 A x2
set_option maxHeartbeats 2000000 in
set_option maxRecDepth 20000 in
theorem wX0_buildRow_b43 (hN : 183 ≤ N) {A0 A' : gM} {r : Int32} (C : gC p R s m args meth c cX0_buildRow RX0 5 D g (va_A (gw g ad ln A0 N) s.heap.size) 4) (hr : meth.sig.returnType = some .int)  {A : gM} {x3 : Int32} (h : mX0_buildRow_b43 A x3 = some (A', r)) : gJ p l e R s m args below meth c (gEi below D g N ad ln A0 A' r args s) 5 D g (va_A (gw g ad ln A0 N) s.heap.size) N ad ln A [(0, gr 128), (3, gi x3)] 0 0 43 [] := by
  unfold mX0_buildRow_b43 at h
  refine g_aload_n C 0 dX0_buildRow_43 rfl ?_
  refine g_get (v := gr 129) C 128 0 (by omega) rfl rfl gu_0 (by decide) qf_X0_12 rfl dX0_buildRow_44 ?_
  refine g_aload_n C 0 dX0_buildRow_47 rfl ?_
  refine g_get (v := gr 182) C 128 2 (by omega) rfl rfl gu_0 (by decide) qf_X0_25 rfl dX0_buildRow_48 ?_
  refine g_iload_n C 1 dX0_buildRow_51 rfl ?_
  obtain ⟨q1, eq1, h⟩ := g_bd h
  refine g_calliV C 129 [gr 182, gi x3] (kX4_build hN ⟨by omega, rfl, rfl⟩ eq1) qs_X0_87 (by omega) (by omega) rfl rfl rfl rfl (Nat.le_of_ble_eq_true rfl) ⟨Nat.zero_le _, Nat.zero_le _⟩ dX0_buildRow_52 ?_
  obtain ⟨rfl, rfl⟩ := Prod.mk.inj (Option.some.inj h)
  exact g_reti C hr dX0_buildRow_55

set_option maxHeartbeats 2000000 in
set_option maxRecDepth 20000 in
theorem wX0_buildRow_b10 (hN : 183 ≤ N) {A0 A' : gM} {r : Int32} (C : gC p R s m args meth c cX0_buildRow RX0 5 D g (va_A (gw g ad ln A0 N) s.heap.size) 4) (hr : meth.sig.returnType = some .int) {K10 : gM → Int32 → Int32 → Int32 → Option (gM × Int32)} (hK10 : ∀ {A : gM} {x2 : Int32} {x3 : Int32} {x4 : Int32}, K10 A x2 x3 x4 = some (A', r) → gJ p l e R s m args below meth c (gEi below D g N ad ln A0 A' r args s) 5 D g (va_A (gw g ad ln A0 N) s.heap.size) N ad ln A [(0, gr 128), (1, gr 43), (2, gi x2), (3, gi x3), (4, gi x4)] 0 0 10 []) {A : gM} {x2 : Int32} {x3 : Int32} {x4 : Int32} (h : mX0_buildRow_b10 K10 A x2 x3 x4 = some (A', r)) : gJ p l e R s m args below meth c (gEi below D g N ad ln A0 A' r args s) 5 D g (va_A (gw g ad ln A0 N) s.heap.size) N ad ln A [(0, gr 128), (1, gr 43), (2, gi x2), (3, gi x3), (4, gi x4)] 0 0 10 [] := by
  unfold mX0_buildRow_b10 at h
  refine g_iload C 4 dX0_buildRow_10 rfl ?_
  refine g_iload_n C 3 dX0_buildRow_12 rfl ?_
  refine g_icmp_ge C dX0_buildRow_13 (tgt := 43) (by decide) (fun c1 => ?_) (fun c1 => ?_)
  · have h := g_tt c1 h
    refine g_sub [0, 3] rfl ?_
    exact wX0_buildRow_b43 hN C hr h
  · have h := g_ff c1 h
    refine g_iload C 4 dX0_buildRow_16 rfl ?_
    refine g_bipush (v := 60) C dX0_buildRow_18 (by decide) ?_
    refine g_icmp_ge C dX0_buildRow_20 (tgt := 43) (by decide) (fun c2 => ?_) (fun c2 => ?_)
    · have h := g_tt c2 h
      refine g_sub [0, 3] rfl ?_
      exact wX0_buildRow_b43 hN C hr h
    · have h := g_ff c2 h
      refine g_aload_n C 0 dX0_buildRow_23 rfl ?_
      refine g_get (v := gr 182) C 128 2 (by omega) rfl rfl gu_0 (by decide) qf_X0_25 rfl dX0_buildRow_24 ?_
      refine g_iload C 4 dX0_buildRow_27 rfl ?_
      refine g_aload_n C 1 dX0_buildRow_29 rfl ?_
      refine g_iload_n C 2 dX0_buildRow_30 rfl ?_
      refine g_iload C 4 dX0_buildRow_31 rfl ?_
      obtain ⟨q3, eq3, h⟩ := g_bd h
      refine g_calliV C 43 [gi x2, gi x4] (kX3_codeAt hN eq3) qs_X0_84 (by omega) (by omega) rfl rfl rfl rfl (Nat.le_of_ble_eq_true rfl) ⟨Nat.zero_le _, Nat.zero_le _⟩ dX0_buildRow_33 ?_
      obtain ⟨hg4, h⟩ := g_gd h
      obtain ⟨A5, eA5, h⟩ := g_lt h
      refine g_iast C 182 (by omega) rfl rfl hg4 eA5 dX0_buildRow_36 ?_
      obtain ⟨v6, ev6, h⟩ := g_lt h
      refine g_iinc C 4 dX0_buildRow_37 rfl ev6 (by decide) rfl ?_
      refine g_goto C dX0_buildRow_40 (tgt := 10) (by decide) ?_
      refine g_sub [1, 2, 3, 4, 0] rfl ?_
      exact hK10 h

set_option maxHeartbeats 2000000 in
set_option maxRecDepth 20000 in
theorem wX0_buildRow_L10 (hN : 183 ≤ N) {A0 A' : gM} {r : Int32} (C : gC p R s m args meth c cX0_buildRow RX0 5 D g (va_A (gw g ad ln A0 N) s.heap.size) 4) (hr : meth.sig.returnType = some .int)  : ∀ (f : Nat) {A : gM} {x2 : Int32} {x3 : Int32} {x4 : Int32}, mX0_buildRow_L10 f A x2 x3 x4 = some (A', r) → gJ p l e R s m args below meth c (gEi below D g N ad ln A0 A' r args s) 5 D g (va_A (gw g ad ln A0 N) s.heap.size) N ad ln A [(0, gr 128), (1, gr 43), (2, gi x2), (3, gi x3), (4, gi x4)] 0 0 10 []
  | 0, A, x2, x3, x4, h => by cases h
  | f + 1, A, x2, x3, x4, h => wX0_buildRow_b10 hN C hr (fun {A} {x2} {x3} {x4} h => wX0_buildRow_L10 hN C hr f h) h
set_option maxHeartbeats 2000000 in
set_option maxRecDepth 20000 in
theorem wX0_buildRow_b0 (hN : 183 ≤ N) {A0 A' : gM} {r : Int32} (C : gC p R s m args meth c cX0_buildRow RX0 5 D g (va_A (gw g ad ln A0 N) s.heap.size) 4) (hr : meth.sig.returnType = some .int)  {A : gM} {x2 : Int32} (h : mX0_buildRow_b0 A x2 = some (A', r)) : gJ p l e R s m args below meth c (gEi below D g N ad ln A0 A' r args s) 5 D g (va_A (gw g ad ln A0 N) s.heap.size) N ad ln A [(0, gr 128), (1, gr 43), (2, gi x2)] 0 0 0 [] := by
  unfold mX0_buildRow_b0 at h
  refine g_aload_n C 1 dX0_buildRow_0 rfl ?_
  refine g_iload_n C 2 dX0_buildRow_1 rfl ?_
  refine g_iconst (v := 2) C dX0_buildRow_2 (by decide) ?_
  obtain ⟨q1, eq1, h⟩ := g_bd h
  refine g_calliV C 43 [gi x2, gi 2] (kX3_fact hN eq1) qs_X0_81 (by omega) (by omega) rfl rfl rfl rfl (Nat.le_of_ble_eq_true rfl) ⟨Nat.zero_le _, Nat.zero_le _⟩ dX0_buildRow_3 ?_
  refine g_istore_n C dX0_buildRow_6 (by decide) rfl ?_
  refine g_iconst (v := 0) C dX0_buildRow_7 (by decide) ?_
  refine g_istore C dX0_buildRow_8 (by decide) rfl ?_
  refine g_sub [2, 3, 4, 1, 0] rfl ?_
  exact wX0_buildRow_L10 hN C hr gF h

set_option maxHeartbeats 2000000 in
set_option maxRecDepth 20000 in
theorem kX0_buildRow {l : Launch} {D : va_G} {g : gT} {N : Nat} {ad ln : Nat → Nat} (hN : 183 ≤ N) {A A' : gM} {x2 : Int32} {r : Int32} (h : mX0_buildRow A x2 = some (A', r)) : gKi l yX0_buildRow cX0_buildRow 5 (some .int) (4) D g N ad ln A [gr 128, gr 43, gi x2] A' r := by
  refine g_meti (by decide) (Nat.le_of_ble_eq_true rfl) ?_
  intro p e s m args below meth c C hr
  refine g_sub [0, 1, 2] rfl ?_
  exact wX0_buildRow_b0 hN C hr h
def mX0_faultOfTurning_b77 (A : gM) (s0 : Int32) : Option (gM × Int32) :=
  some (A, s0)
def mX0_faultOfTurning_b0 (A : gM) (x2 : Int32) (x3 : Int32) : Option (gM × Int32) :=
  (mX4_clear A).bind fun q1 =>
  (mX0_buildRow q1 x2).bind fun q2 =>
  (mX0_buildRow q2.1 x3).bind fun q3 =>
  (mX4_newVariable q3.1).bind fun q4 =>
  (mX4_make q4.1 2 q3.2 q4.2).bind fun q5 =>
  (mX4_match q5.1 q2.2 q5.2).bind fun q6 =>
  if q6.2 = 0 then
  (mX0_isTooLong q6.1 q4.2).bind fun q8 =>
  if q8.2 = 0 then
  mX0_faultOfTurning_b77 q8.1 0
  else
  mX0_faultOfTurning_b77 q8.1 4
  else
  some (q6.1, q6.2)
def mX0_faultOfTurning (A : gM) (x2 : Int32) (x3 : Int32) : Option (gM × Int32) := mX0_faultOfTurning_b0 A x2 x3
set_option maxHeartbeats 2000000 in
set_option maxRecDepth 20000 in
theorem wX0_faultOfTurning_b77 (hN : 183 ≤ N) {A0 A' : gM} {r : Int32} (C : gC p R s m args meth c cX0_faultOfTurning RX0 8 D g (va_A (gw g ad ln A0 N) s.heap.size) 5) (hr : meth.sig.returnType = some .int)  {A : gM} {s0 : Int32} (h : mX0_faultOfTurning_b77 A s0 = some (A', r)) : gJ p l e R s m args below meth c (gEi below D g N ad ln A0 A' r args s) 8 D g (va_A (gw g ad ln A0 N) s.heap.size) N ad ln A [] 0 0 77 [gi s0] := by
  unfold mX0_faultOfTurning_b77 at h
  obtain ⟨rfl, rfl⟩ := Prod.mk.inj (Option.some.inj h)
  exact g_reti C hr dX0_faultOfTurning_77

set_option maxHeartbeats 2000000 in
set_option maxRecDepth 20000 in
theorem wX0_faultOfTurning_b0 (hN : 183 ≤ N) {A0 A' : gM} {r : Int32} (C : gC p R s m args meth c cX0_faultOfTurning RX0 8 D g (va_A (gw g ad ln A0 N) s.heap.size) 5) (hr : meth.sig.returnType = some .int)  {A : gM} {x2 : Int32} {x3 : Int32} (h : mX0_faultOfTurning_b0 A x2 x3 = some (A', r)) : gJ p l e R s m args below meth c (gEi below D g N ad ln A0 A' r args s) 8 D g (va_A (gw g ad ln A0 N) s.heap.size) N ad ln A [(0, gr 128), (1, gr 43), (2, gi x2), (3, gi x3)] 0 0 0 [] := by
  unfold mX0_faultOfTurning_b0 at h
  refine g_aload_n C 0 dX0_faultOfTurning_0 rfl ?_
  refine g_get (v := gr 129) C 128 0 (by omega) rfl rfl gu_0 (by decide) qf_X0_12 rfl dX0_faultOfTurning_1 ?_
  obtain ⟨q1, eq1, h⟩ := g_bd h
  refine g_callvV C 129 [] (kX4_clear hN eq1) qs_X0_29 (by omega) (by omega) rfl rfl rfl rfl (Nat.le_of_ble_eq_true rfl) ⟨Nat.zero_le _, Nat.zero_le _⟩ dX0_faultOfTurning_4 ?_
  refine g_aload_n C 0 dX0_faultOfTurning_7 rfl ?_
  refine g_aload_n C 1 dX0_faultOfTurning_8 rfl ?_
  refine g_iload_n C 2 dX0_faultOfTurning_9 rfl ?_
  obtain ⟨q2, eq2, h⟩ := g_bd h
  refine g_calliV C 128 [gr 43, gi x2] (kX0_buildRow hN eq2) qs_X0_61 (by omega) (by omega) rfl rfl rfl rfl (Nat.le_of_ble_eq_true rfl) ⟨Nat.zero_le _, Nat.zero_le _⟩ dX0_faultOfTurning_10 ?_
  refine g_istore C dX0_faultOfTurning_13 (by decide) rfl ?_
  refine g_aload_n C 1 dX0_faultOfTurning_15 rfl ?_
  refine g_aload_n C 2 dX0_faultOfTurning_16 rfl ?_
  refine g_iload_n C 4 dX0_faultOfTurning_17 rfl ?_
  obtain ⟨q3, eq3, h⟩ := g_bd h
  refine g_calliV C 128 [gr 43, gi x3] (kX0_buildRow hN eq3) qs_X0_61 (by omega) (by omega) rfl rfl rfl rfl (Nat.le_of_ble_eq_true rfl) ⟨Nat.zero_le _, Nat.zero_le _⟩ dX0_faultOfTurning_18 ?_
  refine g_istore C dX0_faultOfTurning_21 (by decide) rfl ?_
  refine g_aload_n C 2 dX0_faultOfTurning_23 rfl ?_
  refine g_get (v := gr 129) C 128 0 (by omega) rfl rfl gu_0 (by decide) qf_X0_12 rfl dX0_faultOfTurning_24 ?_
  obtain ⟨q4, eq4, h⟩ := g_bd h
  refine g_calliV C 129 [] (kX4_newVariable hN eq4) qs_X0_65 (by omega) (by omega) rfl rfl rfl rfl (Nat.le_of_ble_eq_true rfl) ⟨Nat.zero_le _, Nat.zero_le _⟩ dX0_faultOfTurning_27 ?_
  refine g_istore C dX0_faultOfTurning_30 (by decide) rfl ?_
  refine g_aload_n C 3 dX0_faultOfTurning_32 rfl ?_
  refine g_get (v := gr 129) C 128 0 (by omega) rfl rfl gu_0 (by decide) qf_X0_12 rfl dX0_faultOfTurning_33 ?_
  refine g_iload C 2 dX0_faultOfTurning_36 rfl ?_
  refine g_aload_n C 3 dX0_faultOfTurning_38 rfl ?_
  refine g_get (v := gr 129) C 128 0 (by omega) rfl rfl gu_0 (by decide) qf_X0_12 rfl dX0_faultOfTurning_39 ?_
  refine g_iconst (v := 2) C dX0_faultOfTurning_42 (by decide) ?_
  refine g_iload C 1 dX0_faultOfTurning_43 rfl ?_
  refine g_iload C 0 dX0_faultOfTurning_45 rfl ?_
  obtain ⟨q5, eq5, h⟩ := g_bd h
  refine g_calliV C 129 [gi 2, gi q3.2, gi q4.2] (kX4_make hN eq5) qs_X0_69 (by omega) (by omega) rfl rfl rfl rfl (Nat.le_of_ble_eq_true rfl) ⟨Nat.zero_le _, Nat.zero_le _⟩ dX0_faultOfTurning_47 ?_
  obtain ⟨q6, eq6, h⟩ := g_bd h
  refine g_calliV C 129 [gi q2.2, gi q5.2] (kX4_match hN eq6) qs_X0_73 (by omega) (by omega) rfl rfl rfl rfl (Nat.le_of_ble_eq_true rfl) ⟨Nat.zero_le _, Nat.zero_le _⟩ dX0_faultOfTurning_50 ?_
  refine g_istore C dX0_faultOfTurning_53 (by decide) rfl ?_
  refine g_iload C 0 dX0_faultOfTurning_55 rfl ?_
  refine g_if_eq C dX0_faultOfTurning_57 (tgt := 63) (by decide) (fun c7 => ?_) (fun c7 => ?_)
  · have h := g_tt c7 h
    refine g_aload_n C 4 dX0_faultOfTurning_63 rfl ?_
    refine g_iload C 1 dX0_faultOfTurning_64 rfl ?_
    obtain ⟨q8, eq8, h⟩ := g_bd h
    refine g_calliV C 128 [gi q4.2] (kX0_isTooLong hN eq8) qs_X0_77 (by omega) (by omega) rfl rfl rfl rfl (Nat.le_of_ble_eq_true rfl) ⟨Nat.zero_le _, Nat.zero_le _⟩ dX0_faultOfTurning_66 ?_
    refine g_if_eq C dX0_faultOfTurning_69 (tgt := 76) (by decide) (fun c9 => ?_) (fun c9 => ?_)
    · have h := g_tt c9 h
      refine g_iconst (v := 0) C dX0_faultOfTurning_76 (by decide) ?_
      refine g_sub [] rfl ?_
      exact wX0_faultOfTurning_b77 hN C hr h
    · have h := g_ff c9 h
      refine g_iconst (v := 4) C dX0_faultOfTurning_72 (by decide) ?_
      refine g_goto C dX0_faultOfTurning_73 (tgt := 77) (by decide) ?_
      refine g_sub [] rfl ?_
      exact wX0_faultOfTurning_b77 hN C hr h
  · have h := g_ff c7 h
    refine g_iload C 0 dX0_faultOfTurning_60 rfl ?_
    obtain ⟨rfl, rfl⟩ := Prod.mk.inj (Option.some.inj h)
    exact g_reti C hr dX0_faultOfTurning_62

set_option maxHeartbeats 2000000 in
set_option maxRecDepth 20000 in
theorem kX0_faultOfTurning {l : Launch} {D : va_G} {g : gT} {N : Nat} {ad ln : Nat → Nat} (hN : 183 ≤ N) {A A' : gM} {x2 : Int32} {x3 : Int32} {r : Int32} (h : mX0_faultOfTurning A x2 x3 = some (A', r)) : gKi l yX0_faultOfTurning cX0_faultOfTurning 8 (some .int) (5) D g N ad ln A [gr 128, gr 43, gi x2, gi x3] A' r := by
  refine g_meti (by decide) (Nat.le_of_ble_eq_true rfl) ?_
  intro p e s m args below meth c C hr
  refine g_sub [0, 1, 2, 3] rfl ?_
  exact wX0_faultOfTurning_b0 hN C hr h
def mX0_findWheel_b87 (rec : gM → Int32 → Int32 → Option (gM × Int32)) (A : gM) (s0 : Int32) : Option (gM × Int32) :=
  some (A, s0)
def mX0_findWheel_b0 (rec : gM → Int32 → Int32 → Option (gM × Int32)) (A : gM) (x2 : Int32) (x3 : Int32) : Option (gM × Int32) :=
  (mX4_newVariable A).bind fun q1 =>
  (mX4_codeOfNode q1.1 q1.2).bind fun q2 =>
  if g_in 0 60 = true then g_let (g_up q2.1 182 (0 : Int32).toNatClampNeg q2.2) fun A4 =>
  (mX2_fact A4 x2 4).bind fun q5 =>
  (mX1_put q5.1 q5.2 1).bind fun q6 =>
  (mX2_fact q6 x2 1).bind fun q7 =>
  (rec q7.1 q7.2 (x3 + 1)).bind fun q8 =>
  (mX1_dropLast q8.1).bind fun q9 =>
  if q8.2 = (-1) then
  mX0_findWheel_b87 rec q9 (-1)
  else
  (mX4_make q9 2 q1.2 q8.2).bind fun q11 =>
  mX0_findWheel_b87 rec q11.1 q11.2
  else none
def mX0_findWheel (rec : gM → Int32 → Int32 → Option (gM × Int32)) (A : gM) (x2 : Int32) (x3 : Int32) : Option (gM × Int32) := mX0_findWheel_b0 rec A x2 x3
set_option maxHeartbeats 2000000 in
set_option maxRecDepth 20000 in
theorem wX0_findWheel_b87 (hN : 183 ≤ N) {rec : gM → Int32 → Int32 → Option (gM × Int32)} {fu : Nat} (hrec : ∀ {A A' : gM} {y0 : Int32} {y1 : Int32} {r : Int32}, rec A y0 y1 = some (A', r) → gKi l yX0_find cX0_find 5 (some .int) (20 + 2 * fu) D g N ad ln A [gr 128, gr 1, gi y0, gi y1] A' r) {A0 A' : gM} {r : Int32} (C : gC p R s m args meth c cX0_findWheel RX0 6 D g (va_A (gw g ad ln A0 N) s.heap.size) (20 + 2 * fu + 1)) (hr : meth.sig.returnType = some .int)  {A : gM} {s0 : Int32} (h : mX0_findWheel_b87 rec A s0 = some (A', r)) : gJ p l e R s m args below meth c (gEi below D g N ad ln A0 A' r args s) 6 D g (va_A (gw g ad ln A0 N) s.heap.size) N ad ln A [] 0 0 87 [gi s0] := by
  unfold mX0_findWheel_b87 at h
  obtain ⟨rfl, rfl⟩ := Prod.mk.inj (Option.some.inj h)
  exact g_reti C hr dX0_findWheel_87

set_option maxHeartbeats 2000000 in
set_option maxRecDepth 20000 in
theorem wX0_findWheel_b0 (hN : 183 ≤ N) {rec : gM → Int32 → Int32 → Option (gM × Int32)} {fu : Nat} (hrec : ∀ {A A' : gM} {y0 : Int32} {y1 : Int32} {r : Int32}, rec A y0 y1 = some (A', r) → gKi l yX0_find cX0_find 5 (some .int) (20 + 2 * fu) D g N ad ln A [gr 128, gr 1, gi y0, gi y1] A' r) {A0 A' : gM} {r : Int32} (C : gC p R s m args meth c cX0_findWheel RX0 6 D g (va_A (gw g ad ln A0 N) s.heap.size) (20 + 2 * fu + 1)) (hr : meth.sig.returnType = some .int)  {A : gM} {x2 : Int32} {x3 : Int32} (h : mX0_findWheel_b0 rec A x2 x3 = some (A', r)) : gJ p l e R s m args below meth c (gEi below D g N ad ln A0 A' r args s) 6 D g (va_A (gw g ad ln A0 N) s.heap.size) N ad ln A [(0, gr 128), (1, gr 1), (2, gi x2), (3, gi x3)] 0 0 0 [] := by
  unfold mX0_findWheel_b0 at h
  refine g_aload_n C 0 dX0_findWheel_0 rfl ?_
  refine g_get (v := gr 129) C 128 0 (by omega) rfl rfl gu_0 (by decide) qf_X0_12 rfl dX0_findWheel_1 ?_
  obtain ⟨q1, eq1, h⟩ := g_bd h
  refine g_calliV C 129 [] (kX4_newVariable hN eq1) qs_X0_65 (by omega) (by omega) rfl rfl rfl rfl (Nat.le_of_ble_eq_true rfl) ⟨Nat.zero_le _, Nat.zero_le _⟩ dX0_findWheel_4 ?_
  refine g_istore C dX0_findWheel_7 (by decide) rfl ?_
  refine g_aload_n C 1 dX0_findWheel_9 rfl ?_
  refine g_get (v := gr 182) C 128 2 (by omega) rfl rfl gu_0 (by decide) qf_X0_25 rfl dX0_findWheel_10 ?_
  refine g_iconst (v := 0) C dX0_findWheel_13 (by decide) ?_
  refine g_aload_n C 1 dX0_findWheel_14 rfl ?_
  refine g_get (v := gr 129) C 128 0 (by omega) rfl rfl gu_0 (by decide) qf_X0_12 rfl dX0_findWheel_15 ?_
  refine g_iload C 0 dX0_findWheel_18 rfl ?_
  obtain ⟨q2, eq2, h⟩ := g_bd h
  refine g_calliV C 129 [gi q1.2] (kX4_codeOfNode hN eq2) qs_X0_130 (by omega) (by omega) rfl rfl rfl rfl (Nat.le_of_ble_eq_true rfl) ⟨Nat.zero_le _, Nat.zero_le _⟩ dX0_findWheel_20 ?_
  obtain ⟨hg3, h⟩ := g_gd h
  obtain ⟨A4, eA4, h⟩ := g_lt h
  refine g_iast C 182 (by omega) rfl rfl hg3 eA4 dX0_findWheel_23 ?_
  refine g_aload_n C 1 dX0_findWheel_24 rfl ?_
  refine g_get (v := gr 138) C 128 1 (by omega) rfl rfl gu_0 (by decide) qf_X0_21 rfl dX0_findWheel_25 ?_
  refine g_aload_n C 2 dX0_findWheel_28 rfl ?_
  refine g_iload_n C 3 dX0_findWheel_29 rfl ?_
  refine g_iconst (v := 4) C dX0_findWheel_30 (by decide) ?_
  obtain ⟨q5, eq5, h⟩ := g_bd h
  refine g_calliV C 1 [gi x2, gi 4] (kX2_fact hN eq5) qs_X0_94 (by omega) (by omega) rfl rfl rfl rfl (Nat.le_of_ble_eq_true rfl) ⟨Nat.zero_le _, Nat.zero_le _⟩ dX0_findWheel_31 ?_
  refine g_aload_n C 1 dX0_findWheel_34 rfl ?_
  refine g_get (v := gr 182) C 128 2 (by omega) rfl rfl gu_0 (by decide) qf_X0_25 rfl dX0_findWheel_35 ?_
  refine g_iconst (v := 1) C dX0_findWheel_38 (by decide) ?_
  obtain ⟨q6, eq6, h⟩ := g_bd h
  refine g_callvV C 138 [gi q5.2, gr 182, gi 1] (kX1_put hN eq6) qs_X0_133 (by omega) (by omega) rfl rfl rfl rfl (Nat.le_of_ble_eq_true rfl) ⟨Nat.zero_le _, Nat.zero_le _⟩ dX0_findWheel_39 ?_
  refine g_aload_n C 1 dX0_findWheel_42 rfl ?_
  refine g_aload_n C 2 dX0_findWheel_43 rfl ?_
  refine g_aload_n C 2 dX0_findWheel_44 rfl ?_
  refine g_iload_n C 3 dX0_findWheel_45 rfl ?_
  refine g_iconst (v := 1) C dX0_findWheel_46 (by decide) ?_
  obtain ⟨q7, eq7, h⟩ := g_bd h
  refine g_calliV C 1 [gi x2, gi 1] (kX2_fact hN eq7) qs_X0_94 (by omega) (by omega) rfl rfl rfl rfl (Nat.le_of_ble_eq_true rfl) ⟨Nat.zero_le _, Nat.zero_le _⟩ dX0_findWheel_47 ?_
  refine g_iload_n C 4 dX0_findWheel_50 rfl ?_
  refine g_iconst (v := 1) C dX0_findWheel_51 (by decide) ?_
  refine g_iadd C dX0_findWheel_52 ?_
  obtain ⟨q8, eq8, h⟩ := g_bd h
  refine g_calliV C 128 [gr 1, gi q7.2, gi (x3 + 1)] (hrec eq8) qs_X0_40 (by omega) (by omega) rfl rfl rfl rfl (Nat.le_of_ble_eq_true rfl) ⟨Nat.zero_le _, Nat.zero_le _⟩ dX0_findWheel_53 ?_
  refine g_istore C dX0_findWheel_56 (by decide) rfl ?_
  refine g_aload_n C 2 dX0_findWheel_58 rfl ?_
  refine g_get (v := gr 138) C 128 1 (by omega) rfl rfl gu_0 (by decide) qf_X0_21 rfl dX0_findWheel_59 ?_
  obtain ⟨q9, eq9, h⟩ := g_bd h
  refine g_callvV C 138 [] (kX1_dropLast hN eq9) qs_X0_136 (by omega) (by omega) rfl rfl rfl rfl (Nat.le_of_ble_eq_true rfl) ⟨Nat.zero_le _, Nat.zero_le _⟩ dX0_findWheel_62 ?_
  refine g_iload C 0 dX0_findWheel_65 rfl ?_
  refine g_iconst (v := (-1)) C dX0_findWheel_67 (by decide) ?_
  refine g_icmp_ne C dX0_findWheel_68 (tgt := 75) (by decide) (fun c10 => ?_) (fun c10 => ?_)
  · have h := g_ff c10 h
    refine g_aload_n C 2 dX0_findWheel_75 rfl ?_
    refine g_get (v := gr 129) C 128 0 (by omega) rfl rfl gu_0 (by decide) qf_X0_12 rfl dX0_findWheel_76 ?_
    refine g_iconst (v := 2) C dX0_findWheel_79 (by decide) ?_
    refine g_iload C 1 dX0_findWheel_80 rfl ?_
    refine g_iload C 0 dX0_findWheel_82 rfl ?_
    obtain ⟨q11, eq11, h⟩ := g_bd h
    refine g_calliV C 129 [gi 2, gi q1.2, gi q8.2] (kX4_make hN eq11) qs_X0_69 (by omega) (by omega) rfl rfl rfl rfl (Nat.le_of_ble_eq_true rfl) ⟨Nat.zero_le _, Nat.zero_le _⟩ dX0_findWheel_84 ?_
    refine g_sub [] rfl ?_
    exact wX0_findWheel_b87 hN hrec C hr h
  · have h := g_tt c10 h
    refine g_iconst (v := (-1)) C dX0_findWheel_71 (by decide) ?_
    refine g_goto C dX0_findWheel_72 (tgt := 87) (by decide) ?_
    refine g_sub [] rfl ?_
    exact wX0_findWheel_b87 hN hrec C hr h

set_option maxHeartbeats 2000000 in
set_option maxRecDepth 20000 in
theorem kX0_findWheel {l : Launch} {D : va_G} {g : gT} {N : Nat} {ad ln : Nat → Nat} (hN : 183 ≤ N) {rec : gM → Int32 → Int32 → Option (gM × Int32)} {fu : Nat} (hrec : ∀ {A A' : gM} {y0 : Int32} {y1 : Int32} {r : Int32}, rec A y0 y1 = some (A', r) → gKi l yX0_find cX0_find 5 (some .int) (20 + 2 * fu) D g N ad ln A [gr 128, gr 1, gi y0, gi y1] A' r) {A A' : gM} {x2 : Int32} {x3 : Int32} {r : Int32} (h : mX0_findWheel rec A x2 x3 = some (A', r)) : gKi l yX0_findWheel cX0_findWheel 6 (some .int) ((20 + 2 * fu + 1)) D g N ad ln A [gr 128, gr 1, gi x2, gi x3] A' r := by
  refine g_meti (by decide) (Nat.le_of_ble_eq_true rfl) ?_
  intro p e s m args below meth c C hr
  refine g_sub [0, 1, 2, 3] rfl ?_
  exact wX0_findWheel_b0 hN hrec C hr h
def mX0_findTurning_b97 (rec : gM → Int32 → Int32 → Option (gM × Int32)) (A : gM) (s0 : Int32) : Option (gM × Int32) :=
  some (A, s0)
def mX0_findTurning_b0 (rec : gM → Int32 → Int32 → Option (gM × Int32)) (A : gM) (x2 : Int32) (x3 : Int32) : Option (gM × Int32) :=
  (mX2_fact A x2 1).bind fun q1 =>
  (rec q1.1 q1.2 (x3 + 1)).bind fun q2 =>
  if q2.2 = (-1) then
  some (q2.1, (-1))
  else
  (mX2_fact q2.1 x2 2).bind fun q4 =>
  (rec q4.1 q4.2 (x3 + 1)).bind fun q5 =>
  if q5.2 = (-1) then
  some (q5.1, (-1))
  else
  (mX4_newVariable q5.1).bind fun q7 =>
  (mX4_make q7.1 2 q5.2 q7.2).bind fun q8 =>
  (mX4_match q8.1 q2.2 q8.2).bind fun q9 =>
  if q9.2 = 0 then
  mX0_findTurning_b97 rec q9.1 q7.2
  else
  (mX0_fail q9.1 q9.2 x2).bind fun q11 =>
  mX0_findTurning_b97 rec q11.1 q11.2
def mX0_findTurning (rec : gM → Int32 → Int32 → Option (gM × Int32)) (A : gM) (x2 : Int32) (x3 : Int32) : Option (gM × Int32) := mX0_findTurning_b0 rec A x2 x3
set_option maxHeartbeats 2000000 in
set_option maxRecDepth 20000 in
theorem wX0_findTurning_b97 (hN : 183 ≤ N) {rec : gM → Int32 → Int32 → Option (gM × Int32)} {fu : Nat} (hrec : ∀ {A A' : gM} {y0 : Int32} {y1 : Int32} {r : Int32}, rec A y0 y1 = some (A', r) → gKi l yX0_find cX0_find 5 (some .int) (20 + 2 * fu) D g N ad ln A [gr 128, gr 1, gi y0, gi y1] A' r) {A0 A' : gM} {r : Int32} (C : gC p R s m args meth c cX0_findTurning RX0 8 D g (va_A (gw g ad ln A0 N) s.heap.size) (20 + 2 * fu + 1)) (hr : meth.sig.returnType = some .int)  {A : gM} {s0 : Int32} (h : mX0_findTurning_b97 rec A s0 = some (A', r)) : gJ p l e R s m args below meth c (gEi below D g N ad ln A0 A' r args s) 8 D g (va_A (gw g ad ln A0 N) s.heap.size) N ad ln A [] 0 0 97 [gi s0] := by
  unfold mX0_findTurning_b97 at h
  obtain ⟨rfl, rfl⟩ := Prod.mk.inj (Option.some.inj h)
  exact g_reti C hr dX0_findTurning_97

set_option maxHeartbeats 2000000 in
set_option maxRecDepth 20000 in
theorem wX0_findTurning_b0 (hN : 183 ≤ N) {rec : gM → Int32 → Int32 → Option (gM × Int32)} {fu : Nat} (hrec : ∀ {A A' : gM} {y0 : Int32} {y1 : Int32} {r : Int32}, rec A y0 y1 = some (A', r) → gKi l yX0_find cX0_find 5 (some .int) (20 + 2 * fu) D g N ad ln A [gr 128, gr 1, gi y0, gi y1] A' r) {A0 A' : gM} {r : Int32} (C : gC p R s m args meth c cX0_findTurning RX0 8 D g (va_A (gw g ad ln A0 N) s.heap.size) (20 + 2 * fu + 1)) (hr : meth.sig.returnType = some .int)  {A : gM} {x2 : Int32} {x3 : Int32} (h : mX0_findTurning_b0 rec A x2 x3 = some (A', r)) : gJ p l e R s m args below meth c (gEi below D g N ad ln A0 A' r args s) 8 D g (va_A (gw g ad ln A0 N) s.heap.size) N ad ln A [(0, gr 128), (1, gr 1), (2, gi x2), (3, gi x3)] 0 0 0 [] := by
  unfold mX0_findTurning_b0 at h
  refine g_aload_n C 0 dX0_findTurning_0 rfl ?_
  refine g_aload_n C 1 dX0_findTurning_1 rfl ?_
  refine g_aload_n C 1 dX0_findTurning_2 rfl ?_
  refine g_iload_n C 2 dX0_findTurning_3 rfl ?_
  refine g_iconst (v := 1) C dX0_findTurning_4 (by decide) ?_
  obtain ⟨q1, eq1, h⟩ := g_bd h
  refine g_calliV C 1 [gi x2, gi 1] (kX2_fact hN eq1) qs_X0_94 (by omega) (by omega) rfl rfl rfl rfl (Nat.le_of_ble_eq_true rfl) ⟨Nat.zero_le _, Nat.zero_le _⟩ dX0_findTurning_5 ?_
  refine g_iload_n C 3 dX0_findTurning_8 rfl ?_
  refine g_iconst (v := 1) C dX0_findTurning_9 (by decide) ?_
  refine g_iadd C dX0_findTurning_10 ?_
  obtain ⟨q2, eq2, h⟩ := g_bd h
  refine g_calliV C 128 [gr 1, gi q1.2, gi (x3 + 1)] (hrec eq2) qs_X0_40 (by omega) (by omega) rfl rfl rfl rfl (Nat.le_of_ble_eq_true rfl) ⟨Nat.zero_le _, Nat.zero_le _⟩ dX0_findTurning_11 ?_
  refine g_istore C dX0_findTurning_14 (by decide) rfl ?_
  refine g_iload C 0 dX0_findTurning_16 rfl ?_
  refine g_iconst (v := (-1)) C dX0_findTurning_18 (by decide) ?_
  refine g_icmp_ne C dX0_findTurning_19 (tgt := 24) (by decide) (fun c3 => ?_) (fun c3 => ?_)
  · have h := g_ff c3 h
    refine g_aload_n C 1 dX0_findTurning_24 rfl ?_
    refine g_aload_n C 2 dX0_findTurning_25 rfl ?_
    refine g_aload_n C 2 dX0_findTurning_26 rfl ?_
    refine g_iload_n C 3 dX0_findTurning_27 rfl ?_
    refine g_iconst (v := 2) C dX0_findTurning_28 (by decide) ?_
    obtain ⟨q4, eq4, h⟩ := g_bd h
    refine g_calliV C 1 [gi x2, gi 2] (kX2_fact hN eq4) qs_X0_94 (by omega) (by omega) rfl rfl rfl rfl (Nat.le_of_ble_eq_true rfl) ⟨Nat.zero_le _, Nat.zero_le _⟩ dX0_findTurning_29 ?_
    refine g_iload_n C 4 dX0_findTurning_32 rfl ?_
    refine g_iconst (v := 1) C dX0_findTurning_33 (by decide) ?_
    refine g_iadd C dX0_findTurning_34 ?_
    obtain ⟨q5, eq5, h⟩ := g_bd h
    refine g_calliV C 128 [gr 1, gi q4.2, gi (x3 + 1)] (hrec eq5) qs_X0_40 (by omega) (by omega) rfl rfl rfl rfl (Nat.le_of_ble_eq_true rfl) ⟨Nat.zero_le _, Nat.zero_le _⟩ dX0_findTurning_35 ?_
    refine g_istore C dX0_findTurning_38 (by decide) rfl ?_
    refine g_iload C 0 dX0_findTurning_40 rfl ?_
    refine g_iconst (v := (-1)) C dX0_findTurning_42 (by decide) ?_
    refine g_icmp_ne C dX0_findTurning_43 (tgt := 48) (by decide) (fun c6 => ?_) (fun c6 => ?_)
    · have h := g_ff c6 h
      refine g_aload_n C 2 dX0_findTurning_48 rfl ?_
      refine g_get (v := gr 129) C 128 0 (by omega) rfl rfl gu_0 (by decide) qf_X0_12 rfl dX0_findTurning_49 ?_
      obtain ⟨q7, eq7, h⟩ := g_bd h
      refine g_calliV C 129 [] (kX4_newVariable hN eq7) qs_X0_65 (by omega) (by omega) rfl rfl rfl rfl (Nat.le_of_ble_eq_true rfl) ⟨Nat.zero_le _, Nat.zero_le _⟩ dX0_findTurning_52 ?_
      refine g_istore C dX0_findTurning_55 (by decide) rfl ?_
      refine g_aload_n C 3 dX0_findTurning_57 rfl ?_
      refine g_get (v := gr 129) C 128 0 (by omega) rfl rfl gu_0 (by decide) qf_X0_12 rfl dX0_findTurning_58 ?_
      refine g_iload C 2 dX0_findTurning_61 rfl ?_
      refine g_aload_n C 3 dX0_findTurning_63 rfl ?_
      refine g_get (v := gr 129) C 128 0 (by omega) rfl rfl gu_0 (by decide) qf_X0_12 rfl dX0_findTurning_64 ?_
      refine g_iconst (v := 2) C dX0_findTurning_67 (by decide) ?_
      refine g_iload C 1 dX0_findTurning_68 rfl ?_
      refine g_iload C 0 dX0_findTurning_70 rfl ?_
      obtain ⟨q8, eq8, h⟩ := g_bd h
      refine g_calliV C 129 [gi 2, gi q5.2, gi q7.2] (kX4_make hN eq8) qs_X0_69 (by omega) (by omega) rfl rfl rfl rfl (Nat.le_of_ble_eq_true rfl) ⟨Nat.zero_le _, Nat.zero_le _⟩ dX0_findTurning_72 ?_
      obtain ⟨q9, eq9, h⟩ := g_bd h
      refine g_calliV C 129 [gi q2.2, gi q8.2] (kX4_match hN eq9) qs_X0_73 (by omega) (by omega) rfl rfl rfl rfl (Nat.le_of_ble_eq_true rfl) ⟨Nat.zero_le _, Nat.zero_le _⟩ dX0_findTurning_75 ?_
      refine g_istore C dX0_findTurning_78 (by decide) rfl ?_
      refine g_iload C 0 dX0_findTurning_80 rfl ?_
      refine g_if_ne C dX0_findTurning_82 (tgt := 90) (by decide) (fun c10 => ?_) (fun c10 => ?_)
      · have h := g_ff c10 h
        refine g_aload_n C 4 dX0_findTurning_90 rfl ?_
        refine g_iload C 0 dX0_findTurning_91 rfl ?_
        refine g_iload_n C 6 dX0_findTurning_93 rfl ?_
        obtain ⟨q11, eq11, h⟩ := g_bd h
        refine g_calliV C 128 [gi q9.2, gi x2] (kX0_fail hN eq11) qs_X0_91 (by omega) (by omega) rfl rfl rfl rfl (Nat.le_of_ble_eq_true rfl) ⟨Nat.zero_le _, Nat.zero_le _⟩ dX0_findTurning_94 ?_
        refine g_sub [] rfl ?_
        exact wX0_findTurning_b97 hN hrec C hr h
      · have h := g_tt c10 h
        refine g_iload C 1 dX0_findTurning_85 rfl ?_
        refine g_goto C dX0_findTurning_87 (tgt := 97) (by decide) ?_
        refine g_sub [] rfl ?_
        exact wX0_findTurning_b97 hN hrec C hr h
    · have h := g_tt c6 h
      refine g_iconst (v := (-1)) C dX0_findTurning_46 (by decide) ?_
      obtain ⟨rfl, rfl⟩ := Prod.mk.inj (Option.some.inj h)
      exact g_reti C hr dX0_findTurning_47
  · have h := g_tt c3 h
    refine g_iconst (v := (-1)) C dX0_findTurning_22 (by decide) ?_
    obtain ⟨rfl, rfl⟩ := Prod.mk.inj (Option.some.inj h)
    exact g_reti C hr dX0_findTurning_23

set_option maxHeartbeats 2000000 in
set_option maxRecDepth 20000 in
theorem kX0_findTurning {l : Launch} {D : va_G} {g : gT} {N : Nat} {ad ln : Nat → Nat} (hN : 183 ≤ N) {rec : gM → Int32 → Int32 → Option (gM × Int32)} {fu : Nat} (hrec : ∀ {A A' : gM} {y0 : Int32} {y1 : Int32} {r : Int32}, rec A y0 y1 = some (A', r) → gKi l yX0_find cX0_find 5 (some .int) (20 + 2 * fu) D g N ad ln A [gr 128, gr 1, gi y0, gi y1] A' r) {A A' : gM} {x2 : Int32} {x3 : Int32} {r : Int32} (h : mX0_findTurning rec A x2 x3 = some (A', r)) : gKi l yX0_findTurning cX0_findTurning 8 (some .int) ((20 + 2 * fu + 1)) D g N ad ln A [gr 128, gr 1, gi x2, gi x3] A' r := by
  refine g_meti (by decide) (Nat.le_of_ble_eq_true rfl) ?_
  intro p e s m args below meth c C hr
  refine g_sub [0, 1, 2, 3] rfl ?_
  exact wX0_findTurning_b0 hN hrec C hr h
def mX0_findTelling_b0 (rec : gM → Int32 → Int32 → Option (gM × Int32)) (A : gM) (x2 : Int32) (x3 : Int32) : Option (gM × Int32) :=
  (mX2_fact A x2 1).bind fun q1 =>
  (rec q1.1 q1.2 (x3 + 1)).bind fun q2 =>
  if q2.2 = (-1) then
  some (q2.1, (-1))
  else
  (mX1_markAll q2.1).bind fun q4 =>
  (mX4_write q4 q2.2).bind fun q5 =>
  (mX2_fact q5.1 x2 4).bind fun q6 =>
  (mX1_put q6.1 q6.2 q5.2).bind fun q7 =>
  (mX2_fact q7 x2 2).bind fun q8 =>
  (rec q8.1 q8.2 (x3 + 1)).bind fun q9 =>
  (mX1_dropLast q9.1).bind fun q10 =>
  some (q10, q9.2)
def mX0_findTelling (rec : gM → Int32 → Int32 → Option (gM × Int32)) (A : gM) (x2 : Int32) (x3 : Int32) : Option (gM × Int32) := mX0_findTelling_b0 rec A x2 x3
set_option maxHeartbeats 2000000 in
set_option maxRecDepth 20000 in
theorem wX0_findTelling_b0 (hN : 183 ≤ N) {rec : gM → Int32 → Int32 → Option (gM × Int32)} {fu : Nat} (hrec : ∀ {A A' : gM} {y0 : Int32} {y1 : Int32} {r : Int32}, rec A y0 y1 = some (A', r) → gKi l yX0_find cX0_find 5 (some .int) (20 + 2 * fu) D g N ad ln A [gr 128, gr 1, gi y0, gi y1] A' r) {A0 A' : gM} {r : Int32} (C : gC p R s m args meth c cX0_findTelling RX0 7 D g (va_A (gw g ad ln A0 N) s.heap.size) (20 + 2 * fu + 1)) (hr : meth.sig.returnType = some .int)  {A : gM} {x2 : Int32} {x3 : Int32} (h : mX0_findTelling_b0 rec A x2 x3 = some (A', r)) : gJ p l e R s m args below meth c (gEi below D g N ad ln A0 A' r args s) 7 D g (va_A (gw g ad ln A0 N) s.heap.size) N ad ln A [(0, gr 128), (1, gr 1), (2, gi x2), (3, gi x3)] 0 0 0 [] := by
  unfold mX0_findTelling_b0 at h
  refine g_aload_n C 0 dX0_findTelling_0 rfl ?_
  refine g_aload_n C 1 dX0_findTelling_1 rfl ?_
  refine g_aload_n C 1 dX0_findTelling_2 rfl ?_
  refine g_iload_n C 2 dX0_findTelling_3 rfl ?_
  refine g_iconst (v := 1) C dX0_findTelling_4 (by decide) ?_
  obtain ⟨q1, eq1, h⟩ := g_bd h
  refine g_calliV C 1 [gi x2, gi 1] (kX2_fact hN eq1) qs_X0_94 (by omega) (by omega) rfl rfl rfl rfl (Nat.le_of_ble_eq_true rfl) ⟨Nat.zero_le _, Nat.zero_le _⟩ dX0_findTelling_5 ?_
  refine g_iload_n C 3 dX0_findTelling_8 rfl ?_
  refine g_iconst (v := 1) C dX0_findTelling_9 (by decide) ?_
  refine g_iadd C dX0_findTelling_10 ?_
  obtain ⟨q2, eq2, h⟩ := g_bd h
  refine g_calliV C 128 [gr 1, gi q1.2, gi (x3 + 1)] (hrec eq2) qs_X0_40 (by omega) (by omega) rfl rfl rfl rfl (Nat.le_of_ble_eq_true rfl) ⟨Nat.zero_le _, Nat.zero_le _⟩ dX0_findTelling_11 ?_
  refine g_istore C dX0_findTelling_14 (by decide) rfl ?_
  refine g_iload C 0 dX0_findTelling_16 rfl ?_
  refine g_iconst (v := (-1)) C dX0_findTelling_18 (by decide) ?_
  refine g_icmp_ne C dX0_findTelling_19 (tgt := 24) (by decide) (fun c3 => ?_) (fun c3 => ?_)
  · have h := g_ff c3 h
    refine g_aload_n C 1 dX0_findTelling_24 rfl ?_
    refine g_get (v := gr 138) C 128 1 (by omega) rfl rfl gu_0 (by decide) qf_X0_21 rfl dX0_findTelling_25 ?_
    refine g_aload_n C 1 dX0_findTelling_28 rfl ?_
    refine g_get (v := gr 129) C 128 0 (by omega) rfl rfl gu_0 (by decide) qf_X0_12 rfl dX0_findTelling_29 ?_
    obtain ⟨q4, eq4, h⟩ := g_bd h
    refine g_callvV C 138 [gr 129] (kX1_markAll hN eq4) qs_X0_139 (by omega) (by omega) rfl rfl rfl rfl (Nat.le_of_ble_eq_true rfl) ⟨Nat.zero_le _, Nat.zero_le _⟩ dX0_findTelling_32 ?_
    refine g_aload_n C 1 dX0_findTelling_35 rfl ?_
    refine g_get (v := gr 129) C 128 0 (by omega) rfl rfl gu_0 (by decide) qf_X0_12 rfl dX0_findTelling_36 ?_
    refine g_iload C 0 dX0_findTelling_39 rfl ?_
    refine g_aload_n C 1 dX0_findTelling_41 rfl ?_
    refine g_get (v := gr 182) C 128 2 (by omega) rfl rfl gu_0 (by decide) qf_X0_25 rfl dX0_findTelling_42 ?_
    obtain ⟨q5, eq5, h⟩ := g_bd h
    refine g_calliV C 129 [gi q2.2, gr 182] (kX4_write hN eq5) qs_X0_53 (by omega) (by omega) rfl rfl rfl rfl (Nat.le_of_ble_eq_true rfl) ⟨Nat.zero_le _, Nat.zero_le _⟩ dX0_findTelling_45 ?_
    refine g_istore C dX0_findTelling_48 (by decide) rfl ?_
    refine g_aload_n C 2 dX0_findTelling_50 rfl ?_
    refine g_get (v := gr 138) C 128 1 (by omega) rfl rfl gu_0 (by decide) qf_X0_21 rfl dX0_findTelling_51 ?_
    refine g_aload_n C 3 dX0_findTelling_54 rfl ?_
    refine g_iload_n C 4 dX0_findTelling_55 rfl ?_
    refine g_iconst (v := 4) C dX0_findTelling_56 (by decide) ?_
    obtain ⟨q6, eq6, h⟩ := g_bd h
    refine g_calliV C 1 [gi x2, gi 4] (kX2_fact hN eq6) qs_X0_94 (by omega) (by omega) rfl rfl rfl rfl (Nat.le_of_ble_eq_true rfl) ⟨Nat.zero_le _, Nat.zero_le _⟩ dX0_findTelling_57 ?_
    refine g_aload_n C 2 dX0_findTelling_60 rfl ?_
    refine g_get (v := gr 182) C 128 2 (by omega) rfl rfl gu_0 (by decide) qf_X0_25 rfl dX0_findTelling_61 ?_
    refine g_iload C 0 dX0_findTelling_64 rfl ?_
    obtain ⟨q7, eq7, h⟩ := g_bd h
    refine g_callvV C 138 [gi q6.2, gr 182, gi q5.2] (kX1_put hN eq7) qs_X0_133 (by omega) (by omega) rfl rfl rfl rfl (Nat.le_of_ble_eq_true rfl) ⟨Nat.zero_le _, Nat.zero_le _⟩ dX0_findTelling_66 ?_
    refine g_aload_n C 2 dX0_findTelling_69 rfl ?_
    refine g_aload_n C 3 dX0_findTelling_70 rfl ?_
    refine g_aload_n C 3 dX0_findTelling_71 rfl ?_
    refine g_iload_n C 4 dX0_findTelling_72 rfl ?_
    refine g_iconst (v := 2) C dX0_findTelling_73 (by decide) ?_
    obtain ⟨q8, eq8, h⟩ := g_bd h
    refine g_calliV C 1 [gi x2, gi 2] (kX2_fact hN eq8) qs_X0_94 (by omega) (by omega) rfl rfl rfl rfl (Nat.le_of_ble_eq_true rfl) ⟨Nat.zero_le _, Nat.zero_le _⟩ dX0_findTelling_74 ?_
    refine g_iload_n C 5 dX0_findTelling_77 rfl ?_
    refine g_iconst (v := 1) C dX0_findTelling_78 (by decide) ?_
    refine g_iadd C dX0_findTelling_79 ?_
    obtain ⟨q9, eq9, h⟩ := g_bd h
    refine g_calliV C 128 [gr 1, gi q8.2, gi (x3 + 1)] (hrec eq9) qs_X0_40 (by omega) (by omega) rfl rfl rfl rfl (Nat.le_of_ble_eq_true rfl) ⟨Nat.zero_le _, Nat.zero_le _⟩ dX0_findTelling_80 ?_
    refine g_istore C dX0_findTelling_83 (by decide) rfl ?_
    refine g_aload_n C 3 dX0_findTelling_85 rfl ?_
    refine g_get (v := gr 138) C 128 1 (by omega) rfl rfl gu_0 (by decide) qf_X0_21 rfl dX0_findTelling_86 ?_
    obtain ⟨q10, eq10, h⟩ := g_bd h
    refine g_callvV C 138 [] (kX1_dropLast hN eq10) qs_X0_136 (by omega) (by omega) rfl rfl rfl rfl (Nat.le_of_ble_eq_true rfl) ⟨Nat.zero_le _, Nat.zero_le _⟩ dX0_findTelling_89 ?_
    refine g_iload C 0 dX0_findTelling_92 rfl ?_
    obtain ⟨rfl, rfl⟩ := Prod.mk.inj (Option.some.inj h)
    exact g_reti C hr dX0_findTelling_94
  · have h := g_tt c3 h
    refine g_iconst (v := (-1)) C dX0_findTelling_22 (by decide) ?_
    obtain ⟨rfl, rfl⟩ := Prod.mk.inj (Option.some.inj h)
    exact g_reti C hr dX0_findTelling_23

set_option maxHeartbeats 2000000 in
set_option maxRecDepth 20000 in
theorem kX0_findTelling {l : Launch} {D : va_G} {g : gT} {N : Nat} {ad ln : Nat → Nat} (hN : 183 ≤ N) {rec : gM → Int32 → Int32 → Option (gM × Int32)} {fu : Nat} (hrec : ∀ {A A' : gM} {y0 : Int32} {y1 : Int32} {r : Int32}, rec A y0 y1 = some (A', r) → gKi l yX0_find cX0_find 5 (some .int) (20 + 2 * fu) D g N ad ln A [gr 128, gr 1, gi y0, gi y1] A' r) {A A' : gM} {x2 : Int32} {x3 : Int32} {r : Int32} (h : mX0_findTelling rec A x2 x3 = some (A', r)) : gKi l yX0_findTelling cX0_findTelling 7 (some .int) ((20 + 2 * fu + 1)) D g N ad ln A [gr 128, gr 1, gi x2, gi x3] A' r := by
  refine g_meti (by decide) (Nat.le_of_ble_eq_true rfl) ?_
  intro p e s m args below meth c C hr
  refine g_sub [0, 1, 2, 3] rfl ?_
  exact wX0_findTelling_b0 hN hrec C hr h
def mX0_findAxle_b62 (rec : gM → Int32 → Int32 → Option (gM × Int32)) (A : gM) (s0 : Int32) : Option (gM × Int32) :=
  some (A, s0)
def mX0_findAxle_b0 (rec : gM → Int32 → Int32 → Option (gM × Int32)) (A : gM) (x2 : Int32) (x3 : Int32) : Option (gM × Int32) :=
  (mX2_fact A x2 1).bind fun q1 =>
  (rec q1.1 q1.2 (x3 + 1)).bind fun q2 =>
  if q2.2 = (-1) then
  some (q2.1, (-1))
  else
  (mX2_fact q2.1 x2 2).bind fun q4 =>
  (rec q4.1 q4.2 (x3 + 1)).bind fun q5 =>
  if q5.2 = (-1) then
  mX0_findAxle_b62 rec q5.1 (-1)
  else
  (mX4_make q5.1 3 q2.2 q5.2).bind fun q7 =>
  mX0_findAxle_b62 rec q7.1 q7.2
def mX0_findAxle (rec : gM → Int32 → Int32 → Option (gM × Int32)) (A : gM) (x2 : Int32) (x3 : Int32) : Option (gM × Int32) := mX0_findAxle_b0 rec A x2 x3
set_option maxHeartbeats 2000000 in
set_option maxRecDepth 20000 in
theorem wX0_findAxle_b62 (hN : 183 ≤ N) {rec : gM → Int32 → Int32 → Option (gM × Int32)} {fu : Nat} (hrec : ∀ {A A' : gM} {y0 : Int32} {y1 : Int32} {r : Int32}, rec A y0 y1 = some (A', r) → gKi l yX0_find cX0_find 5 (some .int) (20 + 2 * fu) D g N ad ln A [gr 128, gr 1, gi y0, gi y1] A' r) {A0 A' : gM} {r : Int32} (C : gC p R s m args meth c cX0_findAxle RX0 6 D g (va_A (gw g ad ln A0 N) s.heap.size) (20 + 2 * fu + 1)) (hr : meth.sig.returnType = some .int)  {A : gM} {s0 : Int32} (h : mX0_findAxle_b62 rec A s0 = some (A', r)) : gJ p l e R s m args below meth c (gEi below D g N ad ln A0 A' r args s) 6 D g (va_A (gw g ad ln A0 N) s.heap.size) N ad ln A [] 0 0 62 [gi s0] := by
  unfold mX0_findAxle_b62 at h
  obtain ⟨rfl, rfl⟩ := Prod.mk.inj (Option.some.inj h)
  exact g_reti C hr dX0_findAxle_62

set_option maxHeartbeats 2000000 in
set_option maxRecDepth 20000 in
theorem wX0_findAxle_b0 (hN : 183 ≤ N) {rec : gM → Int32 → Int32 → Option (gM × Int32)} {fu : Nat} (hrec : ∀ {A A' : gM} {y0 : Int32} {y1 : Int32} {r : Int32}, rec A y0 y1 = some (A', r) → gKi l yX0_find cX0_find 5 (some .int) (20 + 2 * fu) D g N ad ln A [gr 128, gr 1, gi y0, gi y1] A' r) {A0 A' : gM} {r : Int32} (C : gC p R s m args meth c cX0_findAxle RX0 6 D g (va_A (gw g ad ln A0 N) s.heap.size) (20 + 2 * fu + 1)) (hr : meth.sig.returnType = some .int)  {A : gM} {x2 : Int32} {x3 : Int32} (h : mX0_findAxle_b0 rec A x2 x3 = some (A', r)) : gJ p l e R s m args below meth c (gEi below D g N ad ln A0 A' r args s) 6 D g (va_A (gw g ad ln A0 N) s.heap.size) N ad ln A [(0, gr 128), (1, gr 1), (2, gi x2), (3, gi x3)] 0 0 0 [] := by
  unfold mX0_findAxle_b0 at h
  refine g_aload_n C 0 dX0_findAxle_0 rfl ?_
  refine g_aload_n C 1 dX0_findAxle_1 rfl ?_
  refine g_aload_n C 1 dX0_findAxle_2 rfl ?_
  refine g_iload_n C 2 dX0_findAxle_3 rfl ?_
  refine g_iconst (v := 1) C dX0_findAxle_4 (by decide) ?_
  obtain ⟨q1, eq1, h⟩ := g_bd h
  refine g_calliV C 1 [gi x2, gi 1] (kX2_fact hN eq1) qs_X0_94 (by omega) (by omega) rfl rfl rfl rfl (Nat.le_of_ble_eq_true rfl) ⟨Nat.zero_le _, Nat.zero_le _⟩ dX0_findAxle_5 ?_
  refine g_iload_n C 3 dX0_findAxle_8 rfl ?_
  refine g_iconst (v := 1) C dX0_findAxle_9 (by decide) ?_
  refine g_iadd C dX0_findAxle_10 ?_
  obtain ⟨q2, eq2, h⟩ := g_bd h
  refine g_calliV C 128 [gr 1, gi q1.2, gi (x3 + 1)] (hrec eq2) qs_X0_40 (by omega) (by omega) rfl rfl rfl rfl (Nat.le_of_ble_eq_true rfl) ⟨Nat.zero_le _, Nat.zero_le _⟩ dX0_findAxle_11 ?_
  refine g_istore C dX0_findAxle_14 (by decide) rfl ?_
  refine g_iload C 0 dX0_findAxle_16 rfl ?_
  refine g_iconst (v := (-1)) C dX0_findAxle_18 (by decide) ?_
  refine g_icmp_ne C dX0_findAxle_19 (tgt := 24) (by decide) (fun c3 => ?_) (fun c3 => ?_)
  · have h := g_ff c3 h
    refine g_aload_n C 1 dX0_findAxle_24 rfl ?_
    refine g_aload_n C 2 dX0_findAxle_25 rfl ?_
    refine g_aload_n C 2 dX0_findAxle_26 rfl ?_
    refine g_iload_n C 3 dX0_findAxle_27 rfl ?_
    refine g_iconst (v := 2) C dX0_findAxle_28 (by decide) ?_
    obtain ⟨q4, eq4, h⟩ := g_bd h
    refine g_calliV C 1 [gi x2, gi 2] (kX2_fact hN eq4) qs_X0_94 (by omega) (by omega) rfl rfl rfl rfl (Nat.le_of_ble_eq_true rfl) ⟨Nat.zero_le _, Nat.zero_le _⟩ dX0_findAxle_29 ?_
    refine g_iload_n C 4 dX0_findAxle_32 rfl ?_
    refine g_iconst (v := 1) C dX0_findAxle_33 (by decide) ?_
    refine g_iadd C dX0_findAxle_34 ?_
    obtain ⟨q5, eq5, h⟩ := g_bd h
    refine g_calliV C 128 [gr 1, gi q4.2, gi (x3 + 1)] (hrec eq5) qs_X0_40 (by omega) (by omega) rfl rfl rfl rfl (Nat.le_of_ble_eq_true rfl) ⟨Nat.zero_le _, Nat.zero_le _⟩ dX0_findAxle_35 ?_
    refine g_istore C dX0_findAxle_38 (by decide) rfl ?_
    refine g_iload C 0 dX0_findAxle_40 rfl ?_
    refine g_iconst (v := (-1)) C dX0_findAxle_42 (by decide) ?_
    refine g_icmp_ne C dX0_findAxle_43 (tgt := 50) (by decide) (fun c6 => ?_) (fun c6 => ?_)
    · have h := g_ff c6 h
      refine g_aload_n C 2 dX0_findAxle_50 rfl ?_
      refine g_get (v := gr 129) C 128 0 (by omega) rfl rfl gu_0 (by decide) qf_X0_12 rfl dX0_findAxle_51 ?_
      refine g_iconst (v := 3) C dX0_findAxle_54 (by decide) ?_
      refine g_iload C 1 dX0_findAxle_55 rfl ?_
      refine g_iload C 0 dX0_findAxle_57 rfl ?_
      obtain ⟨q7, eq7, h⟩ := g_bd h
      refine g_calliV C 129 [gi 3, gi q2.2, gi q5.2] (kX4_make hN eq7) qs_X0_69 (by omega) (by omega) rfl rfl rfl rfl (Nat.le_of_ble_eq_true rfl) ⟨Nat.zero_le _, Nat.zero_le _⟩ dX0_findAxle_59 ?_
      refine g_sub [] rfl ?_
      exact wX0_findAxle_b62 hN hrec C hr h
    · have h := g_tt c6 h
      refine g_iconst (v := (-1)) C dX0_findAxle_46 (by decide) ?_
      refine g_goto C dX0_findAxle_47 (tgt := 62) (by decide) ?_
      refine g_sub [] rfl ?_
      exact wX0_findAxle_b62 hN hrec C hr h
  · have h := g_tt c3 h
    refine g_iconst (v := (-1)) C dX0_findAxle_22 (by decide) ?_
    obtain ⟨rfl, rfl⟩ := Prod.mk.inj (Option.some.inj h)
    exact g_reti C hr dX0_findAxle_23

set_option maxHeartbeats 2000000 in
set_option maxRecDepth 20000 in
theorem kX0_findAxle {l : Launch} {D : va_G} {g : gT} {N : Nat} {ad ln : Nat → Nat} (hN : 183 ≤ N) {rec : gM → Int32 → Int32 → Option (gM × Int32)} {fu : Nat} (hrec : ∀ {A A' : gM} {y0 : Int32} {y1 : Int32} {r : Int32}, rec A y0 y1 = some (A', r) → gKi l yX0_find cX0_find 5 (some .int) (20 + 2 * fu) D g N ad ln A [gr 128, gr 1, gi y0, gi y1] A' r) {A A' : gM} {x2 : Int32} {x3 : Int32} {r : Int32} (h : mX0_findAxle rec A x2 x3 = some (A', r)) : gKi l yX0_findAxle cX0_findAxle 6 (some .int) ((20 + 2 * fu + 1)) D g N ad ln A [gr 128, gr 1, gi x2, gi x3] A' r := by
  refine g_meti (by decide) (Nat.le_of_ble_eq_true rfl) ?_
  intro p e s m args below meth c C hr
  refine g_sub [0, 1, 2, 3] rfl ?_
  exact wX0_findAxle_b0 hN hrec C hr h
def mX0_findEnd_b94 (rec : gM → Int32 → Int32 → Option (gM × Int32)) (A : gM) (s0 : Int32) : Option (gM × Int32) :=
  some (A, s0)
def mX0_findEnd_b0 (rec : gM → Int32 → Int32 → Option (gM × Int32)) (A : gM) (x2 : Int32) (x3 : Int32) : Option (gM × Int32) :=
  (mX2_fact A x2 1).bind fun q1 =>
  (rec q1.1 q1.2 (x3 + 1)).bind fun q2 =>
  if q2.2 = (-1) then
  some (q2.1, (-1))
  else
  (mX4_newVariable q2.1).bind fun q4 =>
  (mX4_newVariable q4.1).bind fun q5 =>
  (mX4_make q5.1 3 q4.2 q5.2).bind fun q6 =>
  (mX4_match q6.1 q2.2 q6.2).bind fun q7 =>
  if q7.2 = 0 then
  (mX2_fact q7.1 x2 4).bind fun q9 =>
  if q9.2 = 0 then
  mX0_findEnd_b94 rec q9.1 q4.2
  else
  mX0_findEnd_b94 rec q9.1 q5.2
  else
  (mX0_fail q7.1 q7.2 x2).bind fun q11 =>
  some (q11.1, q11.2)
def mX0_findEnd (rec : gM → Int32 → Int32 → Option (gM × Int32)) (A : gM) (x2 : Int32) (x3 : Int32) : Option (gM × Int32) := mX0_findEnd_b0 rec A x2 x3
set_option maxHeartbeats 2000000 in
set_option maxRecDepth 20000 in
theorem wX0_findEnd_b94 (hN : 183 ≤ N) {rec : gM → Int32 → Int32 → Option (gM × Int32)} {fu : Nat} (hrec : ∀ {A A' : gM} {y0 : Int32} {y1 : Int32} {r : Int32}, rec A y0 y1 = some (A', r) → gKi l yX0_find cX0_find 5 (some .int) (20 + 2 * fu) D g N ad ln A [gr 128, gr 1, gi y0, gi y1] A' r) {A0 A' : gM} {r : Int32} (C : gC p R s m args meth c cX0_findEnd RX0 8 D g (va_A (gw g ad ln A0 N) s.heap.size) (20 + 2 * fu + 1)) (hr : meth.sig.returnType = some .int)  {A : gM} {s0 : Int32} (h : mX0_findEnd_b94 rec A s0 = some (A', r)) : gJ p l e R s m args below meth c (gEi below D g N ad ln A0 A' r args s) 8 D g (va_A (gw g ad ln A0 N) s.heap.size) N ad ln A [] 0 0 94 [gi s0] := by
  unfold mX0_findEnd_b94 at h
  obtain ⟨rfl, rfl⟩ := Prod.mk.inj (Option.some.inj h)
  exact g_reti C hr dX0_findEnd_94

set_option maxHeartbeats 2000000 in
set_option maxRecDepth 20000 in
theorem wX0_findEnd_b0 (hN : 183 ≤ N) {rec : gM → Int32 → Int32 → Option (gM × Int32)} {fu : Nat} (hrec : ∀ {A A' : gM} {y0 : Int32} {y1 : Int32} {r : Int32}, rec A y0 y1 = some (A', r) → gKi l yX0_find cX0_find 5 (some .int) (20 + 2 * fu) D g N ad ln A [gr 128, gr 1, gi y0, gi y1] A' r) {A0 A' : gM} {r : Int32} (C : gC p R s m args meth c cX0_findEnd RX0 8 D g (va_A (gw g ad ln A0 N) s.heap.size) (20 + 2 * fu + 1)) (hr : meth.sig.returnType = some .int)  {A : gM} {x2 : Int32} {x3 : Int32} (h : mX0_findEnd_b0 rec A x2 x3 = some (A', r)) : gJ p l e R s m args below meth c (gEi below D g N ad ln A0 A' r args s) 8 D g (va_A (gw g ad ln A0 N) s.heap.size) N ad ln A [(0, gr 128), (1, gr 1), (2, gi x2), (3, gi x3)] 0 0 0 [] := by
  unfold mX0_findEnd_b0 at h
  refine g_aload_n C 0 dX0_findEnd_0 rfl ?_
  refine g_aload_n C 1 dX0_findEnd_1 rfl ?_
  refine g_aload_n C 1 dX0_findEnd_2 rfl ?_
  refine g_iload_n C 2 dX0_findEnd_3 rfl ?_
  refine g_iconst (v := 1) C dX0_findEnd_4 (by decide) ?_
  obtain ⟨q1, eq1, h⟩ := g_bd h
  refine g_calliV C 1 [gi x2, gi 1] (kX2_fact hN eq1) qs_X0_94 (by omega) (by omega) rfl rfl rfl rfl (Nat.le_of_ble_eq_true rfl) ⟨Nat.zero_le _, Nat.zero_le _⟩ dX0_findEnd_5 ?_
  refine g_iload_n C 3 dX0_findEnd_8 rfl ?_
  refine g_iconst (v := 1) C dX0_findEnd_9 (by decide) ?_
  refine g_iadd C dX0_findEnd_10 ?_
  obtain ⟨q2, eq2, h⟩ := g_bd h
  refine g_calliV C 128 [gr 1, gi q1.2, gi (x3 + 1)] (hrec eq2) qs_X0_40 (by omega) (by omega) rfl rfl rfl rfl (Nat.le_of_ble_eq_true rfl) ⟨Nat.zero_le _, Nat.zero_le _⟩ dX0_findEnd_11 ?_
  refine g_istore C dX0_findEnd_14 (by decide) rfl ?_
  refine g_iload C 0 dX0_findEnd_16 rfl ?_
  refine g_iconst (v := (-1)) C dX0_findEnd_18 (by decide) ?_
  refine g_icmp_ne C dX0_findEnd_19 (tgt := 24) (by decide) (fun c3 => ?_) (fun c3 => ?_)
  · have h := g_ff c3 h
    refine g_aload_n C 1 dX0_findEnd_24 rfl ?_
    refine g_get (v := gr 129) C 128 0 (by omega) rfl rfl gu_0 (by decide) qf_X0_12 rfl dX0_findEnd_25 ?_
    obtain ⟨q4, eq4, h⟩ := g_bd h
    refine g_calliV C 129 [] (kX4_newVariable hN eq4) qs_X0_65 (by omega) (by omega) rfl rfl rfl rfl (Nat.le_of_ble_eq_true rfl) ⟨Nat.zero_le _, Nat.zero_le _⟩ dX0_findEnd_28 ?_
    refine g_istore C dX0_findEnd_31 (by decide) rfl ?_
    refine g_aload_n C 2 dX0_findEnd_33 rfl ?_
    refine g_get (v := gr 129) C 128 0 (by omega) rfl rfl gu_0 (by decide) qf_X0_12 rfl dX0_findEnd_34 ?_
    obtain ⟨q5, eq5, h⟩ := g_bd h
    refine g_calliV C 129 [] (kX4_newVariable hN eq5) qs_X0_65 (by omega) (by omega) rfl rfl rfl rfl (Nat.le_of_ble_eq_true rfl) ⟨Nat.zero_le _, Nat.zero_le _⟩ dX0_findEnd_37 ?_
    refine g_istore C dX0_findEnd_40 (by decide) rfl ?_
    refine g_aload_n C 3 dX0_findEnd_42 rfl ?_
    refine g_get (v := gr 129) C 128 0 (by omega) rfl rfl gu_0 (by decide) qf_X0_12 rfl dX0_findEnd_43 ?_
    refine g_iload C 2 dX0_findEnd_46 rfl ?_
    refine g_aload_n C 3 dX0_findEnd_48 rfl ?_
    refine g_get (v := gr 129) C 128 0 (by omega) rfl rfl gu_0 (by decide) qf_X0_12 rfl dX0_findEnd_49 ?_
    refine g_iconst (v := 3) C dX0_findEnd_52 (by decide) ?_
    refine g_iload C 1 dX0_findEnd_53 rfl ?_
    refine g_iload C 0 dX0_findEnd_55 rfl ?_
    obtain ⟨q6, eq6, h⟩ := g_bd h
    refine g_calliV C 129 [gi 3, gi q4.2, gi q5.2] (kX4_make hN eq6) qs_X0_69 (by omega) (by omega) rfl rfl rfl rfl (Nat.le_of_ble_eq_true rfl) ⟨Nat.zero_le _, Nat.zero_le _⟩ dX0_findEnd_57 ?_
    obtain ⟨q7, eq7, h⟩ := g_bd h
    refine g_calliV C 129 [gi q2.2, gi q6.2] (kX4_match hN eq7) qs_X0_73 (by omega) (by omega) rfl rfl rfl rfl (Nat.le_of_ble_eq_true rfl) ⟨Nat.zero_le _, Nat.zero_le _⟩ dX0_findEnd_60 ?_
    refine g_istore C dX0_findEnd_63 (by decide) rfl ?_
    refine g_iload C 0 dX0_findEnd_65 rfl ?_
    refine g_if_eq C dX0_findEnd_67 (tgt := 78) (by decide) (fun c8 => ?_) (fun c8 => ?_)
    · have h := g_tt c8 h
      refine g_aload_n C 5 dX0_findEnd_78 rfl ?_
      refine g_iload_n C 6 dX0_findEnd_79 rfl ?_
      refine g_iconst (v := 4) C dX0_findEnd_80 (by decide) ?_
      obtain ⟨q9, eq9, h⟩ := g_bd h
      refine g_calliV C 1 [gi x2, gi 4] (kX2_fact hN eq9) qs_X0_94 (by omega) (by omega) rfl rfl rfl rfl (Nat.le_of_ble_eq_true rfl) ⟨Nat.zero_le _, Nat.zero_le _⟩ dX0_findEnd_81 ?_
      refine g_if_ne C dX0_findEnd_84 (tgt := 92) (by decide) (fun c10 => ?_) (fun c10 => ?_)
      · have h := g_ff c10 h
        refine g_iload C 1 dX0_findEnd_92 rfl ?_
        refine g_sub [] rfl ?_
        exact wX0_findEnd_b94 hN hrec C hr h
      · have h := g_tt c10 h
        refine g_iload C 2 dX0_findEnd_87 rfl ?_
        refine g_goto C dX0_findEnd_89 (tgt := 94) (by decide) ?_
        refine g_sub [] rfl ?_
        exact wX0_findEnd_b94 hN hrec C hr h
    · have h := g_ff c8 h
      refine g_aload_n C 4 dX0_findEnd_70 rfl ?_
      refine g_iload C 0 dX0_findEnd_71 rfl ?_
      refine g_iload_n C 6 dX0_findEnd_73 rfl ?_
      obtain ⟨q11, eq11, h⟩ := g_bd h
      refine g_calliV C 128 [gi q7.2, gi x2] (kX0_fail hN eq11) qs_X0_91 (by omega) (by omega) rfl rfl rfl rfl (Nat.le_of_ble_eq_true rfl) ⟨Nat.zero_le _, Nat.zero_le _⟩ dX0_findEnd_74 ?_
      obtain ⟨rfl, rfl⟩ := Prod.mk.inj (Option.some.inj h)
      exact g_reti C hr dX0_findEnd_77
  · have h := g_tt c3 h
    refine g_iconst (v := (-1)) C dX0_findEnd_22 (by decide) ?_
    obtain ⟨rfl, rfl⟩ := Prod.mk.inj (Option.some.inj h)
    exact g_reti C hr dX0_findEnd_23

set_option maxHeartbeats 2000000 in
set_option maxRecDepth 20000 in
theorem kX0_findEnd {l : Launch} {D : va_G} {g : gT} {N : Nat} {ad ln : Nat → Nat} (hN : 183 ≤ N) {rec : gM → Int32 → Int32 → Option (gM × Int32)} {fu : Nat} (hrec : ∀ {A A' : gM} {y0 : Int32} {y1 : Int32} {r : Int32}, rec A y0 y1 = some (A', r) → gKi l yX0_find cX0_find 5 (some .int) (20 + 2 * fu) D g N ad ln A [gr 128, gr 1, gi y0, gi y1] A' r) {A A' : gM} {x2 : Int32} {x3 : Int32} {r : Int32} (h : mX0_findEnd rec A x2 x3 = some (A', r)) : gKi l yX0_findEnd cX0_findEnd 8 (some .int) ((20 + 2 * fu + 1)) D g N ad ln A [gr 128, gr 1, gi x2, gi x3] A' r := by
  refine g_meti (by decide) (Nat.le_of_ble_eq_true rfl) ?_
  intro p e s m args below meth c C hr
  refine g_sub [0, 1, 2, 3] rfl ?_
  exact wX0_findEnd_b0 hN hrec C hr h
def mX0_findChoice_b127 (rec : gM → Int32 → Int32 → Option (gM × Int32)) (A : gM) (s0 : Int32) : Option (gM × Int32) :=
  some (A, s0)
def mX0_findChoice_b0 (rec : gM → Int32 → Int32 → Option (gM × Int32)) (A : gM) (x2 : Int32) (x3 : Int32) : Option (gM × Int32) :=
  (mX2_fact A x2 1).bind fun q1 =>
  (rec q1.1 q1.2 (x3 + 1)).bind fun q2 =>
  if q2.2 = (-1) then
  some (q2.1, (-1))
  else
  (mX4_match q2.1 q2.2 1).bind fun q4 =>
  if q4.2 = 0 then
  (mX2_fact q4.1 x2 2).bind fun q6 =>
  (rec q6.1 q6.2 (x3 + 1)).bind fun q7 =>
  if q7.2 = (-1) then
  some (q7.1, (-1))
  else
  (mX2_fact q7.1 x2 3).bind fun q9 =>
  (rec q9.1 q9.2 (x3 + 1)).bind fun q10 =>
  if q10.2 = (-1) then
  some (q10.1, (-1))
  else
  (mX4_match q10.1 q7.2 q10.2).bind fun q12 =>
  if q12.2 = 0 then
  mX0_findChoice_b127 rec q12.1 q7.2
  else
  (mX0_fail q12.1 q12.2 x2).bind fun q14 =>
  mX0_findChoice_b127 rec q14.1 q14.2
  else
  (mX0_fail q4.1 q4.2 x2).bind fun q15 =>
  some (q15.1, q15.2)
def mX0_findChoice (rec : gM → Int32 → Int32 → Option (gM × Int32)) (A : gM) (x2 : Int32) (x3 : Int32) : Option (gM × Int32) := mX0_findChoice_b0 rec A x2 x3
set_option maxHeartbeats 2000000 in
set_option maxRecDepth 20000 in
theorem wX0_findChoice_b127 (hN : 183 ≤ N) {rec : gM → Int32 → Int32 → Option (gM × Int32)} {fu : Nat} (hrec : ∀ {A A' : gM} {y0 : Int32} {y1 : Int32} {r : Int32}, rec A y0 y1 = some (A', r) → gKi l yX0_find cX0_find 5 (some .int) (20 + 2 * fu) D g N ad ln A [gr 128, gr 1, gi y0, gi y1] A' r) {A0 A' : gM} {r : Int32} (C : gC p R s m args meth c cX0_findChoice RX0 8 D g (va_A (gw g ad ln A0 N) s.heap.size) (20 + 2 * fu + 1)) (hr : meth.sig.returnType = some .int)  {A : gM} {s0 : Int32} (h : mX0_findChoice_b127 rec A s0 = some (A', r)) : gJ p l e R s m args below meth c (gEi below D g N ad ln A0 A' r args s) 8 D g (va_A (gw g ad ln A0 N) s.heap.size) N ad ln A [] 0 0 127 [gi s0] := by
  unfold mX0_findChoice_b127 at h
  obtain ⟨rfl, rfl⟩ := Prod.mk.inj (Option.some.inj h)
  exact g_reti C hr dX0_findChoice_127

set_option maxHeartbeats 2000000 in
set_option maxRecDepth 20000 in
theorem wX0_findChoice_b0 (hN : 183 ≤ N) {rec : gM → Int32 → Int32 → Option (gM × Int32)} {fu : Nat} (hrec : ∀ {A A' : gM} {y0 : Int32} {y1 : Int32} {r : Int32}, rec A y0 y1 = some (A', r) → gKi l yX0_find cX0_find 5 (some .int) (20 + 2 * fu) D g N ad ln A [gr 128, gr 1, gi y0, gi y1] A' r) {A0 A' : gM} {r : Int32} (C : gC p R s m args meth c cX0_findChoice RX0 8 D g (va_A (gw g ad ln A0 N) s.heap.size) (20 + 2 * fu + 1)) (hr : meth.sig.returnType = some .int)  {A : gM} {x2 : Int32} {x3 : Int32} (h : mX0_findChoice_b0 rec A x2 x3 = some (A', r)) : gJ p l e R s m args below meth c (gEi below D g N ad ln A0 A' r args s) 8 D g (va_A (gw g ad ln A0 N) s.heap.size) N ad ln A [(0, gr 128), (1, gr 1), (2, gi x2), (3, gi x3)] 0 0 0 [] := by
  unfold mX0_findChoice_b0 at h
  refine g_aload_n C 0 dX0_findChoice_0 rfl ?_
  refine g_aload_n C 1 dX0_findChoice_1 rfl ?_
  refine g_aload_n C 1 dX0_findChoice_2 rfl ?_
  refine g_iload_n C 2 dX0_findChoice_3 rfl ?_
  refine g_iconst (v := 1) C dX0_findChoice_4 (by decide) ?_
  obtain ⟨q1, eq1, h⟩ := g_bd h
  refine g_calliV C 1 [gi x2, gi 1] (kX2_fact hN eq1) qs_X0_94 (by omega) (by omega) rfl rfl rfl rfl (Nat.le_of_ble_eq_true rfl) ⟨Nat.zero_le _, Nat.zero_le _⟩ dX0_findChoice_5 ?_
  refine g_iload_n C 3 dX0_findChoice_8 rfl ?_
  refine g_iconst (v := 1) C dX0_findChoice_9 (by decide) ?_
  refine g_iadd C dX0_findChoice_10 ?_
  obtain ⟨q2, eq2, h⟩ := g_bd h
  refine g_calliV C 128 [gr 1, gi q1.2, gi (x3 + 1)] (hrec eq2) qs_X0_40 (by omega) (by omega) rfl rfl rfl rfl (Nat.le_of_ble_eq_true rfl) ⟨Nat.zero_le _, Nat.zero_le _⟩ dX0_findChoice_11 ?_
  refine g_istore C dX0_findChoice_14 (by decide) rfl ?_
  refine g_iload C 0 dX0_findChoice_16 rfl ?_
  refine g_iconst (v := (-1)) C dX0_findChoice_18 (by decide) ?_
  refine g_icmp_ne C dX0_findChoice_19 (tgt := 24) (by decide) (fun c3 => ?_) (fun c3 => ?_)
  · have h := g_ff c3 h
    refine g_aload_n C 1 dX0_findChoice_24 rfl ?_
    refine g_get (v := gr 129) C 128 0 (by omega) rfl rfl gu_0 (by decide) qf_X0_12 rfl dX0_findChoice_25 ?_
    refine g_iload C 0 dX0_findChoice_28 rfl ?_
    refine g_iconst (v := 1) C dX0_findChoice_30 (by decide) ?_
    obtain ⟨q4, eq4, h⟩ := g_bd h
    refine g_calliV C 129 [gi q2.2, gi 1] (kX4_match hN eq4) qs_X0_73 (by omega) (by omega) rfl rfl rfl rfl (Nat.le_of_ble_eq_true rfl) ⟨Nat.zero_le _, Nat.zero_le _⟩ dX0_findChoice_31 ?_
    refine g_istore C dX0_findChoice_34 (by decide) rfl ?_
    refine g_iload C 0 dX0_findChoice_36 rfl ?_
    refine g_if_eq C dX0_findChoice_38 (tgt := 49) (by decide) (fun c5 => ?_) (fun c5 => ?_)
    · have h := g_tt c5 h
      refine g_aload_n C 2 dX0_findChoice_49 rfl ?_
      refine g_aload_n C 3 dX0_findChoice_50 rfl ?_
      refine g_aload_n C 3 dX0_findChoice_51 rfl ?_
      refine g_iload_n C 4 dX0_findChoice_52 rfl ?_
      refine g_iconst (v := 2) C dX0_findChoice_53 (by decide) ?_
      obtain ⟨q6, eq6, h⟩ := g_bd h
      refine g_calliV C 1 [gi x2, gi 2] (kX2_fact hN eq6) qs_X0_94 (by omega) (by omega) rfl rfl rfl rfl (Nat.le_of_ble_eq_true rfl) ⟨Nat.zero_le _, Nat.zero_le _⟩ dX0_findChoice_54 ?_
      refine g_iload_n C 5 dX0_findChoice_57 rfl ?_
      refine g_iconst (v := 1) C dX0_findChoice_58 (by decide) ?_
      refine g_iadd C dX0_findChoice_59 ?_
      obtain ⟨q7, eq7, h⟩ := g_bd h
      refine g_calliV C 128 [gr 1, gi q6.2, gi (x3 + 1)] (hrec eq7) qs_X0_40 (by omega) (by omega) rfl rfl rfl rfl (Nat.le_of_ble_eq_true rfl) ⟨Nat.zero_le _, Nat.zero_le _⟩ dX0_findChoice_60 ?_
      refine g_istore C dX0_findChoice_63 (by decide) rfl ?_
      refine g_iload C 0 dX0_findChoice_65 rfl ?_
      refine g_iconst (v := (-1)) C dX0_findChoice_67 (by decide) ?_
      refine g_icmp_ne C dX0_findChoice_68 (tgt := 73) (by decide) (fun c8 => ?_) (fun c8 => ?_)
      · have h := g_ff c8 h
        refine g_aload_n C 3 dX0_findChoice_73 rfl ?_
        refine g_aload_n C 4 dX0_findChoice_74 rfl ?_
        refine g_aload_n C 4 dX0_findChoice_75 rfl ?_
        refine g_iload_n C 5 dX0_findChoice_76 rfl ?_
        refine g_iconst (v := 3) C dX0_findChoice_77 (by decide) ?_
        obtain ⟨q9, eq9, h⟩ := g_bd h
        refine g_calliV C 1 [gi x2, gi 3] (kX2_fact hN eq9) qs_X0_94 (by omega) (by omega) rfl rfl rfl rfl (Nat.le_of_ble_eq_true rfl) ⟨Nat.zero_le _, Nat.zero_le _⟩ dX0_findChoice_78 ?_
        refine g_iload_n C 6 dX0_findChoice_81 rfl ?_
        refine g_iconst (v := 1) C dX0_findChoice_82 (by decide) ?_
        refine g_iadd C dX0_findChoice_83 ?_
        obtain ⟨q10, eq10, h⟩ := g_bd h
        refine g_calliV C 128 [gr 1, gi q9.2, gi (x3 + 1)] (hrec eq10) qs_X0_40 (by omega) (by omega) rfl rfl rfl rfl (Nat.le_of_ble_eq_true rfl) ⟨Nat.zero_le _, Nat.zero_le _⟩ dX0_findChoice_84 ?_
        refine g_istore C dX0_findChoice_87 (by decide) rfl ?_
        refine g_iload C 0 dX0_findChoice_89 rfl ?_
        refine g_iconst (v := (-1)) C dX0_findChoice_91 (by decide) ?_
        refine g_icmp_ne C dX0_findChoice_92 (tgt := 97) (by decide) (fun c11 => ?_) (fun c11 => ?_)
        · have h := g_ff c11 h
          refine g_aload_n C 4 dX0_findChoice_97 rfl ?_
          refine g_get (v := gr 129) C 128 0 (by omega) rfl rfl gu_0 (by decide) qf_X0_12 rfl dX0_findChoice_98 ?_
          refine g_iload C 1 dX0_findChoice_101 rfl ?_
          refine g_iload C 0 dX0_findChoice_103 rfl ?_
          obtain ⟨q12, eq12, h⟩ := g_bd h
          refine g_calliV C 129 [gi q7.2, gi q10.2] (kX4_match hN eq12) qs_X0_73 (by omega) (by omega) rfl rfl rfl rfl (Nat.le_of_ble_eq_true rfl) ⟨Nat.zero_le _, Nat.zero_le _⟩ dX0_findChoice_105 ?_
          refine g_istore C dX0_findChoice_108 (by decide) rfl ?_
          refine g_iload C 0 dX0_findChoice_110 rfl ?_
          refine g_if_ne C dX0_findChoice_112 (tgt := 120) (by decide) (fun c13 => ?_) (fun c13 => ?_)
          · have h := g_ff c13 h
            refine g_aload_n C 4 dX0_findChoice_120 rfl ?_
            refine g_iload C 0 dX0_findChoice_121 rfl ?_
            refine g_iload_n C 6 dX0_findChoice_123 rfl ?_
            obtain ⟨q14, eq14, h⟩ := g_bd h
            refine g_calliV C 128 [gi q12.2, gi x2] (kX0_fail hN eq14) qs_X0_91 (by omega) (by omega) rfl rfl rfl rfl (Nat.le_of_ble_eq_true rfl) ⟨Nat.zero_le _, Nat.zero_le _⟩ dX0_findChoice_124 ?_
            refine g_sub [] rfl ?_
            exact wX0_findChoice_b127 hN hrec C hr h
          · have h := g_tt c13 h
            refine g_iload C 2 dX0_findChoice_115 rfl ?_
            refine g_goto C dX0_findChoice_117 (tgt := 127) (by decide) ?_
            refine g_sub [] rfl ?_
            exact wX0_findChoice_b127 hN hrec C hr h
        · have h := g_tt c11 h
          refine g_iconst (v := (-1)) C dX0_findChoice_95 (by decide) ?_
          obtain ⟨rfl, rfl⟩ := Prod.mk.inj (Option.some.inj h)
          exact g_reti C hr dX0_findChoice_96
      · have h := g_tt c8 h
        refine g_iconst (v := (-1)) C dX0_findChoice_71 (by decide) ?_
        obtain ⟨rfl, rfl⟩ := Prod.mk.inj (Option.some.inj h)
        exact g_reti C hr dX0_findChoice_72
    · have h := g_ff c5 h
      refine g_aload_n C 2 dX0_findChoice_41 rfl ?_
      refine g_iload C 0 dX0_findChoice_42 rfl ?_
      refine g_iload_n C 4 dX0_findChoice_44 rfl ?_
      obtain ⟨q15, eq15, h⟩ := g_bd h
      refine g_calliV C 128 [gi q4.2, gi x2] (kX0_fail hN eq15) qs_X0_91 (by omega) (by omega) rfl rfl rfl rfl (Nat.le_of_ble_eq_true rfl) ⟨Nat.zero_le _, Nat.zero_le _⟩ dX0_findChoice_45 ?_
      obtain ⟨rfl, rfl⟩ := Prod.mk.inj (Option.some.inj h)
      exact g_reti C hr dX0_findChoice_48
  · have h := g_tt c3 h
    refine g_iconst (v := (-1)) C dX0_findChoice_22 (by decide) ?_
    obtain ⟨rfl, rfl⟩ := Prod.mk.inj (Option.some.inj h)
    exact g_reti C hr dX0_findChoice_23

set_option maxHeartbeats 2000000 in
set_option maxRecDepth 20000 in
theorem kX0_findChoice {l : Launch} {D : va_G} {g : gT} {N : Nat} {ad ln : Nat → Nat} (hN : 183 ≤ N) {rec : gM → Int32 → Int32 → Option (gM × Int32)} {fu : Nat} (hrec : ∀ {A A' : gM} {y0 : Int32} {y1 : Int32} {r : Int32}, rec A y0 y1 = some (A', r) → gKi l yX0_find cX0_find 5 (some .int) (20 + 2 * fu) D g N ad ln A [gr 128, gr 1, gi y0, gi y1] A' r) {A A' : gM} {x2 : Int32} {x3 : Int32} {r : Int32} (h : mX0_findChoice rec A x2 x3 = some (A', r)) : gKi l yX0_findChoice cX0_findChoice 8 (some .int) ((20 + 2 * fu + 1)) D g N ad ln A [gr 128, gr 1, gi x2, gi x3] A' r := by
  refine g_meti (by decide) (Nat.le_of_ble_eq_true rfl) ?_
  intro p e s m args below meth c C hr
  refine g_sub [0, 1, 2, 3] rfl ?_
  exact wX0_findChoice_b0 hN hrec C hr h
def mX0_find_b179 (rec : gM → Int32 → Int32 → Option (gM × Int32)) (A : gM) (x4 : Int32) : Option (gM × Int32) :=
  some (A, x4)
def mX0_find_b157 (rec : gM → Int32 → Int32 → Option (gM × Int32)) (A : gM) (x2 : Int32) (x4 : Int32) : Option (gM × Int32) :=
  if x4 = (-1) then
  mX0_find_b179 rec A x4
  else
  (mX0_isTooLong A x4).bind fun q2 =>
  if q2.2 = 0 then
  mX0_find_b179 rec q2.1 x4
  else
  (mX0_fail q2.1 4 x2).bind fun q4 =>
  some (q4.1, q4.2)
def mX0_find_b0 (rec : gM → Int32 → Int32 → Option (gM × Int32)) (A : gM) (x2 : Int32) (x3 : Int32) : Option (gM × Int32) :=
  if x3 < 40 then
  (mX2_fact A x2 0).bind fun q2 =>
  if q2.2 = 1 then
  mX0_find_b157 rec q2.1 x2 1
  else if q2.2 = 2 then
  (mX0_findName q2.1 x2).bind fun q5 =>
  mX0_find_b157 rec q5.1 x2 q5.2
  else if q2.2 = 3 then
  (mX0_findWheel rec q2.1 x2 x3).bind fun q7 =>
  mX0_find_b157 rec q7.1 x2 q7.2
  else if q2.2 = 4 then
  (mX0_findTurning rec q2.1 x2 x3).bind fun q9 =>
  mX0_find_b157 rec q9.1 x2 q9.2
  else if q2.2 = 5 then
  (mX0_findTelling rec q2.1 x2 x3).bind fun q11 =>
  mX0_find_b157 rec q11.1 x2 q11.2
  else if q2.2 = 6 then
  (mX0_findAxle rec q2.1 x2 x3).bind fun q13 =>
  mX0_find_b157 rec q13.1 x2 q13.2
  else if q2.2 = 7 then
  (mX0_findEnd rec q2.1 x2 x3).bind fun q15 =>
  mX0_find_b157 rec q15.1 x2 q15.2
  else if q2.2 = 8 then
  (mX0_findChoice rec q2.1 x2 x3).bind fun q17 =>
  mX0_find_b157 rec q17.1 x2 q17.2
  else mX0_find_b157 rec q2.1 x2 0
  else
  (mX0_fail A 4 x2).bind fun q18 =>
  some (q18.1, q18.2)
def mX0_find_body (rec : gM → Int32 → Int32 → Option (gM × Int32)) (A : gM) (x2 : Int32) (x3 : Int32) : Option (gM × Int32) := mX0_find_b0 rec A x2 x3
def mX0_find : Nat → gM → Int32 → Int32 → Option (gM × Int32)
  | 0 => fun _ _ _ => none
  | f + 1 => mX0_find_body (mX0_find f)
set_option maxHeartbeats 2000000 in
set_option maxRecDepth 20000 in
theorem wX0_find_b179 (hN : 183 ≤ N) {rec : gM → Int32 → Int32 → Option (gM × Int32)} {fu : Nat} (hrec : ∀ {A A' : gM} {y0 : Int32} {y1 : Int32} {r : Int32}, rec A y0 y1 = some (A', r) → gKi l yX0_find cX0_find 5 (some .int) (20 + 2 * fu) D g N ad ln A [gr 128, gr 1, gi y0, gi y1] A' r) {A0 A' : gM} {r : Int32} (C : gC p R s m args meth c cX0_find RX0 5 D g (va_A (gw g ad ln A0 N) s.heap.size) (20 + 2 * fu + 2)) (hr : meth.sig.returnType = some .int)  {A : gM} {x4 : Int32} (h : mX0_find_b179 rec A x4 = some (A', r)) : gJ p l e R s m args below meth c (gEi below D g N ad ln A0 A' r args s) 5 D g (va_A (gw g ad ln A0 N) s.heap.size) N ad ln A [(4, gi x4)] 0 0 179 [] := by
  unfold mX0_find_b179 at h
  refine g_iload C 0 dX0_find_179 rfl ?_
  obtain ⟨rfl, rfl⟩ := Prod.mk.inj (Option.some.inj h)
  exact g_reti C hr dX0_find_181

set_option maxHeartbeats 2000000 in
set_option maxRecDepth 20000 in
theorem wX0_find_b157 (hN : 183 ≤ N) {rec : gM → Int32 → Int32 → Option (gM × Int32)} {fu : Nat} (hrec : ∀ {A A' : gM} {y0 : Int32} {y1 : Int32} {r : Int32}, rec A y0 y1 = some (A', r) → gKi l yX0_find cX0_find 5 (some .int) (20 + 2 * fu) D g N ad ln A [gr 128, gr 1, gi y0, gi y1] A' r) {A0 A' : gM} {r : Int32} (C : gC p R s m args meth c cX0_find RX0 5 D g (va_A (gw g ad ln A0 N) s.heap.size) (20 + 2 * fu + 2)) (hr : meth.sig.returnType = some .int)  {A : gM} {x2 : Int32} {x4 : Int32} (h : mX0_find_b157 rec A x2 x4 = some (A', r)) : gJ p l e R s m args below meth c (gEi below D g N ad ln A0 A' r args s) 5 D g (va_A (gw g ad ln A0 N) s.heap.size) N ad ln A [(0, gr 128), (2, gi x2), (4, gi x4)] 0 0 157 [] := by
  unfold mX0_find_b157 at h
  refine g_iload C 2 dX0_find_157 rfl ?_
  refine g_iconst (v := (-1)) C dX0_find_159 (by decide) ?_
  refine g_icmp_eq C dX0_find_160 (tgt := 179) (by decide) (fun c1 => ?_) (fun c1 => ?_)
  · have h := g_tt c1 h
    refine g_sub [2] rfl ?_
    exact wX0_find_b179 hN hrec C hr h
  · have h := g_ff c1 h
    refine g_aload_n C 0 dX0_find_163 rfl ?_
    refine g_iload C 2 dX0_find_164 rfl ?_
    obtain ⟨q2, eq2, h⟩ := g_bd h
    refine g_calliV C 128 [gi x4] (kX0_isTooLong hN eq2) qs_X0_77 (by omega) (by omega) rfl rfl rfl rfl (Nat.le_of_ble_eq_true rfl) ⟨Nat.zero_le _, Nat.zero_le _⟩ dX0_find_166 ?_
    refine g_if_eq C dX0_find_169 (tgt := 179) (by decide) (fun c3 => ?_) (fun c3 => ?_)
    · have h := g_tt c3 h
      refine g_sub [2] rfl ?_
      exact wX0_find_b179 hN hrec C hr h
    · have h := g_ff c3 h
      refine g_aload_n C 0 dX0_find_172 rfl ?_
      refine g_iconst (v := 4) C dX0_find_173 (by decide) ?_
      refine g_iload_n C 1 dX0_find_174 rfl ?_
      obtain ⟨q4, eq4, h⟩ := g_bd h
      refine g_calliV C 128 [gi 4, gi x2] (kX0_fail hN eq4) qs_X0_91 (by omega) (by omega) rfl rfl rfl rfl (Nat.le_of_ble_eq_true rfl) ⟨Nat.zero_le _, Nat.zero_le _⟩ dX0_find_175 ?_
      obtain ⟨rfl, rfl⟩ := Prod.mk.inj (Option.some.inj h)
      exact g_reti C hr dX0_find_178

set_option maxHeartbeats 2000000 in
set_option maxRecDepth 20000 in
theorem wX0_find_b0 (hN : 183 ≤ N) {rec : gM → Int32 → Int32 → Option (gM × Int32)} {fu : Nat} (hrec : ∀ {A A' : gM} {y0 : Int32} {y1 : Int32} {r : Int32}, rec A y0 y1 = some (A', r) → gKi l yX0_find cX0_find 5 (some .int) (20 + 2 * fu) D g N ad ln A [gr 128, gr 1, gi y0, gi y1] A' r) {A0 A' : gM} {r : Int32} (C : gC p R s m args meth c cX0_find RX0 5 D g (va_A (gw g ad ln A0 N) s.heap.size) (20 + 2 * fu + 2)) (hr : meth.sig.returnType = some .int)  {A : gM} {x2 : Int32} {x3 : Int32} (h : mX0_find_b0 rec A x2 x3 = some (A', r)) : gJ p l e R s m args below meth c (gEi below D g N ad ln A0 A' r args s) 5 D g (va_A (gw g ad ln A0 N) s.heap.size) N ad ln A [(0, gr 128), (1, gr 1), (2, gi x2), (3, gi x3)] 0 0 0 [] := by
  unfold mX0_find_b0 at h
  refine g_iload_n C 3 dX0_find_0 rfl ?_
  refine g_bipush (v := 40) C dX0_find_1 (by decide) ?_
  refine g_icmp_lt C dX0_find_3 (tgt := 13) (by decide) (fun c1 => ?_) (fun c1 => ?_)
  · have h := g_tt c1 h
    refine g_iconst (v := 0) C dX0_find_13 (by decide) ?_
    refine g_istore C dX0_find_14 (by decide) rfl ?_
    refine g_aload_n C 2 dX0_find_16 rfl ?_
    refine g_iload_n C 3 dX0_find_17 rfl ?_
    refine g_iconst (v := 0) C dX0_find_18 (by decide) ?_
    obtain ⟨q2, eq2, h⟩ := g_bd h
    refine g_calliV C 1 [gi x2, gi 0] (kX2_fact hN eq2) qs_X0_94 (by omega) (by omega) rfl rfl rfl rfl (Nat.le_of_ble_eq_true rfl) ⟨Nat.zero_le _, Nat.zero_le _⟩ dX0_find_19 ?_
    by_cases c3 : q2.2 = 1
    · have h := g_tt c3 h
      refine g_tableIn C dX0_find_22 (tgt := 68) (by rw [c3]; decide) (by rw [c3]; decide) (by rw [c3]; rfl) (by decide) ?_
      refine g_iconst (v := 1) C dX0_find_68 (by decide) ?_
      refine g_istore C dX0_find_69 (by decide) rfl ?_
      refine g_goto C dX0_find_71 (tgt := 157) (by decide) ?_
      refine g_sub [1, 3, 0] rfl ?_
      exact wX0_find_b157 hN hrec C hr h
    have h := g_ff c3 h
    by_cases c4 : q2.2 = 2
    · have h := g_tt c4 h
      refine g_tableIn C dX0_find_22 (tgt := 74) (by rw [c4]; decide) (by rw [c4]; decide) (by rw [c4]; rfl) (by decide) ?_
      refine g_aload_n C 1 dX0_find_74 rfl ?_
      refine g_aload_n C 2 dX0_find_75 rfl ?_
      refine g_iload_n C 3 dX0_find_76 rfl ?_
      obtain ⟨q5, eq5, h⟩ := g_bd h
      refine g_calliV C 128 [gr 1, gi x2] (kX0_findName hN eq5) qs_X0_97 (by omega) (by omega) rfl rfl rfl rfl (Nat.le_of_ble_eq_true rfl) ⟨Nat.zero_le _, Nat.zero_le _⟩ dX0_find_77 ?_
      refine g_istore C dX0_find_80 (by decide) rfl ?_
      refine g_goto C dX0_find_82 (tgt := 157) (by decide) ?_
      refine g_sub [1, 3, 0] rfl ?_
      exact wX0_find_b157 hN hrec C hr h
    have h := g_ff c4 h
    by_cases c6 : q2.2 = 3
    · have h := g_tt c6 h
      refine g_tableIn C dX0_find_22 (tgt := 85) (by rw [c6]; decide) (by rw [c6]; decide) (by rw [c6]; rfl) (by decide) ?_
      refine g_aload_n C 1 dX0_find_85 rfl ?_
      refine g_aload_n C 2 dX0_find_86 rfl ?_
      refine g_iload_n C 3 dX0_find_87 rfl ?_
      refine g_iload_n C 4 dX0_find_88 rfl ?_
      obtain ⟨q7, eq7, h⟩ := g_bd h
      refine g_calliV C 128 [gr 1, gi x2, gi x3] (kX0_findWheel hN hrec eq7) qs_X0_101 (by omega) (by omega) rfl rfl rfl rfl (Nat.le_of_ble_eq_true rfl) ⟨Nat.zero_le _, Nat.zero_le _⟩ dX0_find_89 ?_
      refine g_istore C dX0_find_92 (by decide) rfl ?_
      refine g_goto C dX0_find_94 (tgt := 157) (by decide) ?_
      refine g_sub [1, 3, 0] rfl ?_
      exact wX0_find_b157 hN hrec C hr h
    have h := g_ff c6 h
    by_cases c8 : q2.2 = 4
    · have h := g_tt c8 h
      refine g_tableIn C dX0_find_22 (tgt := 97) (by rw [c8]; decide) (by rw [c8]; decide) (by rw [c8]; rfl) (by decide) ?_
      refine g_aload_n C 1 dX0_find_97 rfl ?_
      refine g_aload_n C 2 dX0_find_98 rfl ?_
      refine g_iload_n C 3 dX0_find_99 rfl ?_
      refine g_iload_n C 4 dX0_find_100 rfl ?_
      obtain ⟨q9, eq9, h⟩ := g_bd h
      refine g_calliV C 128 [gr 1, gi x2, gi x3] (kX0_findTurning hN hrec eq9) qs_X0_104 (by omega) (by omega) rfl rfl rfl rfl (Nat.le_of_ble_eq_true rfl) ⟨Nat.zero_le _, Nat.zero_le _⟩ dX0_find_101 ?_
      refine g_istore C dX0_find_104 (by decide) rfl ?_
      refine g_goto C dX0_find_106 (tgt := 157) (by decide) ?_
      refine g_sub [1, 3, 0] rfl ?_
      exact wX0_find_b157 hN hrec C hr h
    have h := g_ff c8 h
    by_cases c10 : q2.2 = 5
    · have h := g_tt c10 h
      refine g_tableIn C dX0_find_22 (tgt := 109) (by rw [c10]; decide) (by rw [c10]; decide) (by rw [c10]; rfl) (by decide) ?_
      refine g_aload_n C 1 dX0_find_109 rfl ?_
      refine g_aload_n C 2 dX0_find_110 rfl ?_
      refine g_iload_n C 3 dX0_find_111 rfl ?_
      refine g_iload_n C 4 dX0_find_112 rfl ?_
      obtain ⟨q11, eq11, h⟩ := g_bd h
      refine g_calliV C 128 [gr 1, gi x2, gi x3] (kX0_findTelling hN hrec eq11) qs_X0_107 (by omega) (by omega) rfl rfl rfl rfl (Nat.le_of_ble_eq_true rfl) ⟨Nat.zero_le _, Nat.zero_le _⟩ dX0_find_113 ?_
      refine g_istore C dX0_find_116 (by decide) rfl ?_
      refine g_goto C dX0_find_118 (tgt := 157) (by decide) ?_
      refine g_sub [1, 3, 0] rfl ?_
      exact wX0_find_b157 hN hrec C hr h
    have h := g_ff c10 h
    by_cases c12 : q2.2 = 6
    · have h := g_tt c12 h
      refine g_tableIn C dX0_find_22 (tgt := 121) (by rw [c12]; decide) (by rw [c12]; decide) (by rw [c12]; rfl) (by decide) ?_
      refine g_aload_n C 1 dX0_find_121 rfl ?_
      refine g_aload_n C 2 dX0_find_122 rfl ?_
      refine g_iload_n C 3 dX0_find_123 rfl ?_
      refine g_iload_n C 4 dX0_find_124 rfl ?_
      obtain ⟨q13, eq13, h⟩ := g_bd h
      refine g_calliV C 128 [gr 1, gi x2, gi x3] (kX0_findAxle hN hrec eq13) qs_X0_110 (by omega) (by omega) rfl rfl rfl rfl (Nat.le_of_ble_eq_true rfl) ⟨Nat.zero_le _, Nat.zero_le _⟩ dX0_find_125 ?_
      refine g_istore C dX0_find_128 (by decide) rfl ?_
      refine g_goto C dX0_find_130 (tgt := 157) (by decide) ?_
      refine g_sub [1, 3, 0] rfl ?_
      exact wX0_find_b157 hN hrec C hr h
    have h := g_ff c12 h
    by_cases c14 : q2.2 = 7
    · have h := g_tt c14 h
      refine g_tableIn C dX0_find_22 (tgt := 133) (by rw [c14]; decide) (by rw [c14]; decide) (by rw [c14]; rfl) (by decide) ?_
      refine g_aload_n C 1 dX0_find_133 rfl ?_
      refine g_aload_n C 2 dX0_find_134 rfl ?_
      refine g_iload_n C 3 dX0_find_135 rfl ?_
      refine g_iload_n C 4 dX0_find_136 rfl ?_
      obtain ⟨q15, eq15, h⟩ := g_bd h
      refine g_calliV C 128 [gr 1, gi x2, gi x3] (kX0_findEnd hN hrec eq15) qs_X0_113 (by omega) (by omega) rfl rfl rfl rfl (Nat.le_of_ble_eq_true rfl) ⟨Nat.zero_le _, Nat.zero_le _⟩ dX0_find_137 ?_
      refine g_istore C dX0_find_140 (by decide) rfl ?_
      refine g_goto C dX0_find_142 (tgt := 157) (by decide) ?_
      refine g_sub [1, 3, 0] rfl ?_
      exact wX0_find_b157 hN hrec C hr h
    have h := g_ff c14 h
    by_cases c16 : q2.2 = 8
    · have h := g_tt c16 h
      refine g_tableIn C dX0_find_22 (tgt := 145) (by rw [c16]; decide) (by rw [c16]; decide) (by rw [c16]; rfl) (by decide) ?_
      refine g_aload_n C 1 dX0_find_145 rfl ?_
      refine g_aload_n C 2 dX0_find_146 rfl ?_
      refine g_iload_n C 3 dX0_find_147 rfl ?_
      refine g_iload_n C 4 dX0_find_148 rfl ?_
      obtain ⟨q17, eq17, h⟩ := g_bd h
      refine g_calliV C 128 [gr 1, gi x2, gi x3] (kX0_findChoice hN hrec eq17) qs_X0_116 (by omega) (by omega) rfl rfl rfl rfl (Nat.le_of_ble_eq_true rfl) ⟨Nat.zero_le _, Nat.zero_le _⟩ dX0_find_149 ?_
      refine g_istore C dX0_find_152 (by decide) rfl ?_
      refine g_goto C dX0_find_154 (tgt := 157) (by decide) ?_
      refine g_sub [1, 3, 0] rfl ?_
      exact wX0_find_b157 hN hrec C hr h
    have h := g_ff c16 h
    refine g_tableOut C dX0_find_22 (tgt := 157) (g_sw1_8 c3 c4 c6 c8 c10 c12 c14 c16) (by decide) ?_
    refine g_sub [1, 3, 0] rfl ?_
    exact wX0_find_b157 hN hrec C hr h
  · have h := g_ff c1 h
    refine g_aload_n C 0 dX0_find_6 rfl ?_
    refine g_iconst (v := 4) C dX0_find_7 (by decide) ?_
    refine g_iload_n C 2 dX0_find_8 rfl ?_
    obtain ⟨q18, eq18, h⟩ := g_bd h
    refine g_calliV C 128 [gi 4, gi x2] (kX0_fail hN eq18) qs_X0_91 (by omega) (by omega) rfl rfl rfl rfl (Nat.le_of_ble_eq_true rfl) ⟨Nat.zero_le _, Nat.zero_le _⟩ dX0_find_9 ?_
    obtain ⟨rfl, rfl⟩ := Prod.mk.inj (Option.some.inj h)
    exact g_reti C hr dX0_find_12

set_option maxHeartbeats 2000000 in
set_option maxRecDepth 20000 in
theorem kX0_find_body {l : Launch} {D : va_G} {g : gT} {N : Nat} {ad ln : Nat → Nat} (hN : 183 ≤ N) {rec : gM → Int32 → Int32 → Option (gM × Int32)} {fu : Nat} (hrec : ∀ {A A' : gM} {y0 : Int32} {y1 : Int32} {r : Int32}, rec A y0 y1 = some (A', r) → gKi l yX0_find cX0_find 5 (some .int) (20 + 2 * fu) D g N ad ln A [gr 128, gr 1, gi y0, gi y1] A' r) {A A' : gM} {x2 : Int32} {x3 : Int32} {r : Int32} (h : mX0_find_body rec A x2 x3 = some (A', r)) : gKi l yX0_find cX0_find 5 (some .int) ((20 + 2 * fu + 2)) D g N ad ln A [gr 128, gr 1, gi x2, gi x3] A' r := by
  refine g_meti (by decide) (Nat.le_of_ble_eq_true rfl) ?_
  intro p e s m args below meth c C hr
  refine g_sub [0, 1, 2, 3] rfl ?_
  exact wX0_find_b0 hN hrec C hr h
set_option maxHeartbeats 2000000 in
set_option maxRecDepth 20000 in
theorem kX0_find {l : Launch} {D : va_G} {g : gT} {N : Nat} {ad ln : Nat → Nat} (hN : 183 ≤ N) : ∀ (f : Nat) {A A' : gM} {x2 : Int32} {x3 : Int32} {r : Int32}, mX0_find f A x2 x3 = some (A', r) → gKi l yX0_find cX0_find 5 (some .int) (20 + 2 * f) D g N ad ln A [gr 128, gr 1, gi x2, gi x3] A' r
  | 0, _, _, _, _, _, h => by cases h
  | f + 1, _, _, _, _, _, h => kX0_find_body hN (fun h => kX0_find hN f h) h
def mX0_settle_b0 (A : gM) (x2 : Int32) : Option (gM) :=
  (mX4_clear A).bind fun q1 =>
  (mX1_clear q1).bind fun q2 =>
  g_let (g_up q2 128 3 0) fun A3 =>
  g_let (g_up A3 128 4 (-1)) fun A4 =>
  (mX0_find 41 A4 x2 0).bind fun q5 =>
  if q5.2 = (-1) then
  (mX3_putFault q5.1 x2 (q5.1 128 3) (q5.1 128 4)).bind fun q10 =>
  some q10
  else
  (mX4_forgetMarks q5.1).bind fun q7 =>
  (mX4_write q7 q5.2).bind fun q8 =>
  (mX3_putRow q8.1 x2 q8.2).bind fun q9 =>
  some q9
def mX0_settle (A : gM) (x2 : Int32) : Option (gM) := mX0_settle_b0 A x2
set_option maxHeartbeats 2000000 in
set_option maxRecDepth 20000 in
theorem wX0_settle_b0 (hN : 183 ≤ N) {A0 A' : gM} (C : gC p R s m args meth c cX0_settle RX0 5 D g (va_A (gw g ad ln A0 N) s.heap.size) 103) (hr : meth.sig.returnType = none)  {A : gM} {x2 : Int32} (h : mX0_settle_b0 A x2 = some A') : gJ p l e R s m args below meth c (gEv below D g N ad ln A0 A' args s) 5 D g (va_A (gw g ad ln A0 N) s.heap.size) N ad ln A [(0, gr 128), (1, gr 1), (2, gi x2), (3, gr 43)] 0 0 0 [] := by
  unfold mX0_settle_b0 at h
  refine g_aload_n C 0 dX0_settle_0 rfl ?_
  refine g_get (v := gr 129) C 128 0 (by omega) rfl rfl gu_0 (by decide) qf_X0_12 rfl dX0_settle_1 ?_
  obtain ⟨q1, eq1, h⟩ := g_bd h
  refine g_callvV C 129 [] (kX4_clear hN eq1) qs_X0_29 (by omega) (by omega) rfl rfl rfl rfl (Nat.le_of_ble_eq_true rfl) ⟨Nat.zero_le _, Nat.zero_le _⟩ dX0_settle_4 ?_
  refine g_aload_n C 0 dX0_settle_7 rfl ?_
  refine g_get (v := gr 138) C 128 1 (by omega) rfl rfl gu_0 (by decide) qf_X0_21 rfl dX0_settle_8 ?_
  obtain ⟨q2, eq2, h⟩ := g_bd h
  refine g_callvV C 138 [] (kX1_clear hN eq2) qs_X0_32 (by omega) (by omega) rfl rfl rfl rfl (Nat.le_of_ble_eq_true rfl) ⟨Nat.zero_le _, Nat.zero_le _⟩ dX0_settle_11 ?_
  refine g_aload_n C 0 dX0_settle_14 rfl ?_
  refine g_iconst (v := 0) C dX0_settle_15 (by decide) ?_
  obtain ⟨A3, eA3, h⟩ := g_lt h
  refine g_put C 128 3 tyX0 tyX0_ok nmX0 (by omega) rfl rfl gu_0 (by decide) qf_X0_33 rfl (by decide +kernel) (Nat.le_of_ble_eq_true rfl) rfl eA3 dX0_settle_16 ?_
  refine g_aload_n C 0 dX0_settle_19 rfl ?_
  refine g_iconst (v := (-1)) C dX0_settle_20 (by decide) ?_
  obtain ⟨A4, eA4, h⟩ := g_lt h
  refine g_put C 128 4 tyX0 tyX0_ok nmX0 (by omega) rfl rfl gu_0 (by decide) qf_X0_37 rfl (by decide +kernel) (Nat.le_of_ble_eq_true rfl) rfl eA4 dX0_settle_21 ?_
  refine g_aload_n C 0 dX0_settle_24 rfl ?_
  refine g_aload_n C 1 dX0_settle_25 rfl ?_
  refine g_iload_n C 2 dX0_settle_26 rfl ?_
  refine g_iconst (v := 0) C dX0_settle_27 (by decide) ?_
  obtain ⟨q5, eq5, h⟩ := g_bd h
  refine g_calliV C 128 [gr 1, gi x2, gi 0] (kX0_find hN 41 eq5) qs_X0_40 (by omega) (by omega) rfl rfl rfl rfl (Nat.le_of_ble_eq_true rfl) ⟨Nat.zero_le _, Nat.zero_le _⟩ dX0_settle_28 ?_
  refine g_istore C dX0_settle_31 (by decide) rfl ?_
  refine g_iload C 0 dX0_settle_33 rfl ?_
  refine g_iconst (v := (-1)) C dX0_settle_35 (by decide) ?_
  refine g_icmp_ne C dX0_settle_36 (tgt := 53) (by decide) (fun c6 => ?_) (fun c6 => ?_)
  · have h := g_ff c6 h
    refine g_aload_n C 1 dX0_settle_53 rfl ?_
    refine g_get (v := gr 129) C 128 0 (by omega) rfl rfl gu_0 (by decide) qf_X0_12 rfl dX0_settle_54 ?_
    obtain ⟨q7, eq7, h⟩ := g_bd h
    refine g_callvV C 129 [] (kX4_forgetMarks hN eq7) qs_X0_50 (by omega) (by omega) rfl rfl rfl rfl (Nat.le_of_ble_eq_true rfl) ⟨Nat.zero_le _, Nat.zero_le _⟩ dX0_settle_57 ?_
    refine g_aload_n C 4 dX0_settle_60 rfl ?_
    refine g_iload_n C 3 dX0_settle_61 rfl ?_
    refine g_aload_n C 1 dX0_settle_62 rfl ?_
    refine g_get (v := gr 182) C 128 2 (by omega) rfl rfl gu_0 (by decide) qf_X0_25 rfl dX0_settle_63 ?_
    refine g_aload_n C 1 dX0_settle_66 rfl ?_
    refine g_get (v := gr 129) C 128 0 (by omega) rfl rfl gu_0 (by decide) qf_X0_12 rfl dX0_settle_67 ?_
    refine g_iload C 0 dX0_settle_70 rfl ?_
    refine g_aload_n C 1 dX0_settle_72 rfl ?_
    refine g_get (v := gr 182) C 128 2 (by omega) rfl rfl gu_0 (by decide) qf_X0_25 rfl dX0_settle_73 ?_
    obtain ⟨q8, eq8, h⟩ := g_bd h
    refine g_calliV C 129 [gi q5.2, gr 182] (kX4_write hN eq8) qs_X0_53 (by omega) (by omega) rfl rfl rfl rfl (Nat.le_of_ble_eq_true rfl) ⟨Nat.zero_le _, Nat.zero_le _⟩ dX0_settle_76 ?_
    obtain ⟨q9, eq9, h⟩ := g_bd h
    refine g_callvV C 43 [gi x2, gr 182, gi q8.2] (kX3_putRow hN eq9) qs_X0_57 (by omega) (by omega) rfl rfl rfl rfl (Nat.le_of_ble_eq_true rfl) ⟨Nat.zero_le _, Nat.zero_le _⟩ dX0_settle_79 ?_
    obtain rfl := Option.some.inj h
    exact g_retv C hr dX0_settle_82
  · have h := g_tt c6 h
    refine g_aload_n C 4 dX0_settle_39 rfl ?_
    refine g_iload_n C 3 dX0_settle_40 rfl ?_
    refine g_aload_n C 1 dX0_settle_41 rfl ?_
    refine g_get (v := gi (q5.1 128 3)) C 128 3 (by omega) rfl rfl gu_0 (by decide) qf_X0_33 rfl dX0_settle_42 ?_
    refine g_aload_n C 1 dX0_settle_45 rfl ?_
    refine g_get (v := gi (q5.1 128 4)) C 128 4 (by omega) rfl rfl gu_0 (by decide) qf_X0_37 rfl dX0_settle_46 ?_
    obtain ⟨q10, eq10, h⟩ := g_bd h
    refine g_callvV C 43 [gi x2, gi (q5.1 128 3), gi (q5.1 128 4)] (kX3_putFault hN eq10) qs_X0_44 (by omega) (by omega) rfl rfl rfl rfl (Nat.le_of_ble_eq_true rfl) ⟨Nat.zero_le _, Nat.zero_le _⟩ dX0_settle_49 ?_
    obtain rfl := Option.some.inj h
    exact g_retv C hr dX0_settle_52

set_option maxHeartbeats 2000000 in
set_option maxRecDepth 20000 in
theorem kX0_settle {l : Launch} {D : va_G} {g : gT} {N : Nat} {ad ln : Nat → Nat} (hN : 183 ≤ N) {A A' : gM} {x2 : Int32} (h : mX0_settle A x2 = some A') : gKv l yX0_settle cX0_settle 5 (none) (103) D g N ad ln A [gr 128, gr 1, gi x2, gr 43] A' := by
  refine g_metv (by decide) (Nat.le_of_ble_eq_true rfl) ?_
  intro p e s m args below meth c C hr
  refine g_sub [0, 1, 2, 3] rfl ?_
  exact wX0_settle_b0 hN C hr h
end T0
